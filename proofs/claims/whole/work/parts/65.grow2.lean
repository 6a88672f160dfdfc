/-! ===== the class: a tree grows ===== -/
def tnR (τ : St) (O : List Nd) : Prop := τ 46 5 = nI O.length ∧ ∀ k x, O[k]? = some x → τ 47 k = nI x.1 ∧ τ 48 k = x.2.1 ∧ τ 49 k = x.2.2.1 ∧ τ 50 k = nI x.2.2.2.1 ∧ τ 51 k = nI x.2.2.2.2
theorem tnR.eq {σ τ : St} {O : List Nd} (h : tnR σ O) (e : ∀ a, 46 ≤ a → a ≤ 51 → τ a = σ a) : tnR τ O := by
  unfold tnR at *
  rw [e 46 (by decide) (by decide), e 47 (by decide) (by decide), e 48 (by decide) (by decide), e 49 (by decide) (by decide), e 50 (by decide) (by decide), e 51 (by decide) (by decide)]
  exact h
theorem tnR.add {σ τ : St} {O : List Nd} (h : tnR σ O) (x : Nd) (e : tnP σ O.length (nI x.1) x.2.1 x.2.2.1 (nI x.2.2.2.1) (nI x.2.2.2.2) τ) : tnR τ (O ++ [x]) := by
  obtain ⟨h1, h2⟩ := h
  have e : τ = _ := e
  subst e
  refine ⟨by simp [up_eq], fun k y hy => ?_⟩
  by_cases q : k = O.length
  · subst q
    rw [List.getElem?_append_right (Nat.le_refl _), Nat.sub_self] at hy
    simp at hy
    subst hy
    simp [up_eq]
  · have hk : k < O.length := by
      have := (List.getElem?_eq_some_iff.mp hy).1
      simp at this
      omega
    rw [List.getElem?_append_left hk] at hy
    have := h2 k y hy
    simp [up_eq, q, this]
abbrev dR (w dp dd s : Nat) : Prop := lev w dp = dd ∨ (ones s ≤ dd ∧ (lev w dp = 0 ∨ ones s ≤ lev w dp))
theorem dR_ms {t : TD} (ht : tOK t) {w dp dd s : Nat} (hd1 : 1 ≤ dd) (hs0 : 0 < s) (hs : s < 2 ^ tn t) (h : dR w dp dd s) : ms t (lev w dp) s = ms t dd s := by
  rcases h with q | ⟨q1, q2⟩
  · rw [q]
  · exact ms_sat ht s hs0 hs _ _ q2 (Or.inr q1)
theorem dR_child {w dp dd s p : Nat} (h : dR w dp dd s) (h2 : 2 ≤ dd) (hw : w = 0 ∨ dp ≤ w) (hp : 0 < ones p) (hlt : ones p < ones s) : dR w (dp + 1) (dd - 1) p := by
  unfold dR lev at *
  by_cases e : w = 0
  · rw [if_pos e] at h ⊢
    rcases h with q | ⟨q, -⟩
    · omega
    · exact Or.inr ⟨by omega, Or.inl rfl⟩
  · rw [if_neg e] at h ⊢
    omega
abbrev kdA (t : TD) (g s c dp x : Nat) : List It := kdF t g s c dp (60 - x)
theorem kd_s {t : TD} {g s c dp x : Nat} (hx : x < 60) : kdA t g s c dp x = if pA t g s x = 0 then kdA t g s c dp (x + 1) else (pA t g s x, nI c, nI x, dp + 1) :: kdA t g s c dp (x + 1) := by
  obtain ⟨j, hj⟩ : ∃ j, 60 - x = j + 1 := ⟨59 - x, by omega⟩
  unfold kdA
  rw [hj]
  show (if pA t g s (59 - j) = 0 then kdF t g s c dp j else (pA t g s (59 - j), nI c, nI (59 - j), dp + 1) :: kdF t g s c dp j) = _
  rw [show 59 - j = x by omega, show 60 - (x + 1) = j by omega]
theorem kd_skip {t : TD} {g s c dp : Nat} : ∀ a x, x ≤ a → a ≤ 60 → (∀ a', x ≤ a' → a' < a → pA t g s a' = 0) → kdA t g s c dp x = kdA t g s c dp a := by
  intro a
  induction a with
  | zero => intro x hx _ _; rw [show x = 0 by omega]
  | succ a ih =>
    intro x hx ha h
    by_cases e : x = a + 1
    · rw [e]
    · rw [ih x (by omega) (by omega) (fun a' h1 h2 => h a' h1 (by omega)), kd_s (by omega), if_pos (h a (by omega) (by omega))]
theorem grow_fin {t : TD} {w s dp : Nat} {o a : Int32} {O : List Nd} {Xs : List Nd} {g : Nat} (hg : bg t (lev w dp) s = g) (h : ∀ r F, Xs.length ≤ F → runT t w F (kdA t g s O.length dp 0 ++ r) (O.length + 1) = Xs ++ runT t w (F - Xs.length) r (O.length + 1 + Xs.length)) : ∀ r F, (ndO t w (s, o, a, dp) :: Xs).length ≤ F → runT t w F ((s, o, a, dp) :: r) O.length = (ndO t w (s, o, a, dp) :: Xs) ++ runT t w (F - (ndO t w (s, o, a, dp) :: Xs).length) r (O.length + (ndO t w (s, o, a, dp) :: Xs).length) := by
  intro r F hF
  rw [List.length_cons] at hF ⊢
  obtain ⟨F', rfl⟩ : ∃ F', F = F' + 1 := ⟨F - 1, by omega⟩
  show ndO t w (s, o, a, dp) :: runT t w F' (kdF t (bg t (lev w dp) s) s O.length dp 60 ++ r) (O.length + 1) = _
  rw [hg]
  have := h r F' (by omega)
  rw [show kdF t g s O.length dp 60 = kdA t g s O.length dp 0 from rfl, this]
  rw [List.cons_append, show F' + 1 - (Xs.length + 1) = F' - Xs.length by omega, show O.length + (Xs.length + 1) = O.length + 1 + Xs.length by omega]
/-- what grow leaves -/
abbrev grP (b R P C n : Nat) (L : Nat → Nat) (any : Bool) (E : Ent) (w : Nat) (σ : St) (O : List Nd) (i : It) (r : Option Value) (τ : St) : Prop := r = none ∧ (∀ a, ¬ (a = b + 9 ∨ (46 ≤ a ∧ a ≤ 51)) → τ a = σ a) ∧ frS τ b R P C n L any E ∧ ∃ X : List Nd, tnR τ (O ++ X) ∧ X.length ≤ 2 * ones i.1 - 1 ∧ ∀ r F, X.length ≤ F → runT (tdC P C n L any) w F (i :: r) O.length = X ++ runT (tdC P C n L any) w (F - X.length) r (O.length + X.length)
theorem C1_grow {b R SL : Nat} (hY : frY b R SL) {P C n w : Nat} {L : Nat → Nat} {any : Bool} {E : Ent} (hw10 : w ≤ 10) : ∀ z s dd dp (o a : Int32) (O : List Nd) (σ : St), 0 < s → s < 2 ^ n → ones s ≤ z → 1 ≤ dd → dd ≤ 10 → dR w dp dd s → itOK (tdC P C n L any) w (s, o, a, dp) → dp + ones s ≤ 12 → O.length + (2 * ones s - 1) ≤ 20 → ((o < 0 ∧ dp = 1) ∨ ∃ q x, o = nI q ∧ O[q]? = some x ∧ x.2.2.2.2 + 1 = dp) → frS σ b R P C n L any E → tnR σ O → Mt YC mX1_grow (49 + z) [.ref b, .ref 46, .int (nI s), .int (nI dd), .int o, .int a] σ (grP b R P C n L any E w σ O (s, o, a, dp)) := by
  obtain ⟨y0, y1, y2, y3, y4, y5, y6, y7, y8, y9, yR, -, yb1, yb2⟩ := id hY
  intro z
  induction z with
  | zero =>
    intro s dd dp o a O σ h0 hs hz _ _ _ _ _ _ _ hS _
    have := ones_pos' (n := n) hS.2.1.1.1.1 hs h0
    omega
  | succ z ih =>
    intro s dd dp o a O σ h0 hs hz hd1 hd10 hdR hit hdp hlen hor hS hT
    obtain ⟨hbk, hF, hme⟩ := id hS
    have ht := hF.1
    have h10 : n ≤ 10 := ht.1.1
    have hn := p2n h10
    have hop := ones_pos' h10 hs h0
    have hC4 := hbk.1.2.1
    obtain ⟨i1, i2, ⟨q, hq⟩, i4, i5, i6⟩ := id hit
    have hq : ms (tdC P C n L any) (lev w dp) s = some q := hq
    have hqd : ms (tdC P C n L any) dd s = some q := by rw [← dR_ms ht.1 hd1 h0 hs hdR]; exact hq
    have hgb : bg (tdC P C n L any) (lev w dp) s = q.2 := by unfold bg; rw [hq]
    have hgd : bg (tdC P C n L any) dd s = q.2 := by unfold bg; rw [hqd]
    obtain ⟨g1, g2, g3⟩ := bg_ok ht.1 (d := dd) hs ⟨q, hqd⟩
    rw [hgd] at g1 g2 g3
    have g1 : q.2 < C ^ P := g1
    have hkok := kdF_ok ht.1 (c := O.length) hw10 hit (by show dp ≤ 29; omega)
    have hkpot : pot (kdA (tdC P C n L any) q.2 s O.length dp 0) + 1 ≤ 2 * ones s - 1 := kdF_pot ht.1 ht.2.2.2.2.2 h0 hs g2
    have hnpt10 : npt (tdC P C n L any) q.2 s ≤ 10 := by
      have hse := sum_ones_eq ht g1 hs
      have hnle : npt (tdC P C n L any) q.2 s ≤ sumN 60 (fun a => ones (pA (tdC P C n L any) q.2 s a)) := by
        unfold npt
        rw [← cnt_sum]
        exact sumN_mono (fun a _ => by
          by_cases zz : pA (tdC P C n L any) q.2 s a = 0
          · simp [zz]
          · have := ones_pos' h10 (pA_lt (t := tdC P C n L any) q.2 s a) (by omega); simp [zz]; omega)
      have : ones s ≤ n := by rw [← cnt_bits h10 hs]; exact cnt_le _ _
      omega
    refine Mt.ofA [some (.ref b), some (.ref 46), some (.int (nI s)), some (.int (nI dd)), some (.int o), some (.int a), none, none, none, none] (by decide) (fun _ => Nat.le_of_ble_eq_true rfl) (fun _ => rfl) (fun g hc => ?_)
    have k63 : ∀ m x, 60 - x = m → x ≤ 60 → ∀ (v : Int32) (Xs : List Nd) τ, nxP (tdC P C n L any) q.2 s x v → (∀ a, ¬ (a = b + 9 ∨ (46 ≤ a ∧ a ≤ 51)) → τ a = σ a) → frS τ b R P C n L any E → tnR τ (O ++ ndO (tdC P C n L any) w (s, o, a, dp) :: Xs) → (∀ r F, Xs.length ≤ F → runT (tdC P C n L any) w F (kdA (tdC P C n L any) q.2 s O.length dp 0 ++ r) (O.length + 1) = Xs ++ runT (tdC P C n L any) w (F - Xs.length) (kdA (tdC P C n L any) q.2 s O.length dp x ++ r) (O.length + 1 + Xs.length)) → Xs.length + pot (kdA (tdC P C n L any) q.2 s O.length dp x) ≤ pot (kdA (tdC P C n L any) q.2 s O.length dp 0) → aW g YC 10 (grP b R P C n L any E w σ O (s, o, a, dp)) 63 [some (.ref b), some (.ref 46), some (.int (nI s)), some (.int (nI dd)), some (.int o), some (.int a), some (.int (nI q.2)), some (.int (nI O.length)), some (.int v), some (.int (nI (cnt x (fun a => decide (¬ pA (tdC P C n L any) q.2 s a = 0)))))] [] τ := by
      intro m
      induction m using Nat.strongRecOn with
      | ind m ihm =>
      intro x hxm hx60 v Xs τ hv hfr hSt hTt hrun hpot
      have hcx : cnt x (fun a => decide (¬ pA (tdC P C n L any) q.2 s a = 0)) ≤ npt (tdC P C n L any) q.2 s := cnt_mono _ hx60
      rcases hv with ⟨a1, v1, v2, v3, v4, rfl⟩ | ⟨v1, rfl⟩
      · have ekd : kdA (tdC P C n L any) q.2 s O.length dp x = (pA (tdC P C n L any) q.2 s a1, nI O.length, nI a1, dp + 1) :: kdA (tdC P C n L any) q.2 s O.length dp (a1 + 1) := by
          rw [kd_skip a1 x v1 (by omega) v4, kd_s v2, if_neg v3]
        have hcnt : cnt (a1 + 1) (fun a => decide (¬ pA (tdC P C n L any) q.2 s a = 0)) = cnt x (fun a => decide (¬ pA (tdC P C n L any) q.2 s a = 0)) + 1 := by
          show cnt a1 (fun a => decide (¬ pA (tdC P C n L any) q.2 s a = 0)) + (if decide (¬ pA (tdC P C n L any) q.2 s a1 = 0) = true then 1 else 0) = _
          rw [decide_eq_true v3, if_pos rfl]
          congr 1
          obtain ⟨e, he⟩ : ∃ e, a1 = x + e := ⟨a1 - x, by omega⟩
          rw [he, cnt_add, cnt_zero (p := fun k => decide (¬ pA (tdC P C n L any) q.2 s (x + k) = 0)) (fun k hk => decide_eq_false (fun zz => zz (v4 (x + k) (by omega) (by omega)))), Nat.add_zero]
        have hc2 : cnt (a1 + 1) (fun a => decide (¬ pA (tdC P C n L any) q.2 s a = 0)) ≤ npt (tdC P C n L any) q.2 s := cnt_mono _ (by omega)
        obtain ⟨p1, p2⟩ := part_ok ht.1 g2 hs v3 v2
        have hpl := pA_lt (t := tdC P C n L any) q.2 s a1
        have hpl : pA (tdC P C n L any) q.2 s a1 < 2 ^ n := hpl
        have hpo := ones_pos' h10 hpl (by omega)
        have hd2 : 2 ≤ dd := by have := (g3 a1 v2 v3).1; omega
        have hmemk : (pA (tdC P C n L any) q.2 s a1, nI O.length, nI a1, dp + 1) ∈ kdF (tdC P C n L any) (bg (tdC P C n L any) (lev w dp) s) s O.length dp 60 := by
          rw [hgb]
          have e0 := kd_skip (t := tdC P C n L any) (g := q.2) (s := s) (c := O.length) (dp := dp)
          have : ∀ j, j ≤ a1 → (pA (tdC P C n L any) q.2 s a1, nI O.length, nI a1, dp + 1) ∈ kdA (tdC P C n L any) q.2 s O.length dp (a1 - j) := by
            intro j
            induction j with
            | zero => intro _; rw [Nat.sub_zero, kd_s v2, if_neg v3]; exact List.mem_cons_self
            | succ j ihj =>
              intro hj
              have := ihj (by omega)
              rw [kd_s (by omega), show a1 - (j + 1) + 1 = a1 - j by omega]
              split
              · exact this
              · exact List.mem_cons_of_mem _ this
          have := this a1 (Nat.le_refl _)
          rw [Nat.sub_self] at this
          exact this
        have hprt : prt s (tA (tdC P C n L any) q.2) n a1 = pA (tdC P C n L any) q.2 s a1 := by
          unfold pA
          rw [if_neg]
          intro e
          unfold pA at v3
          rw [if_pos e] at v3
          exact v3 rfl
        have hpe : pot (kdA (tdC P C n L any) q.2 s O.length dp x) = (2 * ones (pA (tdC P C n L any) q.2 s a1) - 1) + pot (kdA (tdC P C n L any) q.2 s O.length dp (a1 + 1)) := by rw [ekd]; rfl
        have hlen2 : (O ++ ndO (tdC P C n L any) w (s, o, a, dp) :: Xs).length = O.length + 1 + Xs.length := by simp; omega
        have hgr := ih (pA (tdC P C n L any) q.2 s a1) (dd - 1) (dp + 1) (nI O.length) (nI a1) (O ++ ndO (tdC P C n L any) w (s, o, a, dp) :: Xs) τ (by omega) hpl (by omega) (by omega) (by omega) (dR_child hdR hd2 i6 hpo p2) (hkok 60 (Nat.le_refl _) _ hmemk) (by omega) (by rw [hlen2]; omega) (Or.inr ⟨O.length, ndO (tdC P C n L any) w (s, o, a, dp), rfl, by rw [List.getElem?_append_right (Nat.le_refl _), Nat.sub_self]; rfl, rfl⟩) hSt hTt
        refine st_iload hc dX1_grow_63 rfl ?_
        refine st_bipush (v := 10) hc dX1_grow_65 (by decide) ?_
        refine st_icmp_ge (tgt := 114) hc dX1_grow_67 (by decide) (fun h67 => ?_) (fun h67 => ?_)
        · exact absurd h67 (nI_ge (b := 10) (by omega) (by decide))
        · refine st_iload hc dX1_grow_70 rfl ?_
          refine st_iconst (v := (-1)) hc dX1_grow_72 (by decide) ?_
          refine st_icmp_eq (tgt := 114) hc dX1_grow_73 (by decide) (fun h73 => ?_) (fun h73 => ?_)
          · exact absurd h73.symm (nI_neg1 (by omega))
          · refine st_aload_n hc dX1_grow_76 rfl rfl ?_
            refine st_aload_n hc dX1_grow_77 rfl rfl ?_
            refine st_aload_n hc dX1_grow_78 rfl rfl ?_
            refine st_iload hc dX1_grow_79 rfl ?_
            refine st_iload_n hc dX1_grow_81 rfl rfl ?_
            refine st_iload hc dX1_grow_82 rfl ?_
            refine st_callVp hc dX1_grow_84 (C1_withAnswer 40 τ hY hSt g1 hs v2) mvX1_174 (by omega) rfl y0 rfl (Nat.le_of_ble_eq_true rfl) ?_
            refine st_iload_n hc dX1_grow_87 rfl rfl ?_
            refine st_iconst (v := 1) hc dX1_grow_88 (by decide) ?_
            refine st_isub hc dX1_grow_89 ?_
            rw [hprt, show (1 : Int32) = nI 1 from rfl, nI_sub (by omega)]
            refine st_iload hc dX1_grow_90 rfl ?_
            refine st_iload hc dX1_grow_92 rfl ?_
            refine st_callVn hc dX1_grow_94 (hgr) mvX1_162 (by omega) rfl y0 rfl (Nat.le_of_ble_eq_true rfl) ?_
            rintro τ1 ⟨f1, f2, X1, f3, f4, f5⟩
            refine st_aload_n hc dX1_grow_97 rfl rfl ?_
            refine st_iload hc dX1_grow_98 rfl ?_
            refine st_iload_n hc dX1_grow_100 rfl rfl ?_
            refine st_iload hc dX1_grow_101 rfl ?_
            refine st_callV hc dX1_grow_103 (by have := C1_nextAnswer 40 τ1 hY f2 g1 hs (x := a1 + 1) (by omega); rw [nI_pred] at this; exact this) mvX1_170 (by omega) rfl y0 rfl (Nat.le_of_ble_eq_true rfl) ?_
            rintro r τ2 ⟨⟨v', er, hv'⟩, e2⟩
            subst er e2
            show aW g YC 10 _ _ _ (.int v' :: []) τ2
            refine st_istore hc dX1_grow_106 (by decide) rfl ?_
            refine st_inc hc dX1_grow_108 rfl (by decide) rfl ?_
            rw [nI_1, ← hcnt]
            refine st_goto (tgt := 63) hc dX1_grow_111 (by decide) ?_
            refine ihm (60 - (a1 + 1)) (by omega) (a1 + 1) rfl (by omega) v' (Xs ++ X1) τ2 hv' (fun e he => (f1 e he).trans (hfr e he)) f2 ?_ (fun r F hF => ?_) ?_
            · rw [List.append_assoc] at f3; exact f3
            · rw [List.length_append] at hF ⊢
              rw [hrun r F (by omega), ekd, List.cons_append]
              have q9 := f5 (kdA (tdC P C n L any) q.2 s O.length dp (a1 + 1) ++ r) (F - Xs.length) (by omega)
              rw [hlen2] at q9
              rw [q9, List.append_assoc, show F - Xs.length - X1.length = F - (Xs.length + X1.length) by omega, show O.length + 1 + Xs.length + X1.length = O.length + 1 + (Xs.length + X1.length) by omega]
            · rw [List.length_append]
              have f4 : X1.length ≤ 2 * ones (pA (tdC P C n L any) q.2 s a1) - 1 := f4
              omega
      · have ekd : kdA (tdC P C n L any) q.2 s O.length dp x = [] := by
          rw [kd_skip 60 x hx60 (Nat.le_refl _) (fun a' h1 h2 => v1 a' h1 h2)]
          rfl
        have hfin := grow_fin (o := o) (a := a) (Xs := Xs) hgb (fun r F hF => by have q9 := hrun r F hF; rw [ekd] at q9; exact q9)
        have hres : grP b R P C n L any E w σ O (s, o, a, dp) none τ := ⟨rfl, hfr, hSt, _, hTt, by rw [List.length_cons]; show Xs.length + 1 ≤ 2 * ones s - 1; omega, hfin⟩
        refine st_iload hc dX1_grow_63 rfl ?_
        refine st_bipush (v := 10) hc dX1_grow_65 (by decide) ?_
        refine st_icmp_ge (tgt := 114) hc dX1_grow_67 (by decide) (fun h67 => ?_) (fun h67 => ?_)
        · refine st_vret (st := []) hc dX1_grow_114 rfl ?_
          exact hres
        · refine st_iload hc dX1_grow_70 rfl ?_
          refine st_iconst (v := (-1)) hc dX1_grow_72 (by decide) ?_
          refine st_icmp_eq (tgt := 114) hc dX1_grow_73 (by decide) (fun h73 => ?_) (fun h73 => ?_)
          · refine st_vret (st := []) hc dX1_grow_114 rfl ?_
            exact hres
          · exact absurd rfl h73
    refine st_iload_n hc dX1_grow_0 rfl rfl ?_
    refine st_iconst (v := 1) hc dX1_grow_1 (by decide) ?_
    refine st_icmp_lt (tgt := 14) hc dX1_grow_2 (by decide) (fun h2 => ?_) (fun h2 => ?_)
    · exact absurd ((nI_ltI (b := 1) (by omega) (by decide)).mp h2) (by omega)
    · refine st_aload_n hc dX1_grow_5 rfl rfl ?_
      refine st_getE hc dX1_grow_6 flX1_157 rfl rfl (hT.1) ?_
      refine st_bipush (v := 20) hc dX1_grow_9 (by decide) ?_
      refine st_icmp_lt (tgt := 15) hc dX1_grow_11 (by decide) (fun h11 => ?_) (fun h11 => ?_)
      · refine st_aload_n hc dX1_grow_15 rfl rfl ?_
        refine st_iload_n hc dX1_grow_16 rfl rfl ?_
        refine st_iload_n hc dX1_grow_17 rfl rfl ?_
        refine st_callVq hc dX1_grow_18 (C1_shortGuess hY hF h0 hs hd1 hd10 hqd hS.fm) mvX1_132 (by omega) rfl y0 rfl (Nat.le_of_ble_eq_true rfl) ?_
        rintro τ1 j1
        have hS1 := frS.of yb1 hS j1
        have hT1 : tnR τ1 O := hT.eq (fun e h1 h2 => j1.1 e (by omega))
        refine st_istore hc dX1_grow_21 (by decide) rfl ?_
        refine st_iload hc dX1_grow_23 rfl ?_
        refine st_iconst (v := (-1)) hc dX1_grow_25 (by decide) ?_
        refine st_icmp_ne (tgt := 30) hc dX1_grow_26 (by decide) (fun h26 => ?_) (fun h26 => ?_)
        · refine st_aload_n hc dX1_grow_30 rfl rfl ?_
          refine st_getE hc dX1_grow_31 flX1_157 rfl rfl (hT1.1) ?_
          refine st_istore hc dX1_grow_34 (by decide) rfl ?_
          refine st_aload_n hc dX1_grow_36 rfl rfl ?_
          refine st_iload hc dX1_grow_37 rfl ?_
          refine st_iload hc dX1_grow_39 rfl ?_
          refine st_iload hc dX1_grow_41 rfl ?_
          refine st_iload_n hc dX1_grow_43 rfl rfl ?_
          refine st_callSp hc dX1_grow_44 (CJ_bitCount YC 40 τ1 s (by omega)) msX1_143 (by omega) rfl rfl (Nat.le_of_ble_eq_true rfl) ?_
          rw [pc_ones (show s < 2 ^ 11 by omega)]
          have hadd := C9_add 40 τ1 hT1.1 (by omega) (nI q.2) o a (nI (ones s)) (nI dp) (by
            rcases hor with ⟨z1, z2⟩ | ⟨k, x, z1, z2, z3⟩
            · exact Or.inl ⟨z1, by rw [z2]; rfl⟩
            · exact Or.inr ⟨k, z1, (List.getElem?_eq_some_iff.mp z2).1, by rw [(hT1.2 k x z2).2.2.2.2, nI_1, z3]⟩)
          refine st_callVn hc dX1_grow_47 (hadd) mvX1_166 (by omega) rfl rfl rfl (Nat.le_of_ble_eq_true rfl) ?_
          rintro τ2 j2
          have hT2 : tnR τ2 (O ++ [ndO (tdC P C n L any) w (s, o, a, dp)]) := hT1.add (ndO (tdC P C n L any) w (s, o, a, dp)) (by show tnP τ1 O.length (nI (bg (tdC P C n L any) (lev w dp) s)) o a (nI (ones s)) (nI dp) τ2; rw [hgb]; exact j2)
          have hE2 : ∀ e, ¬ (46 ≤ e ∧ e ≤ 51) → τ2 e = τ1 e := fun e he => by
            have j2 : τ2 = _ := j2
            rw [j2, up_o e (by omega), up_o e (by omega), up_o e (by omega), up_o e (by omega), up_o e (by omega), up_o e (by omega)]
          have hS2 := hS1.eq yb1 yb2 (fun e he => hE2 e (by omega))
          refine st_aload_n hc dX1_grow_50 rfl rfl ?_
          refine st_iload hc dX1_grow_51 rfl ?_
          refine st_iload_n hc dX1_grow_53 rfl rfl ?_
          refine st_iconst (v := (-1)) hc dX1_grow_54 (by decide) ?_
          refine st_callV hc dX1_grow_55 (C1_nextAnswer 40 τ2 hY hS2 g1 hs (x := 0) (by decide)) mvX1_170 (by omega) rfl y0 rfl (Nat.le_of_ble_eq_true rfl) ?_
          rintro r τ3 ⟨⟨v', er, hv'⟩, e2⟩
          subst er e2
          show aW g YC 10 _ _ _ (.int v' :: []) τ3
          refine st_istore hc dX1_grow_58 (by decide) rfl ?_
          refine st_iconst (v := 0) hc dX1_grow_60 (by decide) ?_
          refine st_istore hc dX1_grow_61 (by decide) rfl ?_
          exact k63 60 0 rfl (by decide) v' [] τ3 hv' (fun e he => by rw [hE2 e (by omega)]; exact j1.1 e (by omega)) hS2 hT2 (fun r F hF => rfl) (by rw [List.length_nil, Nat.zero_add]; exact Nat.le_refl _)
        · exact absurd h26.symm (nI_neg1 (by omega))
      · exact absurd ((nI_ltI (a := O.length) (b := 20) (by omega) (by decide)).mpr (by omega)) h11

