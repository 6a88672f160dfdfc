/-! ===== the total of a plan ===== -/
theorem cnt_full {n : Nat} {p : Nat → Bool} (h : cnt n p = n) : ∀ i, i < n → p i = true := by
  induction n with
  | zero => intro i hi; omega
  | succ n ih =>
    have h1 := cnt_le n p
    have e : cnt (n + 1) p = cnt n p + (if p n = true then 1 else 0) := rfl
    rw [e] at h
    by_cases q : p n = true
    · rw [if_pos q] at h
      intro i hi
      by_cases qi : i = n
      · subst qi; exact q
      · exact ih (by omega) i (by omega)
    · rw [if_neg q] at h
      omega
theorem pegOf_hi (P C x i : Nat) (hi : i < P) : pegOf (P + 1) C x i = pegOf P C (x / C) i := by
  unfold pegOf
  rw [Nat.div_div_eq_div_mul, show P + 1 - 1 - i = (P - 1 - i) + 1 by omega, Nat.pow_succ, Nat.mul_comm C]
theorem pegOf_lo (P C x : Nat) : pegOf (P + 1) C x P = x % C := by
  unfold pegOf
  rw [show P + 1 - 1 - P = 0 by omega, Nat.pow_zero, Nat.div_one]
theorem digits {C : Nat} (hC : 0 < C) : ∀ (P x c : Nat), x < C ^ P → c < C ^ P → (∀ i, i < P → pegOf P C x i = pegOf P C c i) → x = c := by
  intro P
  induction P with
  | zero => intro x c hx hc _; simp at hx hc; omega
  | succ P ih =>
    intro x c hx hc h
    have h1 : x / C = c / C := by
      refine ih _ _ ?_ ?_ (fun i hi => ?_)
      · exact Nat.div_lt_of_lt_mul (by rw [Nat.mul_comm, ← Nat.pow_succ]; exact hx)
      · exact Nat.div_lt_of_lt_mul (by rw [Nat.mul_comm, ← Nat.pow_succ]; exact hc)
      · rw [← pegOf_hi P C x i hi, ← pegOf_hi P C c i hi]; exact h i (by omega)
    have h2 := h P (by omega)
    rw [pegOf_lo, pegOf_lo] at h2
    have e1 := Nat.div_add_mod x C
    have e2 := Nat.div_add_mod c C
    rw [← e1, ← e2, h1, h2]
theorem ans_full {P C : Nat} (hP : 1 ≤ P) (hP5 : P ≤ 5) (hC : 1 ≤ C) (hC8 : C ≤ 8) {x c : Nat} (hx : x < C ^ P) (hc : c < C ^ P) (h : ans P C (fun i => nI (pegOf P C x i)) c = 10 * P) : x = c := by
  have h1 := blacks_le P C (fun i => nI (pegOf P C x i)) c
  have h2 := alike_P P C (fun i => nI (pegOf P C x i)) c
  have h3 : blacks P C (fun i => nI (pegOf P C x i)) c = P := by unfold ans at h; omega
  refine digits hC P x c hx hc (fun i hi => ?_)
  have h4 := cnt_full h3 i hi
  have h5 : nI (pegOf P C x i) = nI (pegOf P C c i) := by simpa using h4
  exact nI_inj (Nat.lt_trans (pegOf_lt hC x i) (by omega)) (Nat.lt_trans (pegOf_lt hC c i) (by omega)) h5
theorem mea_fuel {σ : St} (hp : plOK σ) (c : Nat) : ∀ f f' n, n < plN σ → n ≤ f → n ≤ f' → mea σ c f n = mea σ c f' n := by
  intro f
  induction f with
  | zero =>
    intro f' n hn h1 h2
    have : n = 0 := by omega
    subst this
    cases f' with
    | zero => rfl
    | succ f' => rw [mea, mea]; rw [if_pos rfl]
  | succ f ih =>
    intro f' n hn h1 h2
    cases f' with
    | zero =>
      have : n = 0 := by omega
      subst this
      rw [mea, mea]; rw [if_pos rfl]
    | succ f' =>
      rw [mea, mea]
      by_cases e : n = 0
      · rw [if_pos e, if_pos e]
      · obtain ⟨-, hpn⟩ := hp.2.2 n hn
        obtain ⟨⟨hf0, hfn⟩, -⟩ := hpn (by omega)
        rw [if_neg e, if_neg e, ih f' (pf σ n) (by omega) (by omega) (by omega)]
/-- the last child of n by the answer a, or -1 -/
def chd (σ : St) (n a m : Nat) : Int32 := match m with
  | 0 => -1
  | m + 1 => if chP σ n a m = true then nI m else chd σ n a m
/-- how many guesses the plan makes from node n on, till c is found -/
def pth (σ : St) (c : Nat) (f n : Nat) : Nat := match f with
  | 0 => 1
  | f + 1 => if pg σ n = c then 1 else pth σ c f (nat (chd σ n (cA2 σ (pg σ n) c) (plN σ))) + 1
def totS (σ : St) : Nat := sumN (lm σ) (fun k => pth σ (lth σ k) 40 0)
theorem chd_ex {σ : St} {n a : Nat} : ∀ m, 0 < cnt m (chP σ n a) → ∃ x, x < m ∧ chd σ n a m = nI x ∧ chP σ n a x = true := by
  intro m
  induction m with
  | zero => intro h; exact absurd h (Nat.lt_irrefl 0)
  | succ m ih =>
    intro h
    by_cases q : chP σ n a m = true
    · exact ⟨m, by omega, by rw [chd]; rw [if_pos q], q⟩
    · have e : cnt (m + 1) (chP σ n a) = cnt m (chP σ n a) + (if chP σ n a m = true then 1 else 0) := rfl
      rw [e, if_neg q] at h
      obtain ⟨x, h1, h2, h3⟩ := ih h
      exact ⟨x, by omega, by rw [chd]; rw [if_neg q]; exact h2, h3⟩
/-- the next node, where all nodes are whole -/
theorem next_ok {σ : St} (hm : mOK σ (pN σ) (cN σ) (nN σ) (tN σ) (liN σ)) (hp : plOK σ) {k n : Nat} (hk : k < lm σ) (hn : n < plN σ) (hw : wholeB σ n = true) (hme : meant σ (lth σ k) n = true) (hne : ¬ pg σ n = lth σ k) : ∃ x, x < plN σ ∧ n < x ∧ chd σ n (cA2 σ (pg σ n) (lth σ k)) (plN σ) = nI x ∧ meant σ (lth σ k) x = true := by
  obtain ⟨⟨hP, hC, hP1, hP5, hC1, hC8⟩, h2, h3, h4, -⟩ := id hm
  obtain ⟨hp0, hp40, hpl⟩ := id hp
  obtain ⟨⟨hg0, hgn⟩, -⟩ := hpl n hn
  have hl := lth_lt hk
  have ha : cA2 σ (pg σ n) (lth σ k) ≤ 10 * pN σ := ans_50 hP5 _ _
  have hna : ¬ cA2 σ (pg σ n) (lth σ k) = 10 * pN σ := fun q => hne (ans_full hP1 hP5 hC1 hC8 (by rw [← h3]; exact hgn) (by rw [← h3]; exact hl) q)
  have hb : hasB σ n (cA2 σ (pg σ n) (lth σ k)) (lm σ) = true := (anyN_iff _ _).mpr ⟨k, hk, by rw [hme]; simp⟩
  have hgG : hasG σ n (cA2 σ (pg σ n) (lth σ k)) = true := by
    unfold hasG
    rw [hb, beq_eq_false_iff_ne.mpr hna]
    rfl
  have hch : chN σ n (cA2 σ (pg σ n) (lth σ k)) = 1 := by
    unfold wholeB at hw
    have h := anyN_false (by simpa using hw) (cA2 σ (pg σ n) (lth σ k)) (show _ < 60 by omega)
    rw [hgG] at h
    simpa using h
  obtain ⟨x, hx1, hx2, hx3⟩ := chd_ex (plN σ) (show 0 < cnt (plN σ) (chP σ n (cA2 σ (pg σ n) (lth σ k))) by unfold chN at hch; omega)
  unfold chP at hx3
  simp only [Bool.and_eq_true, decide_eq_true_eq, beq_iff_eq] at hx3
  obtain ⟨⟨hx0, hx30⟩, hx31⟩ := hx3
  obtain ⟨-, hpn⟩ := hpl x hx1
  obtain ⟨⟨hf0, hfn⟩, -⟩ := hpn hx0
  have epf : pf σ x = n := by show nat (σ 30 x) = n; rw [hx30, nat_nI (by omega)]
  refine ⟨x, hx1, by omega, hx2, ?_⟩
  show mea σ (lth σ k) (39 + 1) x = true
  rw [mea, if_neg (by omega), epf, hx31, mea_fuel hp _ 39 40 n hn (by omega) (by omega)]
  simp only [beq_self_eq_true, Bool.true_and]
  exact hme
theorem neg20 : ∀ x, x < 40 → ¬ (0 : Int32) < -20 - nI x := by decide +kernel
theorem jud_pos {σ : St} (hp : plOK σ) (hj : 0 < judS σ) : (¬ (plN σ = 0 ∨ lm σ = 0)) ∧ ∀ n, n < plN σ → wholeB σ n = true := by
  have h1 : ¬ (plN σ = 0 ∨ lm σ = 0) := fun q => by unfold judS at hj; rw [if_pos q] at hj; exact absurd hj (by decide)
  have h2 : ¬ ¬ σ 0 5 = 0 := fun q => by unfold judS at hj; rw [if_neg h1, if_pos q] at hj; exact absurd hj (by decide)
  refine ⟨h1, fun n hn => ?_⟩
  rcases hb : wholeB σ n with _ | _
  · have h3 : 0 < cnt (plN σ) (nw σ) := Nat.lt_of_le_of_lt (Nat.zero_le _) (cnt_lt hn (by show (!wholeB σ n) = true; rw [hb]; rfl))
    unfold judS at hj
    rw [if_neg h1, if_neg h2, if_pos h3] at hj
    exact absurd hj (neg20 _ (Nat.lt_of_lt_of_le (nthT_ok h3).1 hp.2.1))
  · rfl
theorem pth_le (σ : St) (c : Nat) : ∀ f n, pth σ c f n ≤ f + 1 := by
  intro f
  induction f with
  | zero => intro n; exact Nat.le_refl _
  | succ f ih => intro n; rw [pth]; split; omega; have := ih (nat (chd σ n (cA2 σ (pg σ n) c) (plN σ))); omega
theorem W12_total {g : Gx} {σ : St} {Q : Option Value → St → Prop} {F : Nat → Int32} (hc : cX g YM RX12 cX12_total 7 (some .int) 9) (hm : mOK σ (pN σ) (cN σ) (nN σ) (tN σ) (liN σ)) (hp : plOK σ) (hj : 0 < judS σ) (hF : ∀ k, k < lm σ → F k = nI (lth σ k)) (hQ : ∀ w v, Q (some (.int (nI (totS σ)))) (jS σ F w v)) (w0 v0 : Nat → Int32) : aW g YM 7 Q 14 [some (.ref 0), none, none, none, none, none, none] [] (jS σ F w0 v0) := by
  obtain ⟨hpc, h2, h3, h4, -⟩ := id hm
  obtain ⟨hp0, hp40, hpl⟩ := id hp
  obtain ⟨hno, hwh⟩ := jud_pos hp hj
  have e43 : σ 0 43 = nI (plN σ) := (nI_nat hp0).symm
  have hlm : lm σ ≤ 4096 := Nat.le_trans (cnt_le _ _) h4
  have hp1 : 0 < plN σ := by rcases Nat.eq_zero_or_pos (plN σ) with q | q; exact absurd (Or.inl q) hno; exact q
  have k74 : ∀ (S : St) (x1 x2 : Int32) (n a : Nat), S 30 = σ 30 → S 31 = σ 31 → S 0 43 = σ 0 43 → a < 60 → n < plN σ → aW g YM 7 Q 116 [some (.ref 0), some (.int x1), some (.int x2), some (.int (nI n)), some (.int (nI a)), some (.int (chd σ n a (plN σ))), none] [] S → aW g YM 7 Q 74 [some (.ref 0), some (.int x1), some (.int x2), some (.int (nI n)), some (.int (nI a)), some (.int (-1)), some (.int (nI 1))] [] S := by
    intro S x1 x2 n a hS30 hS31 hS43 ha hn kk
    have hc1 : chd σ n a 1 = -1 := rfl
    have h := lpF (i0 := 1) (n := plN σ) (F := fun m => aW g YM 7 Q 74 [some (.ref 0), some (.int x1), some (.int x2), some (.int (nI n)), some (.int (nI a)), some (.int (chd σ n a m)), some (.int (nI m))] [] S) (by omega) ?_ (fun m hm1 hm2 ih => ?_)
    · rw [hc1] at h
      exact h
    · refine st_iload hc dX12_total_74 rfl ?_
      refine st_aload_n hc dX12_total_76 rfl rfl ?_
      refine st_getE hc dX12_total_77 flX12_189 rfl rfl (hS43.trans e43) ?_
      refine st_icmp_ge (tgt := 116) hc dX12_total_80 (by decide) (fun h80 => ?_) (fun h80 => ?_)
      · exact st_lvq _ (by simp [lvq]) kk
      · exact absurd (nI_le (Nat.le_refl _) (by omega)) h80
    · have ec : chd σ n a (m + 1) = if chP σ n a m = true then nI m else chd σ n a m := rfl
      refine st_iload hc dX12_total_74 rfl ?_
      refine st_aload_n hc dX12_total_76 rfl rfl ?_
      refine st_getE hc dX12_total_77 flX12_189 rfl rfl (hS43.trans e43) ?_
      refine st_icmp_ge (tgt := 116) hc dX12_total_80 (by decide) (fun h80 => ?_) (fun h80 => ?_)
      · exact absurd h80 (nI_ge hm2 (by omega))
      · refine st_aload_n hc dX12_total_83 rfl rfl ?_
        refine st_getr hc dX12_total_84 flX12_112 rfl rfl ?_
        refine st_iload hc dX12_total_87 rfl ?_
        refine st_ialdN (k := m) hc dX12_total_89 rfl (rfl) (by omega) (by decide) (congrFun hS30 m) ?_
        refine st_iload_n hc dX12_total_90 rfl rfl ?_
        refine st_icmp_ne (tgt := 110) hc dX12_total_91 (by decide) (fun h91 => ?_) (fun h91 => ?_)
        · rw [if_neg (show ¬ chP σ n a m = true by unfold chP; simp [h91])] at ec
          refine st_inc hc dX12_total_110 rfl (by decide) rfl ?_
          rw [nI_1, ← ec]
          refine st_goto (tgt := 74) hc dX12_total_113 (by decide) ?_
          exact ih
        · refine st_aload_n hc dX12_total_94 rfl rfl ?_
          refine st_getr hc dX12_total_95 flX12_115 rfl rfl ?_
          refine st_iload hc dX12_total_98 rfl ?_
          refine st_ialdN (k := m) hc dX12_total_100 rfl (rfl) (by omega) (by decide) (congrFun hS31 m) ?_
          refine st_iload hc dX12_total_101 rfl ?_
          refine st_icmp_ne (tgt := 110) hc dX12_total_103 (by decide) (fun h103 => ?_) (fun h103 => ?_)
          · rw [if_neg (show ¬ chP σ n a m = true by unfold chP; simp [h103])] at ec
            refine st_inc hc dX12_total_110 rfl (by decide) rfl ?_
            rw [nI_1, ← ec]
            refine st_goto (tgt := 74) hc dX12_total_113 (by decide) ?_
            exact ih
          · rw [if_pos (show chP σ n a m = true by unfold chP; rw [h91, h103, decide_eq_true (show 0 < m by omega)]; simp)] at ec
            refine st_iload hc dX12_total_106 rfl ?_
            refine st_istore hc dX12_total_108 (by decide) rfl ?_
            refine st_inc hc dX12_total_110 rfl (by decide) rfl ?_
            rw [nI_1, ← ec]
            refine st_goto (tgt := 74) hc dX12_total_113 (by decide) ?_
            exact ih
  have k31 : ∀ (k : Nat), k < lm σ → (∀ w v (s : Nat), aW g YM 7 Q 125 [some (.ref 0), some (.int (nI s)), some (.int (nI k)), none, none, none, none] [] (jS σ F w v) → True) → ∀ f n, plN σ ≤ n + f → n < plN σ → meant σ (lth σ k) n = true → ∀ s w v, (∀ w v, aW g YM 7 Q 125 [some (.ref 0), some (.int (nI (s + pth σ (lth σ k) f n - 1))), some (.int (nI k)), none, none, none, none] [] (jS σ F w v)) → aW g YM 7 Q 31 [some (.ref 0), some (.int (nI s)), some (.int (nI k)), some (.int (nI n)), none, none, none] [] (jS σ F w v) := by
    intro k hk _ f
    have hl := lth_lt hk
    induction f with
    | zero => intro n h1 h2; omega
    | succ f ih =>
      intro n h1 hn hme s w v kk
      obtain ⟨⟨hg0, hgn⟩, -⟩ := hpl n hn
      have eg : σ 32 n = nI (pg σ n) := (nI_nat hg0).symm
      have ep : pth σ (lth σ k) (f + 1) n = if pg σ n = lth σ k then 1 else pth σ (lth σ k) f (nat (chd σ n (cA2 σ (pg σ n) (lth σ k)) (plN σ))) + 1 := rfl
      have ha50 : cA2 σ (pg σ n) (lth σ k) ≤ 10 * pN σ := ans_50 hpc.2.2.2.1 _ _
      have hP5 := hpc.2.2.2.1
      refine st_aload_n hc dX12_total_31 rfl rfl ?_
      refine st_getr hc dX12_total_32 flX12_118 rfl rfl ?_
      refine st_iload_n hc dX12_total_35 rfl rfl ?_
      refine st_ialdN (k := n) hc dX12_total_36 rfl (rfl) (by omega) (by decide) (eg) ?_
      refine st_aload_n hc dX12_total_37 rfl rfl ?_
      refine st_getr hc dX12_total_38 flX12_42 rfl rfl ?_
      refine st_iload_n hc dX12_total_41 rfl rfl ?_
      refine st_ialdN (k := k) hc dX12_total_42 rfl (rfl) (by omega) (by decide) (hF k hk) ?_
      refine st_icmp_eq (tgt := 125) hc dX12_total_43 (by decide) (fun h43 => ?_) (fun h43 => ?_)
      · have e : pg σ n = lth σ k := nI_inj (by omega) (by omega) h43
        rw [if_pos e] at ep
        have kk := kk w v
        rw [ep, Nat.add_sub_cancel] at kk
        exact st_lvq _ (by simp [lvq]) kk
      · have e : ¬ pg σ n = lth σ k := fun q => h43 (by rw [q])
        rw [if_neg e] at ep
        obtain ⟨x, hx1, hx2, hx3, hx4⟩ := next_ok hm hp hk hn (hwh n hn) hme e
        rw [hx3, nat_nI (by omega)] at ep
        have kk2 : ∀ w v, aW g YM 7 Q 125 [some (.ref 0), some (.int (nI (s + 1 + pth σ (lth σ k) f x - 1))), some (.int (nI k)), none, none, none, none] [] (jS σ F w v) := fun w v => by
          have := kk w v
          rw [ep, show s + (pth σ (lth σ k) f x + 1) - 1 = s + 1 + pth σ (lth σ k) f x - 1 by omega] at this
          exact this
        refine st_aload_n hc dX12_total_46 rfl rfl ?_
        refine st_aload_n hc dX12_total_47 rfl rfl ?_
        refine st_getr hc dX12_total_48 flX12_118 rfl rfl ?_
        refine st_iload_n hc dX12_total_51 rfl rfl ?_
        refine st_ialdN (k := n) hc dX12_total_52 rfl (rfl) (by omega) (by decide) (eg) ?_
        refine st_callVn hc dX12_total_53 (C12_guessCode 3 (jS σ F w v) (P := pN σ) (C := cN σ) hpc (pg σ n) (by omega)) mvX12_214 (by omega) rfl rfl rfl (Nat.le_of_ble_eq_true rfl) ?_
        rintro _ ⟨w3, hw3, rfl⟩
        rw [show va_up (jS σ F w v) 6 w3 = jS σ F w3 v by unfold jS; rw [vu_cm (by decide), vu_vu]]
        refine st_aload_n hc dX12_total_56 rfl rfl ?_
        refine st_aload_n hc dX12_total_57 rfl rfl ?_
        refine st_getr hc dX12_total_58 flX12_42 rfl rfl ?_
        refine st_iload_n hc dX12_total_61 rfl rfl ?_
        refine st_ialdN (k := k) hc dX12_total_62 rfl (rfl) (by omega) (by decide) (hF k hk) ?_
        refine st_callVp hc dX12_total_63 (C12_answers 3 (jS σ F w3 v) (P := pN σ) (C := cN σ) hpc (lth σ k) (by omega)) mvX12_160 (by omega) rfl rfl rfl (Nat.le_of_ble_eq_true rfl) ?_
        rw [show jS σ F w3 v 6 = w3 from rfl, ans_congr hw3]
        refine st_istore hc dX12_total_66 (by decide) rfl ?_
        refine st_iconst (v := (-1)) hc dX12_total_68 (by decide) ?_
        refine st_istore hc dX12_total_69 (by decide) rfl ?_
        refine st_iconst (v := 1) hc dX12_total_71 (by decide) ?_
        refine st_istore hc dX12_total_72 (by decide) rfl ?_
        refine k74 (jS σ F w3 v) _ _ n (cA2 σ (pg σ n) (lth σ k)) rfl rfl rfl (by omega) hn ?_
        rw [hx3]
        refine st_iload hc dX12_total_116 rfl ?_
        refine st_istore_n hc dX12_total_118 rfl (by decide) rfl ?_
        refine st_inc hc dX12_total_119 rfl (by decide) rfl ?_
        rw [nI_1]
        refine st_goto (tgt := 31) hc dX12_total_122 (by decide) ?_
        exact st_lvq _ (by simp [lvq, List.set]) (ih x (by omega) hx1 hx4 (s + 1) w3 v kk2)
  have k18 : aW g YM 7 Q 18 [some (.ref 0), some (.int (nI 0)), some (.int (nI 0)), none, none, none, none] [] (jS σ F w0 v0) := by
    refine lpN (n := lm σ) (F := fun k => ∀ w v, aW g YM 7 Q 18 [some (.ref 0), some (.int (nI (sumN k (fun k => pth σ (lth σ k) 40 0)))), some (.int (nI k)), none, none, none, none] [] (jS σ F w v)) ?_ (fun k hk ih => ?_) w0 v0
    · intro w v
      refine st_iload_n hc dX12_total_18 rfl rfl ?_
      refine st_aload_n hc dX12_total_19 rfl rfl ?_
      refine st_getE hc dX12_total_20 flX12_164 rfl rfl (show _ = nI (lm σ) from rfl) ?_
      refine st_icmp_ge (tgt := 131) hc dX12_total_23 (by decide) (fun h23 => ?_) (fun h23 => ?_)
      · refine st_iload_n hc dX12_total_131 rfl rfl ?_
        refine st_iret (st := []) hc dX12_total_132 rfl ?_
        exact hQ w v
      · exact absurd (nI_le (Nat.le_refl _) (by omega)) h23
    · intro w v
      refine st_iload_n hc dX12_total_18 rfl rfl ?_
      refine st_aload_n hc dX12_total_19 rfl rfl ?_
      refine st_getE hc dX12_total_20 flX12_164 rfl rfl (show _ = nI (lm σ) from rfl) ?_
      refine st_icmp_ge (tgt := 131) hc dX12_total_23 (by decide) (fun h23 => ?_) (fun h23 => ?_)
      · exact absurd h23 (nI_ge hk (by omega))
      · refine st_iconst (v := 0) hc dX12_total_26 (by decide) ?_
        refine st_istore_n hc dX12_total_27 rfl (by decide) rfl ?_
        refine st_inc hc dX12_total_28 rfl (by decide) rfl ?_
        rw [nI_1]
        refine st_lvq _ (by simp [lvq, List.set, nI_0]) (k31 k hk (fun _ _ _ _ => trivial) 40 0 (by omega) hp1 rfl (sumN k (fun k => pth σ (lth σ k) 40 0) + 1) w v (fun w v => ?_))
        rw [show sumN k (fun k => pth σ (lth σ k) 40 0) + 1 + pth σ (lth σ k) 40 0 - 1 = sumN (k + 1) (fun k => pth σ (lth σ k) 40 0) by rw [sumN]; omega]
        refine st_inc hc dX12_total_125 rfl (by decide) rfl ?_
        rw [nI_1]
        refine st_goto (tgt := 18) hc dX12_total_128 (by decide) ?_
        exact ih w v
  refine st_iconst (v := 0) hc dX12_total_14 (by decide) ?_
  refine st_istore_n hc dX12_total_15 rfl (by decide) rfl ?_
  refine st_iconst (v := 0) hc dX12_total_16 (by decide) ?_
  refine st_istore_n hc dX12_total_17 rfl (by decide) rfl ?_
  exact st_lvq _ (by simp [lvq, List.set, nI_0]) k18
def sp_total (σ : St) : Int32 × St := (if 0 < judS (t0 σ) then nI (totS (t0 σ)) else -1, t0 σ)
theorem C12_total (σ : St) (hm : MI σ) (hp : plOK σ) : Mt YM mX12_total 9 [.ref 0] σ (fun r τ => r = some (.int (sp_total σ).1) ∧ sE (sp_total σ).2 τ) := by
  refine Mt.ofA [some (.ref 0), none, none, none, none, none, none] (by decide) (fun _ => Nat.le_of_ble_eq_true rfl) (fun _ => rfl) (fun g hc => ?_)
  unfold sp_total
  refine st_aload_n hc dX12_total_0 rfl rfl ?_
  refine st_iconst (v := 0) hc dX12_total_1 (by decide) ?_
  refine st_put hc dX12_total_2 fpX12_139 rfl rfl  ?_
  refine st_aload_n hc dX12_total_5 rfl rfl ?_
  refine st_callVq hc dX12_total_6 (C12_judged 3 (t0 σ) hm.1 hp) mvX12_266 (by omega) rfl rfl rfl (Nat.le_of_ble_eq_true rfl) ?_
  rintro _ ⟨F, w, v, hF, rfl⟩
  refine st_if_gt (tgt := 14) hc dX12_total_9 (by decide) (fun h9 => ?_) (fun h9 => ?_)
  · rw [if_pos h9]
    exact W12_total (σ := t0 σ) hc hm.1 hp h9 hF (fun w v => ⟨rfl, jS_E _ _ _ _⟩) w v
  · refine st_iconst (v := (-1)) hc dX12_total_12 (by decide) ?_
    refine st_iret (st := []) hc dX12_total_13 rfl ?_
    rw [if_neg h9]; exact ⟨rfl, jS_E _ _ _ _⟩

