/-! ===== the class: the forest's shortest sums ===== -/
theorem bst_stay {c : Nat → Option Nat} {e : Nat} {b : Nat × Nat} : ∀ n, e ≤ n → bstO c e = some b → (∀ j, e ≤ j → j < n → ∀ x, c j = some x → b.1 ≤ x) → bstO c n = some b := by
  intro n
  induction n with
  | zero => intro h1 h2 _; have : e = 0 := by omega
            subst this; exact h2
  | succ n ih =>
    intro h1 h2 h3
    by_cases q : e = n + 1
    · subst q; exact h2
    · have hb := ih (by omega) h2 (fun j hj hj2 => h3 j hj (by omega))
      rcases hz : c n with _ | x
      · rw [bst_no hz]; exact hb
      · rw [bst_some hz, hb]
        have := h3 n (by omega) (by omega) x hz
        simp only
        rw [if_neg (by omega)]
/-- the best of the entries is the best of all guesses -/
theorem ent_best {t : TD} {E : Ent} (hC : enC t E) (hG : ∀ e, e < eN E → eG E e < tN2 t) {d s : Nat} (hs : s < 2 ^ tn t) (h1 : 1 < ones s) : bstO (msC t (ms t) d s) (tN2 t) = (bstO (fun j => msC t (ms t) d s (eG E j)) (eN E)).map (fun q => (q.1, eG E q.2)) := by
  obtain ⟨c1, c2⟩ := hC
  rcases hz : bstO (fun j => msC t (ms t) d s (eG E j)) (eN E) with _ | q
  · show _ = none
    refine (bst_none _).mpr (fun g hg => ?_)
    rcases hy : msC t (ms t) d s g with _ | v
    · rfl
    · obtain ⟨e, e1, e2, e3⟩ := c2 d s g v hs h1 hg hy
      rw [(bst_none _).mp hz e e1] at e3
      simp at e3
  · obtain ⟨a1, a2, a3, a4⟩ := bst_is _ q hz
    show _ = some (q.1, eG E q.2)
    refine bst_of _ (hG _ a1) a2 (fun i hi x hx => ?_) (fun i hi x hx => ?_)
    · obtain ⟨e, e1, e2, e3⟩ := c2 d s i x hs h1 (Nat.lt_trans hi (hG _ a1)) hx
      refine a3 e ?_ x e3
      rcases Nat.lt_trichotomy e q.2 with z | z | z
      · exact z
      · subst z; omega
      · have := c1 q.2 e z e1; omega
    · obtain ⟨e, e1, e2, e3⟩ := c2 d s i x hs h1 hi hx
      exact a4 e e1 x e3
def lstV (o : Option (Nat × Nat)) : Nat := match o with
  | none => 1000000
  | some q => q.1
def fstV (o : Option (Nat × Nat)) : Nat := match o with
  | none => 0
  | some q => q.2
theorem fr_le {t : TD} {E : Ent} {σ : St} {b : Nat} (hD : frD σ b t E) : ∀ e, e < eN E → eG E e < tN2 t := fun e he => (hD.2.2.2.2 e he).2.2.2.2.1
theorem C1_findShort (D : Nat) (σ0 : St) {b R SL : Nat} (hY : frY b R SL) {t : TD} {E : Ent} (ht : tG t) (hD0 : frD σ0 b t E) (hC : enC t E) (hE : eN E ≤ R) {s dd : Nat} (hs : s < 2 ^ tn t) (h3 : 3 ≤ ones s) (hd2 : 2 ≤ dd) (hd10 : dd ≤ 10) (hLS : ∀ p, 0 < p → p < 2 ^ tn t → ones p < ones s → ∀ τ, fmI σ0 b t E τ → Mt YC mX1_leastSum D [.ref b, .int (nI p), .int (nI (dd - 1))] τ (fun r τ' => r = some (.int (nI (vS (ms t (dd - 1) p)))) ∧ fmI σ0 b t E τ')) (σ : St) (hσ : fmI σ0 b t E σ) :
    Mt YC mX1_findShort (D + 2) [.ref b, .int (nI s), .int (nI dd)] σ (fun r τ => ∃ v, r = some (.int v) ∧ mv E (ms t dd s) v ∧ fmI σ0 b t E τ) := by
  obtain ⟨y0, y1, y2, y3, y4, y5, y6, y7, y8, y9, yR, -, -, -⟩ := id hY
  have hok := ht.1
  have h10 := hok.1
  have hn := p2n h10
  have hol := ones_le s
  have hs0 : 0 < s := by
    rcases Nat.eq_zero_or_pos s with q | q
    · subst q; exact absurd h3 (by decide)
    · exact q
  have hms := ms_eq hok dd hs
  rw [ent_best hC (fr_le hD0) hs (by omega)] at hms
  generalize hcc : (fun j => msC t (ms t) dd s (eG E j)) = cc at *
  have hcl : ∀ j v, cc j = some v → v ≤ 7271 := fun j v h => by rw [← hcc] at h; exact msC_le hok h
  have hcg : ∀ j, j < eN E → ∀ v, cc j = some v → 2 * ones s - 1 ≤ v := fun j hj v h => by rw [← hcc] at h; exact (msC_ge ht hs0 hs (fr_le hD0 j hj) h).2
  have hbl : ∀ k q, bstO cc k = some q → q.1 ≤ 7271 ∧ q.2 < k := fun k q h => by
    obtain ⟨a1, a2⟩ := bstO_val k q h
    exact ⟨hcl _ _ a2, a1⟩
  have hlv : ∀ k, lstV (bstO cc k) ≤ 1000000 := fun k => by
    rcases hz : bstO cc k with _ | q
    · exact Nat.le_refl _
    · have := (hbl k q hz).1; show q.1 ≤ _; omega
  have hfv : ∀ k, k ≤ 1296 → fstV (bstO cc k) < 1297 := fun k hk => by
    rcases hz : bstO cc k with _ | q
    · decide
    · have := (hbl k q hz).2; show q.2 < _; omega
  refine Mt.ofA [some (.ref b), some (.int (nI s)), some (.int (nI dd)), none, none, none, none, none, none] (by decide) (fun _ => Nat.le_of_ble_eq_true rfl) (fun _ => rfl) (fun g hc => ?_)
  have kend : ∀ k x8 τ, k ≤ eN E → fmI σ0 b t E τ → bstO cc (eN E) = bstO cc k → aW g YC 9 (fun r τ => ∃ v, r = some (.int v) ∧ mv E (ms t dd s) v ∧ fmI σ0 b t E τ) 69 [some (.ref b), some (.int (nI s)), some (.int (nI dd)), some (.int (nI (ones s))), some (.int (nI (2 * ones s - 1))), some (.int (nI (lstV (bstO cc k)))), some (.int (nI (fstV (bstO cc k)))), some (.int (nI k)), x8] [] τ := by
    intro k x8 τ hk hτ hb
    rw [hb] at hms
    rcases hz : bstO cc k with _ | q
    · rw [hz] at hms
      refine st_iload hc dX1_findShort_69 rfl ?_
      refine st_ldc hc dX1_findShort_71 kcX1_138 ?_
      refine st_icmp_ne (tgt := 80) hc dX1_findShort_73 (by decide) (fun h73 => ?_) (fun h73 => ?_)
      · exact absurd rfl h73
      · refine st_iconst (v := (-1)) hc dX1_findShort_76 (by decide) ?_
        refine st_goto (tgt := 88) hc dX1_findShort_77 (by decide) ?_
        refine st_iret (st := []) hc dX1_findShort_88 rfl ?_
        refine ⟨_, rfl, ?_, hτ⟩
        rw [hms]
        rfl
    · rw [hz] at hms
      obtain ⟨q1, q2⟩ := hbl k q hz
      have e1 : lstV (some q) = q.1 := rfl
      have e2 : fstV (some q) = q.2 := rfl
      rw [e1, e2]
      have hor : q.1 * 2 ^ 11 ||| q.2 = q.1 * 2048 + q.2 := by
        rw [Nat.mul_comm, ← Nat.two_pow_add_eq_or_of_lt (by omega : q.2 < 2 ^ 11) q.1]
      refine st_iload hc dX1_findShort_69 rfl ?_
      refine st_ldc hc dX1_findShort_71 kcX1_138 ?_
      refine st_icmp_ne (tgt := 80) hc dX1_findShort_73 (by decide) (fun h73 => ?_) (fun h73 => ?_)
      · refine st_iload hc dX1_findShort_80 rfl ?_
        refine st_bipush (v := 11) hc dX1_findShort_82 (by decide) ?_
        refine st_ishl hc dX1_findShort_84 ?_
        rw [show (11 : Int32) &&& 31 = nI 11 &&& 31 from rfl, nI_shl (k := 11) (by decide) (by omega)]
        refine st_iload hc dX1_findShort_85 rfl ?_
        refine st_ior hc dX1_findShort_87 ?_
        rw [nI_or, hor]
        refine st_iret (st := []) hc dX1_findShort_88 rfl ?_
        refine ⟨_, rfl, ?_, hτ⟩
        rw [hms]
        exact ⟨q.2, by omega, rfl, rfl⟩
      · exact absurd (nI_inj (a := q.1) (b := 1000000) (by omega) (by decide) h73) (by omega)
  have k22 : ∀ x8 τ, fmI σ0 b t E τ → aW g YC 9 (fun r τ => ∃ v, r = some (.int v) ∧ mv E (ms t dd s) v ∧ fmI σ0 b t E τ) 22 [some (.ref b), some (.int (nI s)), some (.int (nI dd)), some (.int (nI (ones s))), some (.int (nI (2 * ones s - 1))), some (.int (nI (lstV (bstO cc 0)))), some (.int (nI (fstV (bstO cc 0)))), some (.int (nI 0)), x8] [] τ := by
    refine lpN (n := eN E) (F := fun k => ∀ x8 τ, fmI σ0 b t E τ → aW g YC 9 (fun r τ => ∃ v, r = some (.int v) ∧ mv E (ms t dd s) v ∧ fmI σ0 b t E τ) 22 [some (.ref b), some (.int (nI s)), some (.int (nI dd)), some (.int (nI (ones s))), some (.int (nI (2 * ones s - 1))), some (.int (nI (lstV (bstO cc k)))), some (.int (nI (fstV (bstO cc k)))), some (.int (nI k)), x8] [] τ) (fun x8 τ hτ => ?_) (fun k hk ih x8 τ hτ => ?_)
    · have hD := hD0.eq hτ.1
      refine st_iload hc dX1_findShort_22 rfl ?_
      refine st_aload_n hc dX1_findShort_24 rfl rfl ?_
      refine st_getE hc dX1_findShort_25 flX1_92 y0 rfl (hD.2.2.1) ?_
      refine st_icmp_ge (tgt := 69) hc dX1_findShort_28 (by decide) (fun h28 => ?_) (fun h28 => ?_)
      · exact kend _ x8 τ (Nat.le_refl _) hτ rfl
      · exact absurd (nI_le (Nat.le_refl _) (by omega)) h28
    · have hD := hD0.eq hτ.1
      have hlk := hlv k
      have hsb := C1_sumBehind D σ0 hY ht hD0 hE hk hs (by omega) hd2 hd10 hlk hLS τ hτ
      have hcck : msC t (ms t) dd s (eG E k) = cc k := by rw [← hcc]
      rw [hcck] at hsb
      have hsl : sbV (cc k) (lstV (bstO cc k)) ≤ 7271 := by
        rcases hz : cc k with _ | v
        · exact Nat.zero_le _
        · have := hcl k v hz
          show (if v < _ then v else 0) ≤ _
          split <;> omega
      refine st_iload hc dX1_findShort_22 rfl ?_
      refine st_aload_n hc dX1_findShort_24 rfl rfl ?_
      refine st_getE hc dX1_findShort_25 flX1_92 y0 rfl (hD.2.2.1) ?_
      refine st_icmp_ge (tgt := 69) hc dX1_findShort_28 (by decide) (fun h28 => ?_) (fun h28 => ?_)
      · exact absurd h28 (nI_ge hk (by omega))
      · refine st_iload hc dX1_findShort_31 rfl ?_
        refine st_iload hc dX1_findShort_33 rfl ?_
        refine st_icmp_le (tgt := 69) hc dX1_findShort_35 (by decide) (fun h35 => ?_) (fun h35 => ?_)
        · have h35 := (nI_leI (by omega) (by omega)).mp h35
          have hst : bstO cc (eN E) = bstO cc k := by
            rcases hz : bstO cc k with _ | q
            · rw [hz] at h35; exact absurd h35 (by show ¬ 1000000 ≤ _; omega)
            · rw [hz] at h35
              have h35 : q.1 ≤ 2 * ones s - 1 := h35
              exact bst_stay _ (by omega) hz (fun j _ hj x hx => by have := hcg j hj x hx; omega)
          exact kend k x8 τ (by omega) hτ hst
        · refine st_aload_n hc dX1_findShort_38 rfl rfl ?_
          refine st_iload hc dX1_findShort_39 rfl ?_
          refine st_iload_n hc dX1_findShort_41 rfl rfl ?_
          refine st_iload_n hc dX1_findShort_42 rfl rfl ?_
          refine st_iload hc dX1_findShort_43 rfl ?_
          refine st_callVq hc dX1_findShort_45 (hsb) mvX1_139 (by omega) rfl y0 rfl (Nat.le_of_ble_eq_true rfl) ?_
          rintro τ1 j1
          refine st_istore hc dX1_findShort_48 (by decide) rfl ?_
          refine st_iload hc dX1_findShort_50 rfl ?_
          refine st_if_le (tgt := 63) hc dX1_findShort_52 (by decide) (fun h52 => ?_) (fun h52 => ?_)
          · have h52 := (nI_leI (b := 0) (by omega) (by decide)).mp h52
            have hstep : bstO cc (k + 1) = bstO cc k := by
              rcases hz : cc k with _ | v
              · exact bst_no hz
              · rw [bst_some hz]
                have hv0 := hcg k hk v hz
                rw [hz] at h52
                rcases hy : bstO cc k with _ | q
                · rw [hy] at h52
                  have h52 : (if v < 1000000 then v else 0) ≤ 0 := h52
                  have := hcl k v hz
                  rw [if_pos (by omega)] at h52
                  omega
                · rw [hy] at h52
                  have h52 : (if v < q.1 then v else 0) ≤ 0 := h52
                  simp only
                  by_cases z : v < q.1
                  · rw [if_pos z] at h52; omega
                  · rw [if_neg z]
            have hnx := ih (some (.int (nI (sbV (cc k) (lstV (bstO cc k)))))) τ1 j1
            rw [hstep] at hnx
            refine st_inc hc dX1_findShort_63 rfl (by decide) rfl ?_
            rw [nI_1]
            refine st_goto (tgt := 22) hc dX1_findShort_66 (by decide) ?_
            exact hnx
          · have h52 : 0 < sbV (cc k) (lstV (bstO cc k)) := Nat.lt_of_not_le (fun q => h52 (nI_le (b := 0) q (by decide)))
            obtain ⟨v, hz, hv⟩ : ∃ v, cc k = some v ∧ v < lstV (bstO cc k) := by
              rcases hz : cc k with _ | v
              · rw [hz] at h52; exact absurd h52 (Nat.lt_irrefl 0)
              · refine ⟨v, rfl, ?_⟩
                rw [hz] at h52
                have h52 : 0 < (if v < lstV (bstO cc k) then v else 0) := h52
                by_cases z : v < lstV (bstO cc k)
                · exact z
                · rw [if_neg z] at h52; omega
            have hsv : sbV (cc k) (lstV (bstO cc k)) = v := by rw [hz]; show (if v < lstV (bstO cc k) then v else 0) = v; rw [if_pos hv]
            have hstep : bstO cc (k + 1) = some (v, k) := by
              rw [bst_some hz]
              rcases hy : bstO cc k with _ | q
              · rfl
              · rw [hy] at hv
                have hv : v < q.1 := hv
                simp only
                rw [if_pos hv]
            have hnx := ih (some (.int (nI (sbV (cc k) (lstV (bstO cc k)))))) τ1 j1
            rw [hstep] at hnx
            rw [hsv] at hnx ⊢
            refine st_iload hc dX1_findShort_55 rfl ?_
            refine st_istore hc dX1_findShort_57 (by decide) rfl ?_
            refine st_iload hc dX1_findShort_59 rfl ?_
            refine st_istore hc dX1_findShort_61 (by decide) rfl ?_
            refine st_inc hc dX1_findShort_63 rfl (by decide) rfl ?_
            rw [nI_1]
            refine st_goto (tgt := 22) hc dX1_findShort_66 (by decide) ?_
            exact hnx
  refine st_iload_n hc dX1_findShort_0 rfl rfl ?_
  refine st_callSp hc dX1_findShort_1 (CJ_bitCount YC (D + 1) σ s (by omega)) msX1_143 (by omega) rfl rfl (Nat.le_of_ble_eq_true rfl) ?_
  rw [pc_ones (by omega)]
  refine st_istore_n hc dX1_findShort_4 rfl (by decide) rfl ?_
  refine st_iconst (v := 2) hc dX1_findShort_5 (by decide) ?_
  refine st_iload_n hc dX1_findShort_6 rfl rfl ?_
  refine st_imul hc dX1_findShort_7 ?_
  rw [show (2 : Int32) = nI 2 from rfl, pk_mul]
  refine st_iconst (v := 1) hc dX1_findShort_8 (by decide) ?_
  refine st_isub hc dX1_findShort_9 ?_
  rw [show (1 : Int32) = nI 1 from rfl, nI_sub (by omega)]
  refine st_istore hc dX1_findShort_10 (by decide) rfl ?_
  refine st_ldc hc dX1_findShort_12 kcX1_138 ?_
  refine st_istore hc dX1_findShort_14 (by decide) rfl ?_
  refine st_iconst (v := 0) hc dX1_findShort_16 (by decide) ?_
  refine st_istore hc dX1_findShort_17 (by decide) rfl ?_
  refine st_iconst (v := 0) hc dX1_findShort_19 (by decide) ?_
  refine st_istore hc dX1_findShort_20 (by decide) rfl ?_
  exact k22 none σ hσ
theorem mv_0 {t : TD} (ht : tG t) {E : Ent} (hE : eN E ≤ 1296) {d s : Nat} {v : Int32} (hs : s < 2 ^ tn t) (h3 : 3 ≤ ones s) (h : mv E (ms t d s) v) : ¬ v = 0 := by
  intro q
  rcases hz : ms t d s with _ | w
  · rw [hz] at h
    have h : v = -1 := h
    rw [h] at q
    exact absurd q (by decide)
  · rw [hz] at h
    obtain ⟨e, e1, e2, e3⟩ := h
    have hl := ms_le ht.1 _ d s w (Nat.le_refl _) hs hz
    have h11 := ones_le s
    have : ones s * ones s ≤ 11 * 11 := Nat.mul_le_mul h11 h11
    have hg := ms_ge ht s (by rcases Nat.eq_zero_or_pos s with z | z
                              · subst z; exact absurd h3 (by decide)
                              · exact z) hs d w hz
    rw [e3] at q
    have := nI_inj (b := 0) (by omega) (by decide) q
    omega
theorem C1_shortOf (D : Nat) (σ0 : St) {b R SL : Nat} (hY : frY b R SL) {t : TD} {E : Ent} (ht : tG t) (hD0 : frD σ0 b t E) (hC : enC t E) (hE : eN E ≤ R) {s dd : Nat} (hs : s < 2 ^ tn t) (h3 : 3 ≤ ones s) (hd2 : 2 ≤ dd) (hd10 : dd ≤ 10) (hLS : ∀ p, 0 < p → p < 2 ^ tn t → ones p < ones s → ∀ τ, fmI σ0 b t E τ → Mt YC mX1_leastSum D [.ref b, .int (nI p), .int (nI (dd - 1))] τ (fun r τ' => r = some (.int (nI (vS (ms t (dd - 1) p)))) ∧ fmI σ0 b t E τ')) (σ : St) (hσ : fmI σ0 b t E σ) :
    Mt YC mX1_shortOf (D + 3) [.ref b, .int (nI s), .int (nI dd)] σ (fun r τ => ∃ v, r = some (.int v) ∧ mv E (ms t dd s) v ∧ fmI σ0 b t E τ) := by
  obtain ⟨y0, y1, y2, y3, y4, y5, y6, y7, y8, y9, yR, -, -, -⟩ := id hY
  have h10 := ht.1.1
  have hn := p2n h10
  have hm := hσ.2 dd s hd2 hd10 hs h3
  refine Mt.ofA [some (.ref b), some (.int (nI s)), some (.int (nI dd)), none] (by decide) (fun _ => Nat.le_of_ble_eq_true rfl) (fun _ => rfl) (fun g hc => ?_)
  refine st_iload_n hc dX1_shortOf_0 rfl rfl ?_
  refine st_sipush (v := 1024) hc dX1_shortOf_1 (by decide) ?_
  refine st_imul hc dX1_shortOf_4 ?_
  rw [show (1024 : Int32) = nI 1024 from rfl, pk_mul]
  refine st_iload_n hc dX1_shortOf_5 rfl rfl ?_
  refine st_iadd hc dX1_shortOf_6 ?_
  rw [nI_add]
  refine st_istore_n hc dX1_shortOf_7 rfl (by decide) rfl ?_
  refine st_aload_n hc dX1_shortOf_8 rfl rfl ?_
  refine st_getr hc dX1_shortOf_9 flX1_18 y0 rfl ?_
  refine st_iload_n hc dX1_shortOf_12 rfl rfl ?_
  refine st_ialdN (k := dd * 1024 + s) hc dX1_shortOf_13 y9 (rfl) (by omega) (by first | decide | omega) rfl ?_
  refine st_if_ne (tgt := 29) hc dX1_shortOf_14 (by decide) (fun h14 => ?_) (fun h14 => ?_)
  · have hmv : mv E (ms t dd s) (σ (b + 9) (dd * 1024 + s)) := by
      rcases hm with q | q
      · exact absurd q h14
      · exact q
    have hfin : ∃ v, some (Value.int (σ (b + 9) (dd * 1024 + s))) = some (Value.int v) ∧ mv E (ms t dd s) v ∧ fmI σ0 b t E σ := ⟨_, rfl, hmv, hσ⟩
    refine st_aload_n hc dX1_shortOf_29 rfl rfl ?_
    refine st_getr hc dX1_shortOf_30 flX1_18 y0 rfl ?_
    refine st_iload_n hc dX1_shortOf_33 rfl rfl ?_
    refine st_ialdN (k := dd * 1024 + s) hc dX1_shortOf_34 y9 (rfl) (by omega) (by first | decide | omega) rfl ?_
    refine st_iret (st := []) hc dX1_shortOf_35 rfl ?_
    first
     | exact hfin
     | (refine ⟨v, by simp [up_eq], hv, fun a ha => by rw [up_o a ha]; exact hf.1 a ha, fun d' s' k1 k2 k3 k4 => ?_⟩
        by_cases q : d' * 1024 + s' = dd * 1024 + s
        · have e1 : d' = dd := by omega
          have e2 : s' = s := by omega
          subst e1 e2
          right
          simp [up_eq]
          exact hv
        · have := hf.2 d' s' k1 k2 k3 k4
          simpa [up_eq, q] using this)
  · refine st_aload_n hc dX1_shortOf_17 rfl rfl ?_
    refine st_getr hc dX1_shortOf_18 flX1_18 y0 rfl ?_
    refine st_iload_n hc dX1_shortOf_21 rfl rfl ?_
    refine st_aload_n hc dX1_shortOf_22 rfl rfl ?_
    refine st_iload_n hc dX1_shortOf_23 rfl rfl ?_
    refine st_iload_n hc dX1_shortOf_24 rfl rfl ?_
    refine st_callV hc dX1_shortOf_25 (C1_findShort D σ0 hY ht hD0 hC hE hs h3 hd2 hd10 hLS σ hσ) mvX1_151 (by omega) rfl y0 rfl (Nat.le_of_ble_eq_true rfl) ?_
    rintro r τ1 ⟨v, er, hv, hf⟩
    subst er
    show aW g YC 4 _ _ _ (.int v :: .int (nI (dd * 1024 + s)) :: .ref (b + 9) :: []) τ1
    refine st_iastN (k := dd * 1024 + s) hc dX1_shortOf_28 y9 (rfl) (by omega) (by first | decide | omega)  ?_
    refine st_aload_n hc dX1_shortOf_29 rfl rfl ?_
    refine st_getr hc dX1_shortOf_30 flX1_18 y0 rfl ?_
    refine st_iload_n hc dX1_shortOf_33 rfl rfl ?_
    refine st_ialdN (k := dd * 1024 + s) hc dX1_shortOf_34 y9 (rfl) (by omega) (by first | decide | omega) rfl ?_
    refine st_iret (st := []) hc dX1_shortOf_35 rfl ?_
    first
     | exact hfin
     | (refine ⟨v, by simp [up_eq], hv, fun a ha => by rw [up_o a ha]; exact hf.1 a ha, fun d' s' k1 k2 k3 k4 => ?_⟩
        by_cases q : d' * 1024 + s' = dd * 1024 + s
        · have e1 : d' = dd := by omega
          have e2 : s' = s := by omega
          subst e1 e2
          right
          simp [up_eq]
          exact hv
        · have := hf.2 d' s' k1 k2 k3 k4
          simpa [up_eq, q] using this)
theorem C1_leastSum_s (D : Nat) (σ0 : St) {b R SL : Nat} (hY : frY b R SL) {t : TD} {E : Ent} (ht : tG t) (hD0 : frD σ0 b t E) (hC : enC t E) (hE : eN E ≤ R) {s dd : Nat} (hs0 : 0 < s) (hs : s < 2 ^ tn t) (hd1 : 1 ≤ dd) (hd10 : dd ≤ 10) (hLS : ∀ e, 1 ≤ e → e ≤ 10 → ∀ p, 0 < p → p < 2 ^ tn t → ones p < ones s → ∀ τ, fmI σ0 b t E τ → Mt YC mX1_leastSum D [.ref b, .int (nI p), .int (nI e)] τ (fun r τ' => r = some (.int (nI (vS (ms t e p)))) ∧ fmI σ0 b t E τ')) (σ : St) (hσ : fmI σ0 b t E σ) :
    Mt YC mX1_leastSum (D + 4) [.ref b, .int (nI s), .int (nI dd)] σ (fun r τ => r = some (.int (nI (vS (ms t dd s)))) ∧ fmI σ0 b t E τ) := by
  obtain ⟨y0, y1, y2, y3, y4, y5, y6, y7, y8, y9, yR, -, -, -⟩ := id hY
  have h10 := ht.1.1
  have hn := p2n h10
  have hop := ones_pos' h10 hs hs0
  have hol := ones_le s
  refine Mt.ofA [some (.ref b), some (.int (nI s)), some (.int (nI dd)), none, none] (by decide) (fun _ => Nat.le_of_ble_eq_true rfl) (fun _ => rfl) (fun g hc => ?_)
  refine st_iload_n hc dX1_leastSum_0 rfl rfl ?_
  refine st_callSp hc dX1_leastSum_1 (CJ_bitCount YC (D + 3) σ s (by omega)) msX1_143 (by omega) rfl rfl (Nat.le_of_ble_eq_true rfl) ?_
  rw [pc_ones (by omega)]
  refine st_istore_n hc dX1_leastSum_4 rfl (by decide) rfl ?_
  refine st_iload_n hc dX1_leastSum_5 rfl rfl ?_
  refine st_if_eq (tgt := 14) hc dX1_leastSum_6 (by decide) (fun h6 => ?_) (fun h6 => ?_)
  · exact absurd (nI_inj (b := 0) (by omega) (by decide) h6) (by omega)
  · refine st_iload_n hc dX1_leastSum_9 rfl rfl ?_
    refine st_iconst (v := 1) hc dX1_leastSum_10 (by decide) ?_
    refine st_icmp_ge (tgt := 16) hc dX1_leastSum_11 (by decide) (fun h11 => ?_) (fun h11 => ?_)
    · refine st_iload_n hc dX1_leastSum_16 rfl rfl ?_
      refine st_iconst (v := 1) hc dX1_leastSum_17 (by decide) ?_
      refine st_icmp_ne (tgt := 23) hc dX1_leastSum_18 (by decide) (fun h18 => ?_) (fun h18 => ?_)
      · have h18 : ¬ ones s = 1 := fun q => h18 (by rw [q]; rfl)
        refine st_iload_n hc dX1_leastSum_23 rfl rfl ?_
        refine st_iconst (v := 2) hc dX1_leastSum_24 (by decide) ?_
        refine st_icmp_ge (tgt := 30) hc dX1_leastSum_25 (by decide) (fun h25 => ?_) (fun h25 => ?_)
        · have h25 : 2 ≤ dd := (nI_leI (a := 2) (by decide) (by omega)).mp h25
          refine st_iload_n hc dX1_leastSum_30 rfl rfl ?_
          refine st_iconst (v := 2) hc dX1_leastSum_31 (by decide) ?_
          refine st_icmp_ne (tgt := 37) hc dX1_leastSum_32 (by decide) (fun h32 => ?_) (fun h32 => ?_)
          · have h32 : ¬ ones s = 2 := fun q => h32 (by rw [q]; rfl)
            have hsat : ms t (min dd (ones s)) s = ms t dd s := by
              rcases Nat.le_total dd (ones s) with z | z
              · rw [Nat.min_eq_left z]
              · rw [Nat.min_eq_right z]; exact ms_sat ht.1 s hs0 hs _ _ (Or.inr (Nat.le_refl _)) (Or.inr z)
            refine st_aload_n hc dX1_leastSum_37 rfl rfl ?_
            refine st_iload_n hc dX1_leastSum_38 rfl rfl ?_
            refine st_iload_n hc dX1_leastSum_39 rfl rfl ?_
            refine st_iload_n hc dX1_leastSum_40 rfl rfl ?_
            refine st_min hc dX1_leastSum_41 lkmin1_68 (by omega) (Nat.le_of_ble_eq_true rfl) ?_
            rw [min_n (by omega) (by omega)]
            refine st_callV hc dX1_leastSum_44 (C1_shortOf D σ0 hY ht hD0 hC hE hs (by omega) (dd := min dd (ones s)) (by omega) (by omega) (hLS (min dd (ones s) - 1) (by omega) (by omega)) σ hσ) mvX1_148 (by omega) rfl y0 rfl (Nat.le_of_ble_eq_true rfl) ?_
            rintro r τ1 ⟨v, er, hv, hf⟩
            subst er
            show aW g YC 5 _ _ _ (.int v :: []) τ1
            rw [hsat] at hv
            refine st_istore hc dX1_leastSum_47 (by decide) rfl ?_
            refine st_iload hc dX1_leastSum_49 rfl ?_
            refine st_iconst (v := (-1)) hc dX1_leastSum_51 (by decide) ?_
            refine st_icmp_ne (tgt := 59) hc dX1_leastSum_52 (by decide) (fun h52 => ?_) (fun h52 => ?_)
            · obtain ⟨w, hw⟩ : ∃ w, ms t dd s = some w := by
                rcases hz : ms t dd s with _ | w
                · rw [hz] at hv; exact absurd hv h52
                · exact ⟨w, rfl⟩
              rw [hw] at hv
              obtain ⟨e, e1, e2, e3⟩ := hv
              have hl := ms_le ht.1 _ dd s w (Nat.le_refl _) hs hw
              have hl2 : ones s * ones s ≤ 11 * 11 := Nat.mul_le_mul hol hol
              have hsh : ((nI (w.1 * 2048 + e)).toUInt32 >>> (Int32.toUInt32 11 &&& Int32.toUInt32 31)).toInt32 = nI w.1 := by
                have := nI_ushr (a := w.1 * 2048 + e) (k := 11) (by omega) (by decide)
                rw [show (w.1 * 2048 + e) / 2 ^ 11 = w.1 by omega] at this
                exact this
              refine st_iload hc dX1_leastSum_59 rfl ?_
              refine st_bipush (v := 11) hc dX1_leastSum_61 (by decide) ?_
              refine st_iushr hc dX1_leastSum_63 ?_
              rw [e3, hsh]
              refine st_iret (st := []) hc dX1_leastSum_64 rfl ?_
              first
               | (rw [hnone]; exact ⟨rfl, hf⟩)
               | (rw [hw]; exact ⟨rfl, hf⟩)
            · have hnone : ms t dd s = none := by
                rcases hz : ms t dd s with _ | w
                · rfl
                · rw [hz] at hv
                  obtain ⟨e, e1, e2, e3⟩ := hv
                  have hl := ms_le ht.1 _ dd s w (Nat.le_refl _) hs hz
                  have : ones s * ones s ≤ 11 * 11 := Nat.mul_le_mul hol hol
                  rw [h52] at e3
                  exact absurd e3 (nI_neg1 (by omega))
              refine st_iconst (v := 0) hc dX1_leastSum_55 (by decide) ?_
              refine st_goto (tgt := 64) hc dX1_leastSum_56 (by decide) ?_
              refine st_iret (st := []) hc dX1_leastSum_64 rfl ?_
              first
               | (rw [hnone]; exact ⟨rfl, hf⟩)
               | (rw [hw]; exact ⟨rfl, hf⟩)
          · have h32 : ones s = 2 := nI_inj (b := 2) (by omega) (by decide) h32
            refine st_iconst (v := 3) hc dX1_leastSum_35 (by decide) ?_
            refine st_iret (st := []) hc dX1_leastSum_36 rfl ?_
            rw [ms_2 ht hs h32 (by omega)]
            exact ⟨rfl, hσ⟩
        · have h25 : dd = 1 := by
            rcases Nat.lt_or_ge dd 2 with z | z
            · omega
            · exact absurd (nI_le (a := 2) z (by omega)) h25
          refine st_iconst (v := 0) hc dX1_leastSum_28 (by decide) ?_
          refine st_iret (st := []) hc dX1_leastSum_29 rfl ?_
          rw [h25, ms_d1 ht hs (by omega)]
          exact ⟨rfl, hσ⟩
      · have h18 : ones s = 1 := nI_inj (b := 1) (by omega) (by decide) h18
        refine st_iconst (v := 1) hc dX1_leastSum_21 (by decide) ?_
        refine st_iret (st := []) hc dX1_leastSum_22 rfl ?_
        rw [ms_1 ht hs h18]
        exact ⟨rfl, hσ⟩
    · exact absurd (nI_le (a := 1) hd1 (by omega)) h11
theorem C1_leastSum (σ0 : St) {b R SL : Nat} (hY : frY b R SL) {t : TD} {E : Ent} (ht : tG t) (hD0 : frD σ0 b t E) (hC : enC t E) (hE : eN E ≤ R) : ∀ z e, 1 ≤ e → e ≤ 10 → ∀ p, 0 < p → p < 2 ^ tn t → ones p ≤ z → ∀ τ, fmI σ0 b t E τ → Mt YC mX1_leastSum (4 * z) [.ref b, .int (nI p), .int (nI e)] τ (fun r τ' => r = some (.int (nI (vS (ms t e p)))) ∧ fmI σ0 b t E τ') := by
  intro z
  induction z with
  | zero =>
    intro e _ _ p h0 hp hz
    have := ones_pos' ht.1.1 hp h0
    omega
  | succ z ih =>
    intro e h1 h2 p h0 hp hz τ hτ
    exact C1_leastSum_s (4 * z) σ0 hY ht hD0 hC hE h0 hp h1 h2 (fun e he1 he2 q hq0 hq hlt υ hυ => ih e he1 he2 q hq0 hq (by omega) υ hυ) τ hτ

