/-! ===== least, sum, best of the reference ===== -/
theorem rfT_0 {σ : St} {p : Int32} (h : rfT σ p = 0) : (0 ≤ p ∧ p ≤ 1) ∧ σ 0 5 = 0 ∧ 1 ≤ lm σ ∧ lm σ ≤ 10 ∧ nN σ ≤ 1296 := by
  unfold rfT at h
  by_cases h1 : ¬ (0 ≤ p ∧ p ≤ 1)
  · rw [if_pos h1] at h; exact absurd h (by decide)
  · rw [if_neg h1] at h
    by_cases h2 : ¬ σ 0 5 = 0
    · rw [if_pos h2] at h; exact absurd h (by decide)
    · rw [if_neg h2] at h
      by_cases h3 : lm σ = 0 ∨ 10 < lm σ ∨ 1296 < nN σ
      · rw [if_pos h3] at h; exact absurd h (by decide)
      · refine ⟨Decidable.not_not.mp h1, Decidable.not_not.mp h2, ?_, ?_, ?_⟩
        · exact Nat.pos_of_ne_zero (fun q => h3 (Or.inl q))
        · exact Nat.le_of_not_lt (fun q => h3 (Or.inr (Or.inl q)))
        · exact Nat.le_of_not_lt (fun q => h3 (Or.inr (Or.inr q)))
theorem pool_b {p : Int32} (h : 0 ≤ p ∧ p ≤ 1) : p = bI (decide (p = 1)) := by
  obtain ⟨j, hj, rfl⟩ := nI_of (Int32.not_lt.mpr h.1)
  have := (nI_leI (b := 1) hj (by decide)).mp h.2
  rcases (show j = 0 ∨ j = 1 by omega) with q | q <;> subst q <;> decide
theorem all_set {n : Nat} (h : n ≤ 10) : (1 : Int32) <<< (nI n &&& 31) - 1 = nI (2 ^ n - 1) := by
  have h0 := Nat.two_pow_pos n
  rw [nI_shl1 (by omega), show 2 ^ n = (2 ^ n - 1) + 1 by omega, nI_pred]
  rfl
abbrev tdP (σ : St) (p : Int32) : TD := tdM σ (decide (p = 1))
theorem C12_treesP (d : Nat) (σ : St) (hm : mOK σ (pN σ) (cN σ) (nN σ) (tN σ) (liN σ)) (hl : lm σ ≤ 10) (F w : Nat → Int32) (hF : ∀ k, k < lm σ → F k = nI (lth σ k)) {p : Int32} (hp : 0 ≤ p ∧ p ≤ 1) : Mt YM mX12_trees (d + 3) [.ref 0, .int p] (lkS σ (lm σ) F w) (fun r τ => r = none ∧ TI σ (tdP σ p) τ ∧ TB (tdP σ p) τ (2 ^ lm σ)) := by
  have h := C12_trees d σ hm hl F w hF (decide (p = 1))
  rw [← pool_b hp] at h
  exact h
def sp_least (σ : St) (p : Int32) : Int32 × St := (if rfT (t0 σ) p = 0 then enc (md (tdP (t0 σ) p) (2 ^ lm (t0 σ) - 1)) else rfT (t0 σ) p, t0 σ)
theorem C12_least (σ : St) (hm : MI σ) (p : Int32) : Mt YM mX12_least 9 [.ref 0, .int p] σ (fun r τ => r = some (.int (sp_least σ p).1) ∧ sE (sp_least σ p).2 τ) := by
  have hm1 : mOK (t0 σ) (pN (t0 σ)) (cN (t0 σ)) (nN (t0 σ)) (tN (t0 σ)) (liN (t0 σ)) := hm.1
  refine Mt.ofA [some (.ref 0), some (.int p), none] (by decide) (fun _ => Nat.le_of_ble_eq_true rfl) (fun _ => rfl) (fun g hc => ?_)
  unfold sp_least
  refine st_aload_n hc dX12_least_0 rfl rfl ?_
  refine st_iconst (v := 0) hc dX12_least_1 (by decide) ?_
  refine st_put hc dX12_least_2 fpX12_139 rfl rfl  ?_
  refine st_aload_n hc dX12_least_5 rfl rfl ?_
  refine st_iload_n hc dX12_least_6 rfl rfl ?_
  refine st_callVq hc dX12_least_7 (C12_refusedTree 0 (t0 σ) hm1 p) mvX12_248 (by omega) rfl rfl rfl (Nat.le_of_ble_eq_true rfl) ?_
  intro τ hτ
  refine st_istore_n hc dX12_least_10 rfl (by decide) rfl ?_
  refine st_iload_n hc dX12_least_11 rfl rfl ?_
  refine st_if_eq (tgt := 17) hc dX12_least_12 (by decide) (fun h12 => ?_) (fun h12 => ?_)
  · obtain ⟨hpp, -, hl1, hl10, hN⟩ := rfT_0 h12
    obtain ⟨F, w, hF, rfl⟩ : ∃ F w, (∀ k, k < lm (t0 σ) → F k = nI (lth (t0 σ) k)) ∧ τ = lkS (t0 σ) (lm (t0 σ)) F w := hτ.elim (fun q => absurd h12 q.2) id
    have h1024 : 2 ^ lm (t0 σ) ≤ 1024 := Nat.pow_le_pow_right (by decide) hl10
    have h2 : 2 ≤ 2 ^ lm (t0 σ) := Nat.le_trans (by decide) (Nat.pow_le_pow_right (by decide) hl1)
    rw [if_pos h12]
    refine st_aload_n hc dX12_least_17 rfl rfl ?_
    refine st_iload_n hc dX12_least_18 rfl rfl ?_
    refine st_callVn hc dX12_least_19 (C12_treesP 3 (t0 σ) hm1 hl10 F w hF hpp) mvX12_251 (by omega) rfl rfl rfl (Nat.le_of_ble_eq_true rfl) ?_
    rintro τ ⟨hTI, hTB⟩
    refine st_aload_n hc dX12_least_22 rfl rfl ?_
    refine st_getr hc dX12_least_23 flX12_63 rfl rfl ?_
    refine st_iconst (v := 1) hc dX12_least_26 (by decide) ?_
    refine st_aload_n hc dX12_least_27 rfl rfl ?_
    refine st_getE hc dX12_least_28 flX12_164 rfl rfl (hTI.2.1) ?_
    refine st_ishl hc dX12_least_31 ?_
    refine st_iconst (v := 1) hc dX12_least_32 (by decide) ?_
    refine st_isub hc dX12_least_33 ?_
    rw [all_set hl10]
    refine st_ialdN (k := 2 ^ lm (t0 σ) - 1) hc dX12_least_34 rfl (rfl) (by omega) (by first | decide | omega) ((hTB _ (by omega) (by omega)).1.1) ?_
    refine st_iret (st := []) hc dX12_least_35 rfl ?_
    exact ⟨rfl, hTI.1⟩
  · have hE : sE (t0 σ) τ := by
      rcases hτ with q | ⟨F, w, -, rfl⟩
      · exact q.1
      · exact sE.lk _ _ _ _
    refine st_iload_n hc dX12_least_15 rfl rfl ?_
    refine st_iret (st := []) hc dX12_least_16 rfl ?_
    rw [if_neg h12]; exact ⟨rfl, hE⟩
/-- the row of the tables that a depth asks for -/
abbrev rD (x : Int32) : Nat := if 10 < nat x then 0 else nat x
theorem rowD_n {x : Int32} (h : 0 ≤ x) : rowD x = nI (rD x) ∧ rD x < 11 := by
  obtain ⟨j, hj, rfl⟩ := nI_of (Int32.not_lt.mpr h)
  unfold rowD rD
  rw [nat_nI hj]
  by_cases q : 10 < j
  · rw [if_pos q, if_pos (show (10 : Int32) < nI j from nI_lt (a := 10) q hj)]; exact ⟨rfl, by decide⟩
  · rw [if_neg q, if_neg (show ¬ (10 : Int32) < nI j from fun z => q ((nI_ltI (a := 10) (by decide) hj).mp z))]; exact ⟨rfl, by omega⟩
theorem askT_0 {σ : St} {p x : Int32} (h : askT σ p x = 0) : (0 ≤ x ∧ x ≤ 20) ∧ rfT σ p = 0 := by
  unfold askT at h
  by_cases h1 : (0 ≤ p ∧ p ≤ 1) ∧ (0 ≤ x ∧ x ≤ 20)
  · rw [if_pos h1] at h; exact ⟨h1.2, h⟩
  · rw [if_neg h1] at h; exact absurd h (by decide)
theorem enc_lt {t : TD} (ht : tOK t) {d s : Nat} (hs : s < 2 ^ tn t) : enc (ms t d s) < 1000000000 ↔ ∃ b, ms t d s = some b := by
  cases h : ms t d s with
  | none => exact ⟨fun q => absurd q (by decide), fun ⟨b, hb⟩ => by cases hb⟩
  | some b =>
    refine ⟨fun _ => ⟨b, rfl⟩, fun _ => ?_⟩
    have h1 := ms_le ht s d s b (Nat.le_refl _) hs h
    have h2 : ones s ≤ 11 := cnt_le _ _
    have h3 : b.1 ≤ 121 := Nat.le_trans h1 (Nat.mul_le_mul h2 h2)
    exact nI_lt (b := 1000000000) (by omega) (by decide)
/-- the sum that is told, or -7 -/
def sumA (o : Option (Nat × Nat)) : Int32 := match o with
  | none => -7
  | some b => nI b.1
def byA (o : Option (Nat × Nat)) : Int32 := match o with
  | none => -7
  | some b => nI b.2
abbrev msA (σ : St) (p x : Int32) : Option (Nat × Nat) := ms (tdP (t0 σ) p) (rD x) (2 ^ lm (t0 σ) - 1)
def sp_sum (σ : St) (p x : Int32) : Int32 × St := (if askT (t0 σ) p x = 0 then sumA (msA σ p x) else askT (t0 σ) p x, t0 σ)
theorem C12_sum (σ : St) (hm : MI σ) (p x : Int32) : Mt YM mX12_sum 9 [.ref 0, .int p, .int x] σ (fun r τ => r = some (.int (sp_sum σ p x).1) ∧ sE (sp_sum σ p x).2 τ) := by
  have hm1 : mOK (t0 σ) (pN (t0 σ)) (cN (t0 σ)) (nN (t0 σ)) (tN (t0 σ)) (liN (t0 σ)) := hm.1
  refine Mt.ofA [some (.ref 0), some (.int p), some (.int x), none, none] (by decide) (fun _ => Nat.le_of_ble_eq_true rfl) (fun _ => rfl) (fun g hc => ?_)
  unfold sp_sum
  refine st_aload_n hc dX12_sum_0 rfl rfl ?_
  refine st_iconst (v := 0) hc dX12_sum_1 (by decide) ?_
  refine st_put hc dX12_sum_2 fpX12_139 rfl rfl  ?_
  refine st_aload_n hc dX12_sum_5 rfl rfl ?_
  refine st_iload_n hc dX12_sum_6 rfl rfl ?_
  refine st_iload_n hc dX12_sum_7 rfl rfl ?_
  refine st_callVq hc dX12_sum_8 (C12_asked 0 (t0 σ) hm1 p x) mvX12_254 (by omega) rfl rfl rfl (Nat.le_of_ble_eq_true rfl) ?_
  intro τ hτ
  refine st_istore_n hc dX12_sum_11 rfl (by decide) rfl ?_
  refine st_iload_n hc dX12_sum_12 rfl rfl ?_
  refine st_if_eq (tgt := 18) hc dX12_sum_13 (by decide) (fun h13 => ?_) (fun h13 => ?_)
  · obtain ⟨hx, hrf⟩ := askT_0 h13
    obtain ⟨hpp, -, hl1, hl10, hN⟩ := rfT_0 hrf
    obtain ⟨F, w, hF, rfl⟩ : ∃ F w, (∀ k, k < lm (t0 σ) → F k = nI (lth (t0 σ) k)) ∧ τ = lkS (t0 σ) (lm (t0 σ)) F w := hτ.elim (fun q => absurd h13 q.2) id
    have h1024 : 2 ^ lm (t0 σ) ≤ 1024 := Nat.pow_le_pow_right (by decide) hl10
    have h2 : 2 ≤ 2 ^ lm (t0 σ) := Nat.le_trans (by decide) (Nat.pow_le_pow_right (by decide) hl1)
    rw [if_pos h13]
    obtain ⟨er, hr11⟩ := rowD_n hx.1
    have ht := tdM_ok hm1 hl10 (decide (p = 1))
    refine st_aload_n hc dX12_sum_18 rfl rfl ?_
    refine st_iload_n hc dX12_sum_19 rfl rfl ?_
    refine st_callVn hc dX12_sum_20 (C12_treesP 3 (t0 σ) hm1 hl10 F w hF hpp) mvX12_251 (by omega) rfl rfl rfl (Nat.le_of_ble_eq_true rfl) ?_
    rintro τ ⟨hTI, hTB⟩
    refine st_aload_n hc dX12_sum_23 rfl rfl ?_
    refine st_getr hc dX12_sum_24 flX12_69 rfl rfl ?_
    refine st_sipush (v := 1024) hc dX12_sum_27 (by decide) ?_
    refine st_iload_n hc dX12_sum_30 rfl rfl ?_
    refine st_callSp hc dX12_sum_31 (C12_row 0 τ x) msX12_257 (by omega) rfl rfl (Nat.le_of_ble_eq_true rfl) ?_
    refine st_imul hc dX12_sum_34 ?_
    refine st_iconst (v := 1) hc dX12_sum_35 (by decide) ?_
    refine st_aload_n hc dX12_sum_36 rfl rfl ?_
    refine st_getE hc dX12_sum_37 flX12_164 rfl rfl (show _ = nI (lm (t0 σ)) from hTI.2.1) ?_
    refine st_ishl hc dX12_sum_40 ?_
    refine st_iadd hc dX12_sum_41 ?_
    refine st_iconst (v := 1) hc dX12_sum_42 (by decide) ?_
    refine st_isub hc dX12_sum_43 ?_
    refine st_ialdN (k := 1024 * rD x + (2 ^ lm (t0 σ) - 1)) hc dX12_sum_44 rfl (by rw [er, show (1024 : Int32) = nI 1024 from rfl, pk_mul, nI_shl1 (by omega), nI_add, show 1024 * rD x + 2 ^ lm (t0 σ) = (1024 * rD x + (2 ^ lm (t0 σ) - 1)) + 1 by omega, nI_pred]) (by omega) (by first | decide | omega) (((hTB _ (by omega) (by omega)).2 (rD x) hr11).1) ?_
    refine st_istore hc dX12_sum_45 (by decide) rfl ?_
    refine st_iload hc dX12_sum_47 rfl ?_
    refine st_ldc hc dX12_sum_49 kcX12_227 ?_
    refine st_icmp_lt (tgt := 59) hc dX12_sum_51 (by decide) (fun h51 => ?_) (fun h51 => ?_)
    · obtain ⟨b, hb⟩ := (enc_lt ht (show 2 ^ lm (t0 σ) - 1 < 2 ^ lm (t0 σ) by omega)).mp h51
      have eb : msA σ p x = some b := hb
      refine st_iload hc dX12_sum_59 rfl ?_
      refine st_iret (st := []) hc dX12_sum_61 rfl ?_
      rw [eb]
      refine ⟨?_, hTI.1⟩
      first
        | rfl
        | (show some (Value.int (enc (ms (tdP (t0 σ) p) (rD x) (2 ^ lm (t0 σ) - 1)))) = _; rw [hb]; rfl)
    · have eb : msA σ p x = none := by
        cases hb : msA σ p x with
        | none => rfl
        | some b => exact absurd ((enc_lt ht (show 2 ^ lm (t0 σ) - 1 < 2 ^ lm (t0 σ) by omega)).mpr ⟨b, hb⟩) h51
      refine st_bipush (v := (-7)) hc dX12_sum_54 (by decide) ?_
      refine st_goto (tgt := 61) hc dX12_sum_56 (by decide) ?_
      refine st_iret (st := []) hc dX12_sum_61 rfl ?_
      rw [eb]
      refine ⟨?_, hTI.1⟩
      first
        | rfl
        | (show some (Value.int (enc (ms (tdP (t0 σ) p) (rD x) (2 ^ lm (t0 σ) - 1)))) = _; rw [hb]; rfl)
  · have hE : sE (t0 σ) τ := by
      rcases hτ with q | ⟨F, w, -, rfl⟩
      · exact q.1
      · exact sE.lk _ _ _ _
    refine st_iload_n hc dX12_sum_16 rfl rfl ?_
    refine st_iret (st := []) hc dX12_sum_17 rfl ?_
    rw [if_neg h13]; exact ⟨rfl, hE⟩
def sp_best (σ : St) (w p x : Int32) : Int32 × St :=
  (if ¬ (0 ≤ w ∧ w ≤ 1) then -1 else if askT (t0 σ) p x = 0 then (if w = 0 then (match md (tdP (t0 σ) p) (2 ^ lm (t0 σ) - 1) with | none => 0 | some b => nI b.2) else byA (msA σ p x)) else askT (t0 σ) p x, t0 σ)
theorem C12_best (σ : St) (hm : MI σ) (h p x : Int32) : Mt YM mX12_best 9 [.ref 0, .int h, .int p, .int x] σ (fun r τ => (r = some (.int (sp_best σ h p x).1) ∨ (askT (t0 σ) p x = 0 ∧ md (tdP (t0 σ) p) (2 ^ lm (t0 σ) - 1) = none)) ∧ sE (sp_best σ h p x).2 τ) := by
  have hm1 : mOK (t0 σ) (pN (t0 σ)) (cN (t0 σ)) (nN (t0 σ)) (tN (t0 σ)) (liN (t0 σ)) := hm.1
  refine Mt.ofA [some (.ref 0), some (.int h), some (.int p), some (.int x), none, none] (by decide) (fun _ => Nat.le_of_ble_eq_true rfl) (fun _ => rfl) (fun g hc => ?_)
  unfold sp_best
  refine st_aload_n hc dX12_best_0 rfl rfl ?_
  refine st_iconst (v := 0) hc dX12_best_1 (by decide) ?_
  refine st_put hc dX12_best_2 fpX12_139 rfl rfl  ?_
  refine st_iload_n hc dX12_best_5 rfl rfl ?_
  refine st_iconst (v := 0) hc dX12_best_6 (by decide) ?_
  refine st_iconst (v := 1) hc dX12_best_7 (by decide) ?_
  refine st_callSp hc dX12_best_8 (C12_in 0 _ h 0 1) msX12_142 (by omega) rfl rfl (Nat.le_of_ble_eq_true rfl) ?_
  refine st_if_ne (tgt := 16) hc dX12_best_11 (by decide) (fun h11 => ?_) (fun h11 => ?_)
  · have h11 := it1.mp h11
    have e11 : ¬ ¬ (0 ≤ h ∧ h ≤ 1) := fun q => q h11
    refine st_aload_n hc dX12_best_16 rfl rfl ?_
    refine st_iload_n hc dX12_best_17 rfl rfl ?_
    refine st_iload_n hc dX12_best_18 rfl rfl ?_
    refine st_callVq hc dX12_best_19 (C12_asked 0 (t0 σ) hm1 p x) mvX12_254 (by omega) rfl rfl rfl (Nat.le_of_ble_eq_true rfl) ?_
    intro τ hτ
    refine st_istore hc dX12_best_22 (by decide) rfl ?_
    refine st_iload hc dX12_best_24 rfl ?_
    refine st_if_eq (tgt := 32) hc dX12_best_26 (by decide) (fun h26 => ?_) (fun h26 => ?_)
    · obtain ⟨hx, hrf⟩ := askT_0 h26
      obtain ⟨hpp, -, hl1, hl10, hN⟩ := rfT_0 hrf
      obtain ⟨F, w, hF, rfl⟩ : ∃ F w, (∀ k, k < lm (t0 σ) → F k = nI (lth (t0 σ) k)) ∧ τ = lkS (t0 σ) (lm (t0 σ)) F w := hτ.elim (fun q => absurd h26 q.2) id
      have h1024 : 2 ^ lm (t0 σ) ≤ 1024 := Nat.pow_le_pow_right (by decide) hl10
      have h2 : 2 ≤ 2 ^ lm (t0 σ) := Nat.le_trans (by decide) (Nat.pow_le_pow_right (by decide) hl1)
      obtain ⟨er, hr11⟩ := rowD_n hx.1
      have ht := tdM_ok hm1 hl10 (decide (p = 1))
      refine st_aload_n hc dX12_best_32 rfl rfl ?_
      refine st_iload_n hc dX12_best_33 rfl rfl ?_
      refine st_callVn hc dX12_best_34 (C12_treesP 3 (t0 σ) hm1 hl10 F w hF hpp) mvX12_251 (by omega) rfl rfl rfl (Nat.le_of_ble_eq_true rfl) ?_
      rintro τ ⟨hTI, hTB⟩
      have hrow := hTB (2 ^ lm (t0 σ) - 1) (by omega) (by omega)
      refine st_iconst (v := 1) hc dX12_best_37 (by decide) ?_
      refine st_aload_n hc dX12_best_38 rfl rfl ?_
      refine st_getE hc dX12_best_39 flX12_164 rfl rfl (show _ = nI (lm (t0 σ)) from hTI.2.1) ?_
      refine st_ishl hc dX12_best_42 ?_
      refine st_iconst (v := 1) hc dX12_best_43 (by decide) ?_
      refine st_isub hc dX12_best_44 ?_
      rw [all_set hl10]
      refine st_istore hc dX12_best_45 (by decide) rfl ?_
      refine st_iload_n hc dX12_best_47 rfl rfl ?_
      refine st_if_ne (tgt := 59) hc dX12_best_48 (by decide) (fun h48 => ?_) (fun h48 => ?_)
      · refine st_aload_n hc dX12_best_59 rfl rfl ?_
        refine st_getr hc dX12_best_60 flX12_69 rfl rfl ?_
        refine st_sipush (v := 1024) hc dX12_best_63 (by decide) ?_
        refine st_iload_n hc dX12_best_66 rfl rfl ?_
        refine st_callSp hc dX12_best_67 (C12_row 0 τ x) msX12_257 (by omega) rfl rfl (Nat.le_of_ble_eq_true rfl) ?_
        refine st_imul hc dX12_best_70 ?_
        refine st_iload hc dX12_best_71 rfl ?_
        refine st_iadd hc dX12_best_73 ?_
        refine st_ialdN (k := 1024 * rD x + (2 ^ lm (t0 σ) - 1)) hc dX12_best_74 rfl (by rw [er, show (1024 : Int32) = nI 1024 from rfl, pk_mul, nI_add]) (by omega) (by first | decide | omega) ((hrow.2 (rD x) hr11).1) ?_
        refine st_ldc hc dX12_best_75 kcX12_227 ?_
        refine st_icmp_lt (tgt := 85) hc dX12_best_77 (by decide) (fun h77 => ?_) (fun h77 => ?_)
        · obtain ⟨b, hb⟩ := (enc_lt ht (show 2 ^ lm (t0 σ) - 1 < 2 ^ lm (t0 σ) by omega)).mp h77
          have eb : msA σ p x = some b := hb
          refine st_aload_n hc dX12_best_85 rfl rfl ?_
          refine st_getr hc dX12_best_86 flX12_72 rfl rfl ?_
          refine st_sipush (v := 1024) hc dX12_best_89 (by decide) ?_
          refine st_iload_n hc dX12_best_92 rfl rfl ?_
          refine st_callSp hc dX12_best_93 (C12_row 0 τ x) msX12_257 (by omega) rfl rfl (Nat.le_of_ble_eq_true rfl) ?_
          refine st_imul hc dX12_best_96 ?_
          refine st_iload hc dX12_best_97 rfl ?_
          refine st_iadd hc dX12_best_99 ?_
          refine st_ialdN (k := 1024 * rD x + (2 ^ lm (t0 σ) - 1)) hc dX12_best_100 rfl (by rw [er, show (1024 : Int32) = nI 1024 from rfl, pk_mul, nI_add]) (by omega) (by first | decide | omega) ((hrow.2 (rD x) hr11).2 b hb) ?_
          refine st_iret (st := []) hc dX12_best_101 rfl ?_
          refine ⟨Or.inl ?_, hTI.1⟩
          rw [if_neg e11, if_pos h26, if_neg h48, eb]
          rfl
        · have eb : msA σ p x = none := by
            cases hb : msA σ p x with
            | none => rfl
            | some b => exact absurd ((enc_lt ht (show 2 ^ lm (t0 σ) - 1 < 2 ^ lm (t0 σ) by omega)).mpr ⟨b, hb⟩) h77
          refine st_bipush (v := (-7)) hc dX12_best_80 (by decide) ?_
          refine st_goto (tgt := 101) hc dX12_best_82 (by decide) ?_
          refine st_iret (st := []) hc dX12_best_101 rfl ?_
          refine ⟨Or.inl ?_, hTI.1⟩
          rw [if_neg e11, if_pos h26, if_neg h48, eb]
          rfl
      · refine st_aload_n hc dX12_best_51 rfl rfl ?_
        refine st_getr hc dX12_best_52 flX12_66 rfl rfl ?_
        refine st_iload hc dX12_best_55 rfl ?_
        refine st_ialdN (k := 2 ^ lm (t0 σ) - 1) hc dX12_best_57 rfl (rfl) (by omega) (by first | decide | omega) rfl ?_
        refine st_iret (st := []) hc dX12_best_58 rfl ?_
        cases hmd : md (tdP (t0 σ) p) (2 ^ lm (t0 σ) - 1) with
        | none => exact ⟨Or.inr ⟨h26, rfl⟩, hTI.1⟩
        | some b =>
          refine ⟨Or.inl ?_, hTI.1⟩
          rw [if_neg e11, if_pos h26, if_pos h48]
          rw [hrow.1.2 b hmd]
    · have hE : sE (t0 σ) τ := by
        rcases hτ with q | ⟨F, w, -, rfl⟩
        · exact q.1
        · exact sE.lk _ _ _ _
      refine st_iload hc dX12_best_29 rfl ?_
      refine st_iret (st := []) hc dX12_best_31 rfl ?_
      rw [if_neg e11, if_neg h26]; exact ⟨Or.inl rfl, hE⟩
  · have h11 := it0.mp h11
    refine st_iconst (v := (-1)) hc dX12_best_14 (by decide) ?_
    refine st_iret (st := []) hc dX12_best_15 rfl ?_
    rw [if_pos h11]; exact ⟨Or.inl rfl, sE.rf⟩

