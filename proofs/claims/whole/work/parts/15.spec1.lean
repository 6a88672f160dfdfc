/-! ===== what each call answers, and what it leaves: over the reference's store ===== -/
theorem it0 {c : Prop} {h : Decidable c} : (@ite Int32 c h 1 0) = 0 ↔ ¬ c := by
  by_cases e : c
  · simp [e]
  · simp [e]
theorem it1 {c : Prop} {h : Decidable c} : ¬ (@ite Int32 c h 1 0) = 0 ↔ c := by
  by_cases e : c
  · simp [e]
  · simp [e]
abbrev nat (x : Int32) : Nat := x.toNatClampNeg
/-- the reference's places that stay from call to call -/
def perM (a b : Nat) : Bool := if a = 0 then !(b == 18 || b == 32) else [1, 2, 3, 4, 5, 21, 22, 23, 24, 25, 30, 31, 32, 34, 35, 36, 37].contains a
/-- alike but for scratch -/
def sE (σ τ : St) : Prop := ∀ a b, perM a b = true → τ a b = σ a b
theorem sE.rf {σ : St} : sE σ σ := fun _ _ _ => rfl
theorem sE.tr {σ τ υ : St} (h1 : sE σ τ) (h2 : sE τ υ) : sE σ υ := fun a b h => (h2 a b h).trans (h1 a b h)
theorem sE.lk (σ : St) (n : Nat) (F w : Nat → Int32) : sE σ (lkS σ n F w) := by
  intro a b h
  refine lk0 σ n F w ?_ ?_ ?_
  · rintro rfl; simp [perM] at h
  · rintro rfl; simp [perM] at h
  · rintro ⟨rfl, rfl⟩; simp [perM] at h
theorem sE.v {σ τ : St} (h : sE σ τ) {k : Nat} (hk : perM k 0 = false) (h0 : k ≠ 0) (w : Nat → Int32) : sE σ (va_up τ k w) := by
  intro a b hp
  by_cases e : a = k
  · subst e
    unfold perM at hp hk
    rw [if_neg h0] at hp hk
    rw [hp] at hk
    cases hk
  · rw [vu_n e]; exact h a b hp
abbrev pN (σ : St) : Nat := nat (σ 0 0)
abbrev cN (σ : St) : Nat := nat (σ 0 1)
abbrev nN (σ : St) : Nat := nat (σ 0 2)
abbrev tN (σ : St) : Nat := nat (σ 0 9)
abbrev liN (σ : St) : Nat := nat (σ 0 5)
/-- what holds of the reference between calls -/
def MI (σ : St) : Prop := mOK σ (pN σ) (cN σ) (nN σ) (tN σ) (liN σ) ∧ tN σ ≤ 10
theorem nat_nI {n : Nat} (h : n < 2 ^ 31) : nat (nI n) = n := nI_clamp h
theorem nI_nat {x : Int32} (h : 0 ≤ x) : nI (nat x) = x := by
  obtain ⟨j, hj, rfl⟩ := nI_of (Int32.not_lt.mpr h)
  rw [nat_nI hj]
theorem nat_lt (x : Int32) : nat x < 2 ^ 31 := by
  have := x.toInt_lt
  unfold nat Int32.toNatClampNeg
  omega
abbrev t0 (σ : St) : St := up σ 0 15 0
/-- x is one of 0 .. n - 1 -/
theorem in_n {x : Int32} {n : Nat} (hn : n < 2 ^ 31) : (0 ≤ x ∧ x ≤ nI n - 1) ↔ (0 ≤ x ∧ nat x < n) := by
  constructor
  · rintro ⟨h1, h2⟩
    refine ⟨h1, ?_⟩
    obtain ⟨j, hj, rfl⟩ := nI_of (Int32.not_lt.mpr h1)
    rw [nat_nI hj]
    cases n with
    | zero =>
      exfalso
      have : nI 0 - 1 = (-1 : Int32) := by decide
      rw [this] at h2
      have h3 := Int32.le_iff_toInt_le.mp h2
      rw [nI_toInt hj] at h3
      have : (-1 : Int32).toInt = -1 := by decide
      omega
    | succ n => rw [nI_pred] at h2; have := (nI_leI hj (by omega)).mp h2; omega
  · rintro ⟨h1, h2⟩
    refine ⟨h1, ?_⟩
    obtain ⟨j, hj, rfl⟩ := nI_of (Int32.not_lt.mpr h1)
    rw [nat_nI hj] at h2
    cases n with
    | zero => omega
    | succ n => rw [nI_pred]; exact nI_le (by omega) (by omega)
def sp_law (σ : St) (a b : Int32) : Int32 × St :=
  if ¬ (0 ≤ a ∧ a ≤ 3) then (-1, t0 σ) else if 0 < tN σ then (-3, t0 σ) else (nI (cnt (nN σ) (okLaw (pN σ) (cN σ) a b (σ 1))), up (up (t0 σ) 0 3 a) 0 4 b)
theorem C12_law (σ : St) (hm : MI σ) (a b : Int32) : Mt YM mX12_law 9 [.ref 0, .int a, .int b] σ (fun r τ => r = some (.int (sp_law σ a b).1) ∧ sE (sp_law σ a b).2 τ) := by
  obtain ⟨hm, ht⟩ := hm
  obtain ⟨hpc, h2, h3, h4, hT, hT2, hLi, hL2, hls⟩ := id hm
  refine Mt.ofA [some (.ref 0), some (.int a), some (.int b)] (by decide) (fun _ => Nat.le_of_ble_eq_true rfl) (fun _ => rfl) (fun g hc => ?_)
  unfold sp_law
  refine st_aload_n hc dX12_law_0 rfl rfl ?_
  refine st_iconst (v := 0) hc dX12_law_1 (by decide) ?_
  refine st_put hc dX12_law_2 fpX12_139 rfl rfl  ?_
  refine st_iload_n hc dX12_law_5 rfl rfl ?_
  refine st_iconst (v := 0) hc dX12_law_6 (by decide) ?_
  refine st_iconst (v := 3) hc dX12_law_7 (by decide) ?_
  refine st_callSp hc dX12_law_8 (C12_in 0 _ a 0 3) msX12_142 (by omega) rfl rfl (Nat.le_of_ble_eq_true rfl) ?_
  refine st_if_ne (tgt := 16) hc dX12_law_11 (by decide) (fun h11 => ?_) (fun h11 => ?_)
  · have h11 := it1.mp h11
    refine st_aload_n hc dX12_law_16 rfl rfl ?_
    refine st_getE hc dX12_law_17 flX12_171 rfl rfl (hT) ?_
    refine st_if_le (tgt := 26) hc dX12_law_20 (by decide) (fun h20 => ?_) (fun h20 => ?_)
    · have h20 : ¬ 0 < tN σ := fun q => nI_nle q (by omega) h20
      refine st_aload_n hc dX12_law_26 rfl rfl ?_
      refine st_iload_n hc dX12_law_27 rfl rfl ?_
      refine st_put hc dX12_law_28 fpX12_150 rfl rfl  ?_
      refine st_aload_n hc dX12_law_31 rfl rfl ?_
      refine st_iload_n hc dX12_law_32 rfl rfl ?_
      refine st_put hc dX12_law_33 fpX12_153 rfl rfl  ?_
      refine st_aload_n hc dX12_law_36 rfl rfl ?_
      refine st_callVp hc dX12_law_37 (C12_allowed 0 (up (up (t0 σ) 0 3 a) 0 4 b) (P := pN σ) (C := cN σ) (N := nN σ) (T := tN σ) (L := liN σ) hm) mvX12_195 (by omega) rfl rfl rfl (Nat.le_of_ble_eq_true rfl) ?_
      refine st_iret (st := []) hc dX12_law_40 rfl ?_
      rw [if_neg (fun q => q h11), if_neg h20]; exact ⟨rfl, sE.rf⟩
    · have h20 : 0 < tN σ := Nat.pos_of_ne_zero (fun q => h20 (by rw [q]; decide))
      refine st_bipush (v := (-3)) hc dX12_law_23 (by decide) ?_
      refine st_iret (st := []) hc dX12_law_25 rfl ?_
      rw [if_neg (fun q => q h11), if_pos h20]; exact ⟨rfl, sE.rf⟩
  · have h11 := it0.mp h11
    refine st_iconst (v := (-1)) hc dX12_law_14 (by decide) ?_
    refine st_iret (st := []) hc dX12_law_15 rfl ?_
    rw [if_pos h11]; exact ⟨rfl, sE.rf⟩
def sp_lies (σ : St) (a : Int32) : Int32 × St :=
  if ¬ (0 ≤ a ∧ a ≤ 2) then (-1, t0 σ) else if 0 < tN σ then (-3, t0 σ) else (σ 0 5, up (t0 σ) 0 5 a)
theorem C12_lies (σ : St) (hm : MI σ) (a : Int32) : Mt YM mX12_lies 9 [.ref 0, .int a] σ (fun r τ => r = some (.int (sp_lies σ a).1) ∧ sE (sp_lies σ a).2 τ) := by
  obtain ⟨hm, ht⟩ := hm
  obtain ⟨hpc, h2, h3, h4, hT, hT2, hLi, hL2, hls⟩ := id hm
  refine Mt.ofA [some (.ref 0), some (.int a), none] (by decide) (fun _ => Nat.le_of_ble_eq_true rfl) (fun _ => rfl) (fun g hc => ?_)
  unfold sp_lies
  refine st_aload_n hc dX12_lies_0 rfl rfl ?_
  refine st_iconst (v := 0) hc dX12_lies_1 (by decide) ?_
  refine st_put hc dX12_lies_2 fpX12_139 rfl rfl  ?_
  refine st_iload_n hc dX12_lies_5 rfl rfl ?_
  refine st_iconst (v := 0) hc dX12_lies_6 (by decide) ?_
  refine st_iconst (v := 2) hc dX12_lies_7 (by decide) ?_
  refine st_callSp hc dX12_lies_8 (C12_in 0 _ a 0 2) msX12_142 (by omega) rfl rfl (Nat.le_of_ble_eq_true rfl) ?_
  refine st_if_ne (tgt := 16) hc dX12_lies_11 (by decide) (fun h11 => ?_) (fun h11 => ?_)
  · have h11 := it1.mp h11
    refine st_aload_n hc dX12_lies_16 rfl rfl ?_
    refine st_getE hc dX12_lies_17 flX12_171 rfl rfl (hT) ?_
    refine st_if_le (tgt := 26) hc dX12_lies_20 (by decide) (fun h20 => ?_) (fun h20 => ?_)
    · have h20 : ¬ 0 < tN σ := fun q => nI_nle q (by omega) h20
      refine st_aload_n hc dX12_lies_26 rfl rfl ?_
      refine st_getE hc dX12_lies_27 flX12_180 rfl rfl rfl ?_
      refine st_istore_n hc dX12_lies_30 rfl (by decide) rfl ?_
      refine st_aload_n hc dX12_lies_31 rfl rfl ?_
      refine st_iload_n hc dX12_lies_32 rfl rfl ?_
      refine st_put hc dX12_lies_33 fpX12_180 rfl rfl  ?_
      refine st_iload_n hc dX12_lies_36 rfl rfl ?_
      refine st_iret (st := []) hc dX12_lies_37 rfl ?_
      rw [if_neg (fun q => q h11), if_neg h20]; exact ⟨rfl, sE.rf⟩
    · have h20 : 0 < tN σ := Nat.pos_of_ne_zero (fun q => h20 (by rw [q]; decide))
      refine st_bipush (v := (-3)) hc dX12_lies_23 (by decide) ?_
      refine st_iret (st := []) hc dX12_lies_25 rfl ?_
      rw [if_neg (fun q => q h11), if_pos h20]; exact ⟨rfl, sE.rf⟩
  · have h11 := it0.mp h11
    refine st_iconst (v := (-1)) hc dX12_lies_14 (by decide) ?_
    refine st_iret (st := []) hc dX12_lies_15 rfl ?_
    rw [if_pos h11]; exact ⟨rfl, sE.rf⟩
def sp_enlist (σ : St) (c : Int32) : Int32 × St :=
  if ¬ (0 ≤ c ∧ nat c < nN σ) then (-1, t0 σ) else if 0 < tN σ then (-3, t0 σ) else if ¬ σ 1 (nat c) = 0 then (σ 0 7, t0 σ) else if σ 0 7 = 300 then (-2, t0 σ) else (σ 0 7 + 1, up (up (t0 σ) 1 (nat c) 1) 0 7 (σ 0 7 + 1))
theorem C12_enlist (σ : St) (hm : MI σ) (c : Int32) : Mt YM mX12_enlist 9 [.ref 0, .int c] σ (fun r τ => r = some (.int (sp_enlist σ c).1) ∧ sE (sp_enlist σ c).2 τ) := by
  obtain ⟨hm, ht⟩ := hm
  obtain ⟨hpc, h2, h3, h4, hT, hT2, hLi, hL2, hls⟩ := id hm
  refine Mt.ofA [some (.ref 0), some (.int c)] (by decide) (fun _ => Nat.le_of_ble_eq_true rfl) (fun _ => rfl) (fun g hc => ?_)
  unfold sp_enlist
  have hin := in_n (x := c) (n := nN σ) (by omega)
  rw [← h2] at hin
  refine st_aload_n hc dX12_enlist_0 rfl rfl ?_
  refine st_iconst (v := 0) hc dX12_enlist_1 (by decide) ?_
  refine st_put hc dX12_enlist_2 fpX12_139 rfl rfl  ?_
  refine st_aload_n hc dX12_enlist_5 rfl rfl ?_
  refine st_iload_n hc dX12_enlist_6 rfl rfl ?_
  refine st_callVp hc dX12_enlist_7 (C12_isCode 0 (t0 σ) c) mvX12_199 (by omega) rfl rfl rfl (Nat.le_of_ble_eq_true rfl) ?_
  refine st_if_ne (tgt := 15) hc dX12_enlist_10 (by decide) (fun h10 => ?_) (fun h10 => ?_)
  · have h10 := hin.mp (it1.mp h10)
    obtain ⟨hc0, hcn⟩ := id h10
    have ec := (nI_nat hc0).symm
    refine st_aload_n hc dX12_enlist_15 rfl rfl ?_
    refine st_getE hc dX12_enlist_16 flX12_171 rfl rfl (hT) ?_
    refine st_if_le (tgt := 25) hc dX12_enlist_19 (by decide) (fun h19 => ?_) (fun h19 => ?_)
    · have h19 : ¬ 0 < tN σ := fun q => nI_nle q (by omega) h19
      refine st_aload_n hc dX12_enlist_25 rfl rfl ?_
      refine st_getr hc dX12_enlist_26 flX12_19 rfl rfl ?_
      refine st_iload_n hc dX12_enlist_29 rfl rfl ?_
      refine st_zaldN (k := nat c) hc dX12_enlist_30 rfl (ec) (by omega) (by decide) rfl ?_
      refine st_if_eq (tgt := 39) hc dX12_enlist_31 (by decide) (fun h31 => ?_) (fun h31 => ?_)
      · have h31 : σ 1 (nat c) = 0 := h31
        refine st_aload_n hc dX12_enlist_39 rfl rfl ?_
        refine st_getE hc dX12_enlist_40 flX12_183 rfl rfl rfl ?_
        refine st_sipush (v := 300) hc dX12_enlist_43 (by decide) ?_
        refine st_icmp_ne (tgt := 52) hc dX12_enlist_46 (by decide) (fun h46 => ?_) (fun h46 => ?_)
        · have h46 : ¬ σ 0 7 = 300 := h46
          refine st_aload_n hc dX12_enlist_52 rfl rfl ?_
          refine st_getr hc dX12_enlist_53 flX12_19 rfl rfl ?_
          refine st_iload_n hc dX12_enlist_56 rfl rfl ?_
          refine st_iconst (v := 1) hc dX12_enlist_57 (by decide) ?_
          refine st_zastN (k := nat c) hc dX12_enlist_58 rfl (ec) (by omega) (by decide) (Or.inr rfl) ?_
          refine st_aload_n hc dX12_enlist_59 rfl rfl ?_
          refine st_dup hc dX12_enlist_60 rfl ?_
          refine st_getE hc dX12_enlist_61 flX12_183 rfl rfl rfl ?_
          refine st_iconst (v := 1) hc dX12_enlist_64 (by decide) ?_
          refine st_iadd hc dX12_enlist_65 ?_
          refine st_put hc dX12_enlist_66 fpX12_183 rfl rfl  ?_
          refine st_aload_n hc dX12_enlist_69 rfl rfl ?_
          refine st_getE hc dX12_enlist_70 flX12_183 rfl rfl rfl ?_
          refine st_iret (st := []) hc dX12_enlist_73 rfl ?_
          rw [if_neg (fun q => q h10), if_neg h19, if_neg (fun q => q h31), if_neg h46]; exact ⟨rfl, sE.rf⟩
        · have h46 : σ 0 7 = 300 := h46
          refine st_bipush (v := (-2)) hc dX12_enlist_49 (by decide) ?_
          refine st_iret (st := []) hc dX12_enlist_51 rfl ?_
          rw [if_neg (fun q => q h10), if_neg h19, if_neg (fun q => q h31), if_pos h46]; exact ⟨rfl, sE.rf⟩
      · have h31 : ¬ σ 1 (nat c) = 0 := h31
        refine st_aload_n hc dX12_enlist_34 rfl rfl ?_
        refine st_getE hc dX12_enlist_35 flX12_183 rfl rfl rfl ?_
        refine st_iret (st := []) hc dX12_enlist_38 rfl ?_
        rw [if_neg (fun q => q h10), if_neg h19, if_pos h31]; exact ⟨rfl, sE.rf⟩
    · have h19 : 0 < tN σ := Nat.pos_of_ne_zero (fun q => h19 (by rw [q]; decide))
      refine st_bipush (v := (-3)) hc dX12_enlist_22 (by decide) ?_
      refine st_iret (st := []) hc dX12_enlist_24 rfl ?_
      rw [if_neg (fun q => q h10), if_pos h19]; exact ⟨rfl, sE.rf⟩
  · have h10 := fun q => it0.mp h10 (hin.mpr q)
    refine st_iconst (v := (-1)) hc dX12_enlist_13 (by decide) ?_
    refine st_iret (st := []) hc dX12_enlist_14 rfl ?_
    rw [if_pos h10]; exact ⟨rfl, sE.rf⟩

