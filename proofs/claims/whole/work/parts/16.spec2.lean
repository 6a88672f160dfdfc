/-- the k-th number below n with p -/
def nthT (n : Nat) (p : Nat → Bool) (k : Nat) : Nat := match n with
  | 0 => 0
  | n + 1 => if p n && cnt n p == k then n else nthT n p k
theorem nthT_ok {n : Nat} {p : Nat → Bool} {k : Nat} (h : k < cnt n p) : nthT n p k < n ∧ p (nthT n p k) = true ∧ cnt (nthT n p k) p = k := by
  induction n with
  | zero => exact absurd h (Nat.not_lt_zero k)
  | succ n ih =>
    have e : cnt (n + 1) p = cnt n p + (if p n then 1 else 0) := rfl
    rw [e] at h
    have e2 : nthT (n + 1) p k = if p n && cnt n p == k then n else nthT n p k := rfl
    rw [e2]
    by_cases q : (p n && cnt n p == k) = true
    · rw [if_pos q]
      simp at q
      exact ⟨by omega, q.1, q.2⟩
    · rw [if_neg q]
      simp at q
      have hk : k < cnt n p := by
        by_cases hp : p n = true
        · have := q hp; rw [if_pos hp] at h; omega
        · rw [if_neg hp] at h; omega
      obtain ⟨h1, h2, h3⟩ := ih hk
      exact ⟨by omega, h2, h3⟩
theorem nthT_at {n : Nat} {p : Nat → Bool} {F : Nat → Int32} (hF : ∀ c, c < n → p c = true → F (cnt c p) = nI c) {k : Nat} (h : k < cnt n p) : F k = nI (nthT n p k) := by
  obtain ⟨h1, h2, h3⟩ := nthT_ok h
  have := hF _ h1 h2
  rw [h3] at this
  exact this
abbrev mLs (σ : St) : Nat → Bool := mL σ (pN σ) (cN σ) (tN σ) (liN σ)
/-- how many codes are left -/
abbrev lm (σ : St) : Nat := cnt (nN σ) (mLs σ)
theorem C12_found (d : Nat) (σ : St) (x : Int32) : Mt YM mX12_found d [.ref 0, .int x] σ (fun r τ => r = some (.int x) ∧ τ = up σ 0 14 (σ 0 14 + 1)) := by
  refine Mt.ofA [some (.ref 0), some (.int x)] (by decide) (fun _ => Nat.le_of_ble_eq_true rfl) (fun _ => rfl) (fun g hc => ?_)
  refine st_aload_n hc dX12_found_0 rfl rfl ?_
  refine st_dup hc dX12_found_1 rfl ?_
  refine st_getE hc dX12_found_2 flX12_192 rfl rfl rfl ?_
  refine st_iconst (v := 1) hc dX12_found_5 (by decide) ?_
  refine st_iadd hc dX12_found_6 ?_
  refine st_put hc dX12_found_7 fpX12_192 rfl rfl  ?_
  refine st_iload_n hc dX12_found_10 rfl rfl ?_
  refine st_iret (st := []) hc dX12_found_11 rfl ?_
  exact ⟨rfl, rfl⟩
/-- a refusal of the host -/
abbrev fnd (σ : St) : St := up (t0 σ) 0 14 (σ 0 14 + 1)
def sp_hand (σ : St) (i : Int32) : Int32 × St := if 0 ≤ i ∧ nat i < pN σ then (σ 2 (nat i), t0 σ) else (-13, fnd σ)
theorem C12_hand (σ : St) (hm : MI σ) (i : Int32) : Mt YM mX12_hand 9 [.ref 0, .int i] σ (fun r τ => r = some (.int (sp_hand σ i).1) ∧ sE (sp_hand σ i).2 τ) := by
  obtain ⟨hm, ht⟩ := hm
  obtain ⟨⟨hP, hC, hP1, hP5, hC1, hC8⟩, h2, h3, h4, hT, hT2, hLi, hL2, hls⟩ := id hm
  refine Mt.ofA [some (.ref 0), some (.int i)] (by decide) (fun _ => Nat.le_of_ble_eq_true rfl) (fun _ => rfl) (fun g hc => ?_)
  unfold sp_hand
  have hin := in_n (x := i) (n := pN σ) (by omega)
  rw [← hP] at hin
  refine st_aload_n hc dX12_hand_0 rfl rfl ?_
  refine st_iconst (v := 0) hc dX12_hand_1 (by decide) ?_
  refine st_put hc dX12_hand_2 fpX12_139 rfl rfl  ?_
  refine st_iload_n hc dX12_hand_5 rfl rfl ?_
  refine st_iconst (v := 0) hc dX12_hand_6 (by decide) ?_
  refine st_aload_n hc dX12_hand_7 rfl rfl ?_
  refine st_getE hc dX12_hand_8 flX12_7 rfl rfl rfl ?_
  refine st_iconst (v := 1) hc dX12_hand_11 (by decide) ?_
  refine st_isub hc dX12_hand_12 ?_
  refine st_callSp hc dX12_hand_13 (C12_in 0 _ i 0 (σ 0 0 - 1)) msX12_142 (by omega) rfl rfl (Nat.le_of_ble_eq_true rfl) ?_
  refine st_if_eq (tgt := 28) hc dX12_hand_16 (by decide) (fun h16 => ?_) (fun h16 => ?_)
  · have h16 := fun q => it0.mp h16 (hin.mpr q)
    refine st_aload_n hc dX12_hand_28 rfl rfl ?_
    refine st_bipush (v := (-13)) hc dX12_hand_29 (by decide) ?_
    refine st_callVq hc dX12_hand_31 (C12_found 0 (t0 σ) (-13)) mvX12_202 (by omega) rfl rfl rfl (Nat.le_of_ble_eq_true rfl) ?_
    rintro _ rfl
    refine st_iret (st := []) hc dX12_hand_34 rfl ?_
    first
     | (rw [if_pos h16]; exact ⟨rfl, sE.rf⟩)
     | (rw [if_neg h16]; exact ⟨rfl, sE.rf⟩)
  · have h16 := hin.mp (it1.mp h16)
    have ec := (nI_nat h16.1).symm
    refine st_aload_n hc dX12_hand_19 rfl rfl ?_
    refine st_getr hc dX12_hand_20 flX12_23 rfl rfl ?_
    refine st_iload_n hc dX12_hand_23 rfl rfl ?_
    refine st_ialdN (k := nat i) hc dX12_hand_24 rfl (ec) (by omega) (by decide) rfl ?_
    refine st_goto (tgt := 34) hc dX12_hand_25 (by decide) ?_
    refine st_iret (st := []) hc dX12_hand_34 rfl ?_
    first
     | (rw [if_pos h16]; exact ⟨rfl, sE.rf⟩)
     | (rw [if_neg h16]; exact ⟨rfl, sE.rf⟩)
def sp_peg (σ : St) (i x : Int32) : Int32 × St := if ¬ (0 ≤ i ∧ nat i < pN σ) then (-13, fnd σ) else if ¬ (-1 ≤ x ∧ x ≤ σ 0 1 - 1) then (-16, t0 σ) else (σ 2 (nat i), up (t0 σ) 2 (nat i) x)
theorem C12_peg (σ : St) (hm : MI σ) (i x : Int32) : Mt YM mX12_peg 9 [.ref 0, .int i, .int x] σ (fun r τ => r = some (.int (sp_peg σ i x).1) ∧ sE (sp_peg σ i x).2 τ) := by
  obtain ⟨hm, ht⟩ := hm
  obtain ⟨⟨hP, hC, hP1, hP5, hC1, hC8⟩, h2, h3, h4, hT, hT2, hLi, hL2, hls⟩ := id hm
  refine Mt.ofA [some (.ref 0), some (.int i), some (.int x), none] (by decide) (fun _ => Nat.le_of_ble_eq_true rfl) (fun _ => rfl) (fun g hc => ?_)
  unfold sp_peg
  have hin := in_n (x := i) (n := pN σ) (by omega)
  rw [← hP] at hin
  refine st_aload_n hc dX12_peg_0 rfl rfl ?_
  refine st_iconst (v := 0) hc dX12_peg_1 (by decide) ?_
  refine st_put hc dX12_peg_2 fpX12_139 rfl rfl  ?_
  refine st_iload_n hc dX12_peg_5 rfl rfl ?_
  refine st_iconst (v := 0) hc dX12_peg_6 (by decide) ?_
  refine st_aload_n hc dX12_peg_7 rfl rfl ?_
  refine st_getE hc dX12_peg_8 flX12_7 rfl rfl rfl ?_
  refine st_iconst (v := 1) hc dX12_peg_11 (by decide) ?_
  refine st_isub hc dX12_peg_12 ?_
  refine st_callSp hc dX12_peg_13 (C12_in 0 _ i 0 (σ 0 0 - 1)) msX12_142 (by omega) rfl rfl (Nat.le_of_ble_eq_true rfl) ?_
  refine st_if_ne (tgt := 26) hc dX12_peg_16 (by decide) (fun h16 => ?_) (fun h16 => ?_)
  · have h16 := hin.mp (it1.mp h16)
    have ec := (nI_nat h16.1).symm
    refine st_iload_n hc dX12_peg_26 rfl rfl ?_
    refine st_iconst (v := (-1)) hc dX12_peg_27 (by decide) ?_
    refine st_aload_n hc dX12_peg_28 rfl rfl ?_
    refine st_getE hc dX12_peg_29 flX12_13 rfl rfl rfl ?_
    refine st_iconst (v := 1) hc dX12_peg_32 (by decide) ?_
    refine st_isub hc dX12_peg_33 ?_
    refine st_callSp hc dX12_peg_34 (C12_in 0 _ x (-1) (σ 0 1 - 1)) msX12_142 (by omega) rfl rfl (Nat.le_of_ble_eq_true rfl) ?_
    refine st_if_ne (tgt := 43) hc dX12_peg_37 (by decide) (fun h37 => ?_) (fun h37 => ?_)
    · have h37 : -1 ≤ x ∧ x ≤ σ 0 1 - 1 := it1.mp h37
      refine st_aload_n hc dX12_peg_43 rfl rfl ?_
      refine st_getr hc dX12_peg_44 flX12_23 rfl rfl ?_
      refine st_iload_n hc dX12_peg_47 rfl rfl ?_
      refine st_ialdN (k := nat i) hc dX12_peg_48 rfl (ec) (by omega) (by decide) rfl ?_
      refine st_istore_n hc dX12_peg_49 rfl (by decide) rfl ?_
      refine st_aload_n hc dX12_peg_50 rfl rfl ?_
      refine st_getr hc dX12_peg_51 flX12_23 rfl rfl ?_
      refine st_iload_n hc dX12_peg_54 rfl rfl ?_
      refine st_iload_n hc dX12_peg_55 rfl rfl ?_
      refine st_iastN (k := nat i) hc dX12_peg_56 rfl (ec) (by omega) (by decide)  ?_
      refine st_iload_n hc dX12_peg_57 rfl rfl ?_
      refine st_iret (st := []) hc dX12_peg_58 rfl ?_
      rw [if_neg (fun q => q h16), if_neg (fun q => q h37)]; exact ⟨rfl, sE.rf⟩
    · have h37 : ¬ (-1 ≤ x ∧ x ≤ σ 0 1 - 1) := it0.mp h37
      refine st_bipush (v := (-16)) hc dX12_peg_40 (by decide) ?_
      refine st_iret (st := []) hc dX12_peg_42 rfl ?_
      rw [if_neg (fun q => q h16), if_pos h37]; exact ⟨rfl, sE.rf⟩
  · have h16 := fun q => it0.mp h16 (hin.mpr q)
    refine st_aload_n hc dX12_peg_19 rfl rfl ?_
    refine st_bipush (v := (-13)) hc dX12_peg_20 (by decide) ?_
    refine st_callVq hc dX12_peg_22 (C12_found 0 (t0 σ) (-13)) mvX12_202 (by omega) rfl rfl rfl (Nat.le_of_ble_eq_true rfl) ?_
    rintro _ rfl
    refine st_iret (st := []) hc dX12_peg_25 rfl ?_
    rw [if_pos h16]; exact ⟨rfl, sE.rf⟩
def sp_answer (σ : St) (a b : Int32) : Int32 × St := if (0 ≤ a ∧ nat a < nN σ) ∧ (0 ≤ b ∧ nat b < nN σ) then (nI (ans (pN σ) (cN σ) (fun i => nI (pegOf (pN σ) (cN σ) (nat a) i)) (nat b)), t0 σ) else (-1, t0 σ)
theorem C12_answer (σ : St) (hm : MI σ) (a b : Int32) : Mt YM mX12_answer 9 [.ref 0, .int a, .int b] σ (fun r τ => r = some (.int (sp_answer σ a b).1) ∧ sE (sp_answer σ a b).2 τ) := by
  obtain ⟨hm, ht⟩ := hm
  obtain ⟨hpc, h2, h3, h4, hT, hT2, hLi, hL2, hls⟩ := id hm
  refine Mt.ofA [some (.ref 0), some (.int a), some (.int b)] (by decide) (fun _ => Nat.le_of_ble_eq_true rfl) (fun _ => rfl) (fun g hc => ?_)
  unfold sp_answer
  have hia := in_n (x := a) (n := nN σ) (by omega)
  have hib := in_n (x := b) (n := nN σ) (by omega)
  rw [← h2] at hia hib
  have hpc' : mPC (t0 σ) (pN σ) (cN σ) := hpc
  refine st_aload_n hc dX12_answer_0 rfl rfl ?_
  refine st_iconst (v := 0) hc dX12_answer_1 (by decide) ?_
  refine st_put hc dX12_answer_2 fpX12_139 rfl rfl  ?_
  refine st_aload_n hc dX12_answer_5 rfl rfl ?_
  refine st_iload_n hc dX12_answer_6 rfl rfl ?_
  refine st_callVp hc dX12_answer_7 (C12_isCode 0 (t0 σ) a) mvX12_199 (by omega) rfl rfl rfl (Nat.le_of_ble_eq_true rfl) ?_
  refine st_if_eq (tgt := 21) hc dX12_answer_10 (by decide) (fun h10 => ?_) (fun h10 => ?_)
  · have h10 := fun q => it0.mp h10 (hia.mpr q)
    refine st_iconst (v := (-1)) hc dX12_answer_21 (by decide) ?_
    refine st_iret (st := []) hc dX12_answer_22 rfl ?_
    first
     | (rw [if_neg (fun q => h10 q.1)]; exact ⟨rfl, sE.rf⟩)
     | (rw [if_neg (fun q => h18 q.2)]; exact ⟨rfl, sE.rf⟩)
  · have h10 := hia.mp (it1.mp h10)
    refine st_aload_n hc dX12_answer_13 rfl rfl ?_
    refine st_iload_n hc dX12_answer_14 rfl rfl ?_
    refine st_callVp hc dX12_answer_15 (C12_isCode 0 (t0 σ) b) mvX12_199 (by omega) rfl rfl rfl (Nat.le_of_ble_eq_true rfl) ?_
    refine st_if_ne (tgt := 23) hc dX12_answer_18 (by decide) (fun h18 => ?_) (fun h18 => ?_)
    · have h18 := hib.mp (it1.mp h18)
      have ea := (nI_nat h10.1).symm
      have eb := (nI_nat h18.1).symm
      rw [ea, eb]
      refine st_aload_n hc dX12_answer_23 rfl rfl ?_
      refine st_iload_n hc dX12_answer_24 rfl rfl ?_
      refine st_callVn hc dX12_answer_25 (C12_guessCode 3 (t0 σ) hpc' (nat a) (by omega)) mvX12_214 (by omega) rfl rfl rfl (Nat.le_of_ble_eq_true rfl) ?_
      rintro _ ⟨w, hw, rfl⟩
      refine st_aload_n hc dX12_answer_28 rfl rfl ?_
      refine st_iload_n hc dX12_answer_29 rfl rfl ?_
      refine st_callVp hc dX12_answer_30 (C12_answers 3 _ (hpc'.up (by decide) w) (nat b) (by omega)) mvX12_160 (by omega) rfl rfl rfl (Nat.le_of_ble_eq_true rfl) ?_
      refine st_iret (st := []) hc dX12_answer_33 rfl ?_
      rw [← ea, ← eb, if_pos ⟨h10, h18⟩, vu_s, ans_congr hw]
      exact ⟨rfl, sE.rf.v rfl (by decide) w⟩
    · have h18 := fun q => it0.mp h18 (hib.mpr q)
      refine st_iconst (v := (-1)) hc dX12_answer_21 (by decide) ?_
      refine st_iret (st := []) hc dX12_answer_22 rfl ?_
      first
       | (rw [if_neg (fun q => h10 q.1)]; exact ⟨rfl, sE.rf⟩)
       | (rw [if_neg (fun q => h18 q.2)]; exact ⟨rfl, sE.rf⟩)
def sp_reply (σ : St) (b : Int32) : Int32 × St := if 0 ≤ b ∧ nat b < nN σ then (nI (ans (pN σ) (cN σ) (σ 2) (nat b)), t0 σ) else (-1, t0 σ)
theorem C12_reply (σ : St) (hm : MI σ) (b : Int32) : Mt YM mX12_reply 9 [.ref 0, .int b] σ (fun r τ => r = some (.int (sp_reply σ b).1) ∧ sE (sp_reply σ b).2 τ) := by
  obtain ⟨hm, ht⟩ := hm
  obtain ⟨hpc, h2, h3, h4, hT, hT2, hLi, hL2, hls⟩ := id hm
  refine Mt.ofA [some (.ref 0), some (.int b)] (by decide) (fun _ => Nat.le_of_ble_eq_true rfl) (fun _ => rfl) (fun g hc => ?_)
  unfold sp_reply
  have hib := in_n (x := b) (n := nN σ) (by omega)
  rw [← h2] at hib
  have hpc' : mPC (t0 σ) (pN σ) (cN σ) := hpc
  refine st_aload_n hc dX12_reply_0 rfl rfl ?_
  refine st_iconst (v := 0) hc dX12_reply_1 (by decide) ?_
  refine st_put hc dX12_reply_2 fpX12_139 rfl rfl  ?_
  refine st_aload_n hc dX12_reply_5 rfl rfl ?_
  refine st_iload_n hc dX12_reply_6 rfl rfl ?_
  refine st_callVp hc dX12_reply_7 (C12_isCode 0 (t0 σ) b) mvX12_199 (by omega) rfl rfl rfl (Nat.le_of_ble_eq_true rfl) ?_
  refine st_if_ne (tgt := 15) hc dX12_reply_10 (by decide) (fun h10 => ?_) (fun h10 => ?_)
  · have h10 := hib.mp (it1.mp h10)
    have eb := (nI_nat h10.1).symm
    rw [eb]
    refine st_aload_n hc dX12_reply_15 rfl rfl ?_
    refine st_callVn hc dX12_reply_16 (C12_guessHand 3 (t0 σ) hpc') mvX12_211 (by omega) rfl rfl rfl (Nat.le_of_ble_eq_true rfl) ?_
    rintro _ ⟨w, hw, rfl⟩
    refine st_aload_n hc dX12_reply_19 rfl rfl ?_
    refine st_iload_n hc dX12_reply_20 rfl rfl ?_
    refine st_callVp hc dX12_reply_21 (C12_answers 3 _ (hpc'.up (by decide) w) (nat b) (by omega)) mvX12_160 (by omega) rfl rfl rfl (Nat.le_of_ble_eq_true rfl) ?_
    refine st_iret (st := []) hc dX12_reply_24 rfl ?_
    rw [← eb, if_pos h10, vu_s, ans_congr hw]
    exact ⟨rfl, sE.rf.v rfl (by decide) w⟩
  · have h10 := fun q => it0.mp h10 (hib.mpr q)
    refine st_iconst (v := (-1)) hc dX12_reply_13 (by decide) ?_
    refine st_iret (st := []) hc dX12_reply_14 rfl ?_
    rw [if_neg h10]; exact ⟨rfl, sE.rf⟩
def sp_undo (σ : St) : Int32 × St := if σ 0 9 = 0 then (-1, t0 σ) else (σ 0 9 - 1, up (t0 σ) 0 9 (σ 0 9 - 1))
theorem C12_undo (σ : St) : Mt YM mX12_undo 9 [.ref 0] σ (fun r τ => r = some (.int (sp_undo σ).1) ∧ sE (sp_undo σ).2 τ) := by
  refine Mt.ofA [some (.ref 0)] (by decide) (fun _ => Nat.le_of_ble_eq_true rfl) (fun _ => rfl) (fun g hc => ?_)
  unfold sp_undo
  refine st_aload_n hc dX12_undo_0 rfl rfl ?_
  refine st_iconst (v := 0) hc dX12_undo_1 (by decide) ?_
  refine st_put hc dX12_undo_2 fpX12_139 rfl rfl  ?_
  refine st_aload_n hc dX12_undo_5 rfl rfl ?_
  refine st_getE hc dX12_undo_6 flX12_171 rfl rfl rfl ?_
  refine st_if_ne (tgt := 14) hc dX12_undo_9 (by decide) (fun h9 => ?_) (fun h9 => ?_)
  · have h9 : ¬ σ 0 9 = 0 := h9
    refine st_aload_n hc dX12_undo_14 rfl rfl ?_
    refine st_dup hc dX12_undo_15 rfl ?_
    refine st_getE hc dX12_undo_16 flX12_171 rfl rfl rfl ?_
    refine st_iconst (v := 1) hc dX12_undo_19 (by decide) ?_
    refine st_isub hc dX12_undo_20 ?_
    refine st_put hc dX12_undo_21 fpX12_171 rfl rfl  ?_
    refine st_aload_n hc dX12_undo_24 rfl rfl ?_
    refine st_getE hc dX12_undo_25 flX12_171 rfl rfl rfl ?_
    refine st_iret (st := []) hc dX12_undo_28 rfl ?_
    rw [if_neg h9]; exact ⟨rfl, sE.rf⟩
  · have h9 : σ 0 9 = 0 := h9
    refine st_iconst (v := (-1)) hc dX12_undo_12 (by decide) ?_
    refine st_iret (st := []) hc dX12_undo_13 rfl ?_
    rw [if_pos h9]; exact ⟨rfl, sE.rf⟩
/-- quarrelMany: -1, or how many -/
def qOK (σ : St) : Prop := σ 0 13 = -1 ∨ (0 ≤ σ 0 13 ∧ nat (σ 0 13) ≤ 10)
def sp_quarrel (σ : St) (i : Int32) : Int32 × St := (if σ 0 13 < 0 then -1 else if i = -1 then σ 0 13 else if 0 ≤ i ∧ nat i < nat (σ 0 13) then σ 5 (nat i) else -1, t0 σ)
theorem C12_quarrel (σ : St) (hq : qOK σ) (i : Int32) : Mt YM mX12_quarrel 9 [.ref 0, .int i] σ (fun r τ => r = some (.int (sp_quarrel σ i).1) ∧ sE (sp_quarrel σ i).2 τ) := by
  refine Mt.ofA [some (.ref 0), some (.int i)] (by decide) (fun _ => Nat.le_of_ble_eq_true rfl) (fun _ => rfl) (fun g hc => ?_)
  unfold sp_quarrel
  refine st_aload_n hc dX12_quarrel_0 rfl rfl ?_
  refine st_iconst (v := 0) hc dX12_quarrel_1 (by decide) ?_
  refine st_put hc dX12_quarrel_2 fpX12_139 rfl rfl  ?_
  refine st_aload_n hc dX12_quarrel_5 rfl rfl ?_
  refine st_getE hc dX12_quarrel_6 flX12_36 rfl rfl rfl ?_
  refine st_if_ge (tgt := 14) hc dX12_quarrel_9 (by decide) (fun h9 => ?_) (fun h9 => ?_)
  · have h9 : ¬ σ 0 13 < 0 := Int32.not_lt.mpr h9
    have hq : nat (σ 0 13) ≤ 10 := by rcases hq with q | q; rw [q] at h9; exact absurd (by decide) h9; exact q.2
    have e13 := (nI_nat (Int32.not_lt.mp h9)).symm
    have hin := in_n (x := i) (n := nat (σ 0 13)) (by omega)
    rw [← e13] at hin
    refine st_iload_n hc dX12_quarrel_14 rfl rfl ?_
    refine st_iconst (v := (-1)) hc dX12_quarrel_15 (by decide) ?_
    refine st_icmp_ne (tgt := 26) hc dX12_quarrel_16 (by decide) (fun h16 => ?_) (fun h16 => ?_)
    · refine st_iload_n hc dX12_quarrel_26 rfl rfl ?_
      refine st_iconst (v := 0) hc dX12_quarrel_27 (by decide) ?_
      refine st_aload_n hc dX12_quarrel_28 rfl rfl ?_
      refine st_getE hc dX12_quarrel_29 flX12_36 rfl rfl rfl ?_
      refine st_iconst (v := 1) hc dX12_quarrel_32 (by decide) ?_
      refine st_isub hc dX12_quarrel_33 ?_
      refine st_callSp hc dX12_quarrel_34 (C12_in 0 _ i 0 (σ 0 13 - 1)) msX12_142 (by omega) rfl rfl (Nat.le_of_ble_eq_true rfl) ?_
      refine st_if_eq (tgt := 49) hc dX12_quarrel_37 (by decide) (fun h37 => ?_) (fun h37 => ?_)
      · have h37 := fun q => it0.mp h37 (hin.mpr q)
        refine st_iconst (v := (-1)) hc dX12_quarrel_49 (by decide) ?_
        refine st_iret (st := []) hc dX12_quarrel_50 rfl ?_
        first
         | (refine ⟨?_, sE.rf⟩; rw [if_neg h9, if_pos h16]; rfl)
         | (refine ⟨?_, sE.rf⟩; rw [if_neg h9, if_neg h16, if_pos h37]; rfl)
         | (refine ⟨?_, sE.rf⟩; rw [if_neg h9, if_neg h16, if_neg h37])
      · have h37 := hin.mp (it1.mp h37)
        have ec := (nI_nat h37.1).symm
        refine st_aload_n hc dX12_quarrel_40 rfl rfl ?_
        refine st_getr hc dX12_quarrel_41 flX12_33 rfl rfl ?_
        refine st_iload_n hc dX12_quarrel_44 rfl rfl ?_
        refine st_ialdN (k := nat i) hc dX12_quarrel_45 rfl (ec) (by omega) (by decide) rfl ?_
        refine st_goto (tgt := 50) hc dX12_quarrel_46 (by decide) ?_
        refine st_iret (st := []) hc dX12_quarrel_50 rfl ?_
        first
         | (refine ⟨?_, sE.rf⟩; rw [if_neg h9, if_pos h16]; rfl)
         | (refine ⟨?_, sE.rf⟩; rw [if_neg h9, if_neg h16, if_pos h37]; rfl)
         | (refine ⟨?_, sE.rf⟩; rw [if_neg h9, if_neg h16, if_neg h37])
    · refine st_aload_n hc dX12_quarrel_19 rfl rfl ?_
      refine st_getE hc dX12_quarrel_20 flX12_36 rfl rfl rfl ?_
      refine st_goto (tgt := 50) hc dX12_quarrel_23 (by decide) ?_
      refine st_iret (st := []) hc dX12_quarrel_50 rfl ?_
      first
       | (refine ⟨?_, sE.rf⟩; rw [if_neg h9, if_pos h16]; rfl)
       | (refine ⟨?_, sE.rf⟩; rw [if_neg h9, if_neg h16, if_pos h37]; rfl)
       | (refine ⟨?_, sE.rf⟩; rw [if_neg h9, if_neg h16, if_neg h37])
  · have h9 : σ 0 13 < 0 := Int32.not_le.mp h9
    refine st_iconst (v := (-1)) hc dX12_quarrel_12 (by decide) ?_
    refine st_iret (st := []) hc dX12_quarrel_13 rfl ?_
    exact ⟨by simp [h9], sE.rf⟩
def sp_falses (σ : St) (b : Int32) : Int32 × St := if 0 ≤ b ∧ nat b < nN σ then (nI (ones (fbits (tN σ) (isF (pN σ) (cN σ) (σ 3) (σ 4) (nat b)))), t0 σ) else (-1, t0 σ)
theorem C12_falses (σ : St) (hm : MI σ) (b : Int32) : Mt YM mX12_falses 9 [.ref 0, .int b] σ (fun r τ => r = some (.int (sp_falses σ b).1) ∧ sE (sp_falses σ b).2 τ) := by
  obtain ⟨hm, ht⟩ := hm
  obtain ⟨hpc, h2, h3, h4, hT, hT2, hLi, hL2, hls⟩ := id hm
  refine Mt.ofA [some (.ref 0), some (.int b)] (by decide) (fun _ => Nat.le_of_ble_eq_true rfl) (fun _ => rfl) (fun g hc => ?_)
  unfold sp_falses
  have hib := in_n (x := b) (n := nN σ) (by omega)
  rw [← h2] at hib
  have hpc' : mPC (t0 σ) (pN σ) (cN σ) := hpc
  refine st_aload_n hc dX12_falses_0 rfl rfl ?_
  refine st_iconst (v := 0) hc dX12_falses_1 (by decide) ?_
  refine st_put hc dX12_falses_2 fpX12_139 rfl rfl  ?_
  refine st_aload_n hc dX12_falses_5 rfl rfl ?_
  refine st_iload_n hc dX12_falses_6 rfl rfl ?_
  refine st_callVp hc dX12_falses_7 (C12_isCode 0 (t0 σ) b) mvX12_199 (by omega) rfl rfl rfl (Nat.le_of_ble_eq_true rfl) ?_
  refine st_if_eq (tgt := 28) hc dX12_falses_10 (by decide) (fun h10 => ?_) (fun h10 => ?_)
  · have h10 := fun q => it0.mp h10 (hib.mpr q)
    refine st_iconst (v := (-1)) hc dX12_falses_28 (by decide) ?_
    refine st_iret (st := []) hc dX12_falses_29 rfl ?_
    first
     | (rw [if_neg h10]; exact ⟨rfl, sE.rf⟩)
     | (rw [← eb, if_pos h10]; exact ⟨rfl, sE.rf.v rfl (by decide) w⟩)
  · have h10 := hib.mp (it1.mp h10)
    have eb := (nI_nat h10.1).symm
    rw [eb]
    refine st_aload_n hc dX12_falses_13 rfl rfl ?_
    refine st_iload_n hc dX12_falses_14 rfl rfl ?_
    refine st_aload_n hc dX12_falses_15 rfl rfl ?_
    refine st_getE hc dX12_falses_16 flX12_171 rfl rfl (hT) ?_
    refine st_callVq hc dX12_falses_19 (C12_falseOf 3 (t0 σ) hpc' (nat b) (by omega) (tN σ) hT2) mvX12_174 (by omega) rfl rfl rfl (Nat.le_of_ble_eq_true rfl) ?_
    rintro _ ⟨w, rfl⟩
    refine st_callSp hc dX12_falses_22 (C12_ones 3 _ _ (fbits_lt31 (by omega) _)) msX12_177 (by omega) rfl rfl (Nat.le_of_ble_eq_true rfl) ?_
    refine st_goto (tgt := 29) hc dX12_falses_25 (by decide) ?_
    refine st_iret (st := []) hc dX12_falses_29 rfl ?_
    first
     | (rw [if_neg h10]; exact ⟨rfl, sE.rf⟩)
     | (rw [← eb, if_pos h10]; exact ⟨rfl, sE.rf.v rfl (by decide) w⟩)
def sp_left (σ : St) (i : Int32) : Int32 × St := if 0 ≤ i ∧ nat i < lm σ then (nI (nthT (nN σ) (mLs σ) (nat i)), t0 σ) else (-1, t0 σ)
theorem C12_left (σ : St) (hm : MI σ) (i : Int32) : Mt YM mX12_left 9 [.ref 0, .int i] σ (fun r τ => r = some (.int (sp_left σ i).1) ∧ sE (sp_left σ i).2 τ) := by
  obtain ⟨hm, ht⟩ := hm
  obtain ⟨hpc, h2, h3, h4, hT, hT2, hLi, hL2, hls⟩ := id hm
  refine Mt.ofA [some (.ref 0), some (.int i)] (by decide) (fun _ => Nat.le_of_ble_eq_true rfl) (fun _ => rfl) (fun g hc => ?_)
  unfold sp_left
  have hlm : lm σ ≤ 4096 := Nat.le_trans (cnt_le _ _) h4
  have hin := in_n (x := i) (n := lm σ) (by omega)
  have hm' : mOK (t0 σ) (pN σ) (cN σ) (nN σ) (tN σ) (liN σ) := hm
  refine st_aload_n hc dX12_left_0 rfl rfl ?_
  refine st_iconst (v := 0) hc dX12_left_1 (by decide) ?_
  refine st_put hc dX12_left_2 fpX12_139 rfl rfl  ?_
  refine st_aload_n hc dX12_left_5 rfl rfl ?_
  refine st_callVn hc dX12_left_6 (C12_look 3 (t0 σ) hm') mvX12_208 (by omega) rfl rfl rfl (Nat.le_of_ble_eq_true rfl) ?_
  rintro _ ⟨F, w, hF, rfl⟩
  refine st_iload_n hc dX12_left_9 rfl rfl ?_
  refine st_iconst (v := 0) hc dX12_left_10 (by decide) ?_
  refine st_aload_n hc dX12_left_11 rfl rfl ?_
  refine st_getE hc dX12_left_12 flX12_164 rfl rfl (show _ = nI (lm σ) from rfl) ?_
  refine st_iconst (v := 1) hc dX12_left_15 (by decide) ?_
  refine st_isub hc dX12_left_16 ?_
  refine st_callSp hc dX12_left_17 (C12_in 0 _ i 0 (nI (lm σ) - 1)) msX12_142 (by omega) rfl rfl (Nat.le_of_ble_eq_true rfl) ?_
  refine st_if_eq (tgt := 32) hc dX12_left_20 (by decide) (fun h20 => ?_) (fun h20 => ?_)
  · have h20 := fun q => it0.mp h20 (hin.mpr q)
    refine st_iconst (v := (-1)) hc dX12_left_32 (by decide) ?_
    refine st_iret (st := []) hc dX12_left_33 rfl ?_
    first
     | (rw [if_neg h20]; exact ⟨rfl, sE.lk _ _ _ _⟩)
     | (rw [if_pos h20]; exact ⟨rfl, sE.lk _ _ _ _⟩)
  · have h20 := hin.mp (it1.mp h20)
    have ec := (nI_nat h20.1).symm
    refine st_aload_n hc dX12_left_23 rfl rfl ?_
    refine st_getr hc dX12_left_24 flX12_42 rfl rfl ?_
    refine st_iload_n hc dX12_left_27 rfl rfl ?_
    refine st_ialdN (k := nat i) hc dX12_left_28 rfl (ec) (by omega) (by decide) (nthT_at hF h20.2) ?_
    refine st_goto (tgt := 33) hc dX12_left_29 (by decide) ?_
    refine st_iret (st := []) hc dX12_left_33 rfl ?_
    first
     | (rw [if_neg h20]; exact ⟨rfl, sE.lk _ _ _ _⟩)
     | (rw [if_pos h20]; exact ⟨rfl, sE.lk _ _ _ _⟩)

