/-! ===== the reference: rows of pegs, answers, false turns ===== -/
/-- places and colours of the reference -/
def mPC (σ : St) (P C : Nat) : Prop := σ 0 0 = nI P ∧ σ 0 1 = nI C ∧ 1 ≤ P ∧ P ≤ 5 ∧ 1 ≤ C ∧ C ≤ 8
theorem mPC.up {σ : St} {P C k : Nat} (h : mPC σ P C) (hk : k ≠ 0) (w : Nat → Int32) : mPC (va_up σ k w) P C := by
  unfold mPC va_up
  rw [if_neg (fun q => hk q.symm)]
  exact h
theorem lp_guessCode {g : Gx} {d : Nat} {σ : St} {Q : Option Value → St → Prop} {P C code : Nat} (hc : cX g YM RX12 cX12_guessCode 3 none (d + 1)) (hm : mPC σ P C) (hcode : code < 2 ^ 30) (hQ : ∀ w : Nat → Int32, (∀ i, i < P → w i = nI (pegOf P C code i)) → Q none (va_up σ 6 w)) : ∀ (n i : Nat) (w : Nat → Int32), i + n = P → (∀ j, j < i → w j = nI (pegOf P C code j)) → aW g YM 3 Q 2 [some (.ref 0), some (.int (nI code)), some (.int (nI i))] [] (va_up σ 6 w) := by
  intro n
  induction n with
  | zero =>
    intro i w hi hw
    obtain ⟨h1, h2, h3, h4, h5, h6⟩ := id hm
    refine st_iload_n hc dX12_guessCode_2 rfl rfl ?_
    refine st_aload_n hc dX12_guessCode_3 rfl rfl ?_
    refine st_getE hc dX12_guessCode_4 flX12_7 rfl rfl (h1) ?_
    refine st_icmp_ge (tgt := 28) hc dX12_guessCode_7 (by decide) (fun h7 => ?_) (fun h7 => ?_)
    · refine st_vret (st := []) hc dX12_guessCode_28 rfl ?_
      exact hQ w (fun j hj => hw j (by omega))
    · exact absurd (nI_le (by omega) (by omega)) h7
  | succ n ih =>
    intro i w hi hw
    obtain ⟨h1, h2, h3, h4, h5, h6⟩ := id hm
    refine st_iload_n hc dX12_guessCode_2 rfl rfl ?_
    refine st_aload_n hc dX12_guessCode_3 rfl rfl ?_
    refine st_getE hc dX12_guessCode_4 flX12_7 rfl rfl (h1) ?_
    refine st_icmp_ge (tgt := 28) hc dX12_guessCode_7 (by decide) (fun h7 => ?_) (fun h7 => ?_)
    · exact absurd h7 (nI_ge (by omega) (by omega))
    · refine st_aload_n hc dX12_guessCode_10 rfl rfl ?_
      refine st_getr hc dX12_guessCode_11 flX12_39 rfl rfl ?_
      refine st_iload_n hc dX12_guessCode_14 rfl rfl ?_
      refine st_aload_n hc dX12_guessCode_15 rfl rfl ?_
      refine st_iload_n hc dX12_guessCode_16 rfl rfl ?_
      refine st_iload_n hc dX12_guessCode_17 rfl rfl ?_
      refine st_callVp hc dX12_guessCode_18 (C12_peg0 d (va_up σ 6 w) h1 h2 h4 h5 h6 code i (by omega) hcode) mvX12_146 (by omega) rfl rfl rfl (Nat.le_of_ble_eq_true rfl) ?_
      refine st_iastN (k := i) hc dX12_guessCode_21 rfl (rfl) (by omega) (by decide)  ?_
      rw [vu_up]
      refine st_inc hc dX12_guessCode_22 rfl (by decide) rfl ?_
      rw [nI_1]
      refine st_goto (tgt := 2) hc dX12_guessCode_25 (by decide) ?_
      refine ih (i + 1) _ (by omega) (fun j hj => ?_)
      by_cases e : j = i
      · subst e; exact upd_s
      · rw [upd_n e]; exact hw j (by omega)
theorem C12_guessCode (d : Nat) (σ : St) {P C : Nat} (hm : mPC σ P C) (code : Nat) (hcode : code < 2 ^ 30) : Mt YM mX12_guessCode (d + 1) [.ref 0, .int (nI code)] σ (fun r τ => r = none ∧ ∃ w : Nat → Int32, (∀ i, i < P → w i = nI (pegOf P C code i)) ∧ τ = va_up σ 6 w) := by
  refine Mt.ofA [some (.ref 0), some (.int (nI code)), none] (by decide) (fun _ => Nat.le_of_ble_eq_true rfl) (fun _ => rfl) (fun g hc => ?_)
  refine st_iconst (v := 0) hc dX12_guessCode_0 (by decide) ?_
  refine st_istore_n hc dX12_guessCode_1 rfl (by decide) rfl ?_
  have h := lp_guessCode (Q := fun r τ => r = none ∧ ∃ w : Nat → Int32, (∀ i, i < P → w i = nI (pegOf P C code i)) ∧ τ = va_up σ 6 w) hc hm hcode (fun w hw => ⟨rfl, w, hw, rfl⟩) P 0 (σ 6) (by omega) (fun j hj => absurd hj (Nat.not_lt_zero j))
  rw [vu_id] at h
  exact h
theorem lp_guessHand {g : Gx} {d : Nat} {σ : St} {Q : Option Value → St → Prop} {P C : Nat} (hc : cX g YM RX12 cX12_guessHand 2 none d) (hm : mPC σ P C) (hQ : ∀ w : Nat → Int32, (∀ i, i < P → w i = σ 2 i) → Q none (va_up σ 6 w)) : ∀ (n i : Nat) (w : Nat → Int32), i + n = P → (∀ j, j < i → w j = σ 2 j) → aW g YM 2 Q 2 [some (.ref 0), some (.int (nI i))] [] (va_up σ 6 w) := by
  intro n
  induction n with
  | zero =>
    intro i w hi hw
    obtain ⟨h1, h2, h3, h4, h5, h6⟩ := id hm
    refine st_iload_n hc dX12_guessHand_2 rfl rfl ?_
    refine st_aload_n hc dX12_guessHand_3 rfl rfl ?_
    refine st_getE hc dX12_guessHand_4 flX12_7 rfl rfl (h1) ?_
    refine st_icmp_ge (tgt := 28) hc dX12_guessHand_7 (by decide) (fun h7 => ?_) (fun h7 => ?_)
    · refine st_vret (st := []) hc dX12_guessHand_28 rfl ?_
      exact hQ w (fun j hj => hw j (by omega))
    · exact absurd (nI_le (by omega) (by omega)) h7
  | succ n ih =>
    intro i w hi hw
    obtain ⟨h1, h2, h3, h4, h5, h6⟩ := id hm
    refine st_iload_n hc dX12_guessHand_2 rfl rfl ?_
    refine st_aload_n hc dX12_guessHand_3 rfl rfl ?_
    refine st_getE hc dX12_guessHand_4 flX12_7 rfl rfl (h1) ?_
    refine st_icmp_ge (tgt := 28) hc dX12_guessHand_7 (by decide) (fun h7 => ?_) (fun h7 => ?_)
    · exact absurd h7 (nI_ge (by omega) (by omega))
    · refine st_aload_n hc dX12_guessHand_10 rfl rfl ?_
      refine st_getr hc dX12_guessHand_11 flX12_39 rfl rfl ?_
      refine st_iload_n hc dX12_guessHand_14 rfl rfl ?_
      refine st_aload_n hc dX12_guessHand_15 rfl rfl ?_
      refine st_getr hc dX12_guessHand_16 flX12_23 rfl rfl ?_
      refine st_iload_n hc dX12_guessHand_19 rfl rfl ?_
      refine st_ialdN (k := i) hc dX12_guessHand_20 rfl (rfl) (by omega) (by decide) rfl ?_
      refine st_iastN (k := i) hc dX12_guessHand_21 rfl (rfl) (by omega) (by decide)  ?_
      rw [vu_up]
      refine st_inc hc dX12_guessHand_22 rfl (by decide) rfl ?_
      rw [nI_1]
      refine st_goto (tgt := 2) hc dX12_guessHand_25 (by decide) ?_
      refine ih (i + 1) _ (by omega) (fun j hj => ?_)
      by_cases e : j = i
      · subst e; exact upd_s
      · rw [upd_n e]; exact hw j (by omega)
theorem C12_guessHand (d : Nat) (σ : St) {P C : Nat} (hm : mPC σ P C) : Mt YM mX12_guessHand d [.ref 0] σ (fun r τ => r = none ∧ ∃ w : Nat → Int32, (∀ i, i < P → w i = σ 2 i) ∧ τ = va_up σ 6 w) := by
  refine Mt.ofA [some (.ref 0), none] (by decide) (fun _ => Nat.le_of_ble_eq_true rfl) (fun _ => rfl) (fun g hc => ?_)
  refine st_iconst (v := 0) hc dX12_guessHand_0 (by decide) ?_
  refine st_istore_n hc dX12_guessHand_1 rfl (by decide) rfl ?_
  have h := lp_guessHand (Q := fun r τ => r = none ∧ ∃ w : Nat → Int32, (∀ i, i < P → w i = σ 2 i) ∧ τ = va_up σ 6 w) hc hm (fun w hw => ⟨rfl, w, hw, rfl⟩) P 0 (σ 6) (by omega) (fun j hj => absurd hj (Nat.not_lt_zero j))
  rw [vu_id] at h
  exact h
theorem lp_guessTurn {g : Gx} {d : Nat} {σ : St} {Q : Option Value → St → Prop} {P C t : Nat} (hc : cX g YM RX12 cX12_guessTurn 3 none d) (hm : mPC σ P C) (ht : t < 11) (hQ : ∀ w : Nat → Int32, (∀ i, i < P → w i = σ 3 (5 * t + i)) → Q none (va_up σ 6 w)) : ∀ (n i : Nat) (w : Nat → Int32), i + n = P → (∀ j, j < i → w j = σ 3 (5 * t + j)) → aW g YM 3 Q 2 [some (.ref 0), some (.int (nI t)), some (.int (nI i))] [] (va_up σ 6 w) := by
  intro n
  induction n with
  | zero =>
    intro i w hi hw
    obtain ⟨h1, h2, h3, h4, h5, h6⟩ := id hm
    refine st_iload_n hc dX12_guessTurn_2 rfl rfl ?_
    refine st_aload_n hc dX12_guessTurn_3 rfl rfl ?_
    refine st_getE hc dX12_guessTurn_4 flX12_7 rfl rfl (h1) ?_
    refine st_icmp_ge (tgt := 32) hc dX12_guessTurn_7 (by decide) (fun h7 => ?_) (fun h7 => ?_)
    · refine st_vret (st := []) hc dX12_guessTurn_32 rfl ?_
      exact hQ w (fun j hj => hw j (by omega))
    · exact absurd (nI_le (by omega) (by omega)) h7
  | succ n ih =>
    intro i w hi hw
    obtain ⟨h1, h2, h3, h4, h5, h6⟩ := id hm
    refine st_iload_n hc dX12_guessTurn_2 rfl rfl ?_
    refine st_aload_n hc dX12_guessTurn_3 rfl rfl ?_
    refine st_getE hc dX12_guessTurn_4 flX12_7 rfl rfl (h1) ?_
    refine st_icmp_ge (tgt := 32) hc dX12_guessTurn_7 (by decide) (fun h7 => ?_) (fun h7 => ?_)
    · exact absurd h7 (nI_ge (by omega) (by omega))
    · refine st_aload_n hc dX12_guessTurn_10 rfl rfl ?_
      refine st_getr hc dX12_guessTurn_11 flX12_39 rfl rfl ?_
      refine st_iload_n hc dX12_guessTurn_14 rfl rfl ?_
      refine st_aload_n hc dX12_guessTurn_15 rfl rfl ?_
      refine st_getr hc dX12_guessTurn_16 flX12_27 rfl rfl ?_
      refine st_iconst (v := 5) hc dX12_guessTurn_19 (by decide) ?_
      refine st_iload_n hc dX12_guessTurn_20 rfl rfl ?_
      refine st_imul hc dX12_guessTurn_21 ?_
      refine st_iload_n hc dX12_guessTurn_22 rfl rfl ?_
      refine st_iadd hc dX12_guessTurn_23 ?_
      refine st_ialdN (k := 5 * t + i) hc dX12_guessTurn_24 rfl (by rw [show (5 : Int32) = nI 5 from rfl, pk_mul, nI_add]) (by omega) (by decide) rfl ?_
      refine st_iastN (k := i) hc dX12_guessTurn_25 rfl (rfl) (by omega) (by decide)  ?_
      rw [vu_up]
      refine st_inc hc dX12_guessTurn_26 rfl (by decide) rfl ?_
      rw [nI_1]
      refine st_goto (tgt := 2) hc dX12_guessTurn_29 (by decide) ?_
      refine ih (i + 1) _ (by omega) (fun j hj => ?_)
      by_cases e : j = i
      · subst e; exact upd_s
      · rw [upd_n e]; exact hw j (by omega)
theorem C12_guessTurn (d : Nat) (σ : St) {P C : Nat} (hm : mPC σ P C) (t : Nat) (ht : t < 11) : Mt YM mX12_guessTurn d [.ref 0, .int (nI t)] σ (fun r τ => r = none ∧ ∃ w : Nat → Int32, (∀ i, i < P → w i = σ 3 (5 * t + i)) ∧ τ = va_up σ 6 w) := by
  refine Mt.ofA [some (.ref 0), some (.int (nI t)), none] (by decide) (fun _ => Nat.le_of_ble_eq_true rfl) (fun _ => rfl) (fun g hc => ?_)
  refine st_iconst (v := 0) hc dX12_guessTurn_0 (by decide) ?_
  refine st_istore_n hc dX12_guessTurn_1 rfl (by decide) rfl ?_
  have h := lp_guessTurn (Q := fun r τ => r = none ∧ ∃ w : Nat → Int32, (∀ i, i < P → w i = σ 3 (5 * t + i)) ∧ τ = va_up σ 6 w) hc hm ht (fun w hw => ⟨rfl, w, hw, rfl⟩) P 0 (σ 6) (by omega) (fun j hj => absurd hj (Nat.not_lt_zero j))
  rw [vu_id] at h
  exact h
theorem lp_ones {g : Gx} {d b : Nat} {σ : St} {Q : Option Value → St → Prop} (hc : cX g YM RX12 cX12_ones 3 (some .int) d) (hb : b < 2 ^ 31) (hQ : Q (some (.int (nI (ones b)))) σ) : ∀ (n i : Nat), i + n = 11 → aW g YM 3 Q 4 [some (.int (nI b)), some (.int (nI (cnt i (fun k => b.testBit k)))), some (.int (nI i))] [] σ := by
  intro n
  induction n with
  | zero =>
    intro i hi
    have hi : i = 11 := by omega
    subst hi
    refine st_iload_n hc dX12_ones_4 rfl rfl ?_
    refine st_bipush (v := 11) hc dX12_ones_5 (by decide) ?_
    refine st_icmp_ge (tgt := 24) hc dX12_ones_7 (by decide) (fun h7 => ?_) (fun h7 => ?_)
    · refine st_iload_n hc dX12_ones_24 rfl rfl ?_
      refine st_iret (st := []) hc dX12_ones_25 rfl ?_
      exact hQ
    · exact absurd (by decide) h7
  | succ n ih =>
    intro i hi
    refine st_iload_n hc dX12_ones_4 rfl rfl ?_
    refine st_bipush (v := 11) hc dX12_ones_5 (by decide) ?_
    refine st_icmp_ge (tgt := 24) hc dX12_ones_7 (by decide) (fun h7 => ?_) (fun h7 => ?_)
    · exact absurd h7 (nI_ge (a := i) (b := 11) (by omega) (by omega))
    · refine st_iload_n hc dX12_ones_10 rfl rfl ?_
      refine st_iload_n hc dX12_ones_11 rfl rfl ?_
      refine st_iload_n hc dX12_ones_12 rfl rfl ?_
      refine st_ishr hc dX12_ones_13 ?_
      refine st_iconst (v := 1) hc dX12_ones_14 (by decide) ?_
      refine st_iand hc dX12_ones_15 ?_
      rw [nI_bit (by omega) hb]
      refine st_iadd hc dX12_ones_16 ?_
      rw [nI_add]
      refine st_istore_n hc dX12_ones_17 rfl (by decide) rfl ?_
      refine st_inc hc dX12_ones_18 rfl (by decide) rfl ?_
      rw [nI_1]
      refine st_goto (tgt := 4) hc dX12_ones_21 (by decide) ?_
      exact ih (i + 1) (by omega)
theorem C12_ones (d : Nat) (σ : St) (b : Nat) (hb : b < 2 ^ 31) : Mt YM mX12_ones d [.int (nI b)] σ (fun r τ => r = some (.int (nI (ones b))) ∧ τ = σ) := by
  refine Mt.ofA [some (.int (nI b)), none, none] (by decide) (fun _ => Nat.le_of_ble_eq_true rfl) (fun _ => rfl) (fun g hc => ?_)
  refine st_iconst (v := 0) hc dX12_ones_0 (by decide) ?_
  refine st_istore_n hc dX12_ones_1 rfl (by decide) rfl ?_
  refine st_iconst (v := 0) hc dX12_ones_2 (by decide) ?_
  refine st_istore_n hc dX12_ones_3 rfl (by decide) rfl ?_
  exact lp_ones hc hb ⟨rfl, rfl⟩ 11 0 rfl
theorem W12_answers {g : Gx} {d : Nat} {σ : St} {Q : Option Value → St → Prop} {P C code : Nat} (hc : cX g YM RX12 cX12_answers 8 (some .int) (d + 1)) (hm : mPC σ P C) (hcode : code < 2 ^ 30) (hQ : Q (some (.int (nI (ans P C (σ 6) code)))) σ) : aW g YM 8 Q 0 [some (.ref 0), some (.int (nI code)), none, none, none, none, none, none] [] σ := by
  obtain ⟨h1, h2, h3, h4, h5, h6⟩ := id hm
  have hb := blacks_le P C (σ 6) code
  have hal := alike_le P C (σ 6) code
  have hCP : C * P ≤ 40 := Nat.le_trans (Nat.mul_le_mul h6 h4) (by decide)
  have k68 : ∀ c, c < C → aW g YM 8 Q 50 [some (.ref 0), some (.int (nI code)), some (.int (nI (blacks P C (σ 6) code))), some (.int (nI (sumN (c + 1) (hues P C (σ 6) code)))), some (.int (nI (c + 1))), none, none, none] [] σ →
      aW g YM 8 Q 68 [some (.ref 0), some (.int (nI code)), some (.int (nI (blacks P C (σ 6) code))), some (.int (nI (sumN c (hues P C (σ 6) code)))), some (.int (nI c)), some (.int (nI 0)), some (.int (nI 0)), some (.int (nI 0))] [] σ := by
    intro c hcc ih
    refine lpN (n := P) (F := fun i => aW g YM 8 Q 68 [some (.ref 0), some (.int (nI code)), some (.int (nI (blacks P C (σ 6) code))), some (.int (nI (sumN c (hues P C (σ 6) code)))), some (.int (nI c)), some (.int (nI (cnt i (fun i => σ 6 i == nI c)))), some (.int (nI (cnt i (fun i => pegOf P C code i == c)))), some (.int (nI i))] [] σ) ?_ (fun i hi ih2 => ?_)
    · have l1 := cnt_le P (fun i => σ 6 i == nI c)
      have l2 := cnt_le P (fun i => pegOf P C code i == c)
      refine st_iload hc dX12_answers_68 rfl ?_
      refine st_aload_n hc dX12_answers_70 rfl rfl ?_
      refine st_getE hc dX12_answers_71 flX12_7 rfl rfl (h1) ?_
      refine st_icmp_ge (tgt := 127) hc dX12_answers_74 (by decide) (fun h74 => ?_) (fun h74 => ?_)
      · refine st_iload_n hc dX12_answers_127 rfl rfl ?_
        refine st_iload hc dX12_answers_128 rfl ?_
        refine st_iload hc dX12_answers_130 rfl ?_
        refine st_icmp_ge (tgt := 140) hc dX12_answers_132 (by decide) (fun h132 => ?_) (fun h132 => ?_)
        · have e : hues P C (σ 6) code c = cnt P (fun i => pegOf P C code i == c) := Nat.min_eq_right ((nI_leI (by omega) (by omega)).mp h132)
          refine st_iload hc dX12_answers_140 rfl ?_
          refine st_iadd hc dX12_answers_142 ?_
          rw [nI_add, ← e]
          refine st_istore_n hc dX12_answers_143 rfl (by decide) rfl ?_
          refine st_inc hc dX12_answers_144 rfl (by decide) rfl ?_
          rw [nI_1]
          refine st_goto (tgt := 50) hc dX12_answers_147 (by decide) ?_
          exact st_lvq _ (by simp [lvq, List.set, sumN]) ih
        · have e : hues P C (σ 6) code c = cnt P (fun i => σ 6 i == nI c) := Nat.min_eq_left (Nat.le_of_lt (Nat.lt_of_not_le (fun q => h132 (nI_le q (by omega)))))
          refine st_iload hc dX12_answers_135 rfl ?_
          refine st_goto (tgt := 142) hc dX12_answers_137 (by decide) ?_
          refine st_iadd hc dX12_answers_142 ?_
          rw [nI_add, ← e]
          refine st_istore_n hc dX12_answers_143 rfl (by decide) rfl ?_
          refine st_inc hc dX12_answers_144 rfl (by decide) rfl ?_
          rw [nI_1]
          refine st_goto (tgt := 50) hc dX12_answers_147 (by decide) ?_
          exact st_lvq _ (by simp [lvq, List.set, sumN]) ih
      · exact absurd (nI_le (Nat.le_refl _) (by omega)) h74
    · refine st_iload hc dX12_answers_68 rfl ?_
      refine st_aload_n hc dX12_answers_70 rfl rfl ?_
      refine st_getE hc dX12_answers_71 flX12_7 rfl rfl (h1) ?_
      refine st_icmp_ge (tgt := 127) hc dX12_answers_74 (by decide) (fun h74 => ?_) (fun h74 => ?_)
      · exact absurd h74 (nI_ge hi (by omega))
      · refine st_iload hc dX12_answers_77 rfl ?_
        refine st_aload_n hc dX12_answers_79 rfl rfl ?_
        refine st_getr hc dX12_answers_80 flX12_39 rfl rfl ?_
        refine st_iload hc dX12_answers_83 rfl ?_
        refine st_ialdN (k := i) hc dX12_answers_85 rfl (rfl) (by omega) (by decide) rfl ?_
        refine st_iload hc dX12_answers_86 rfl ?_
        refine st_t_icmp_ne (a := 1) (b := 0) hc dX12_answers_88 dX12_answers_91 dX12_answers_92 dX12_answers_95 (by decide) (by decide) ?_
        refine st_iadd hc dX12_answers_96 ?_
        rw [show (if σ 6 i = nI c then (1 : Int32) else 0) = nI (if (σ 6 i == nI c) = true then 1 else 0) by rw [← nI_sel]; simp, nI_add]
        refine st_istore hc dX12_answers_97 (by decide) rfl ?_
        refine st_iload hc dX12_answers_99 rfl ?_
        refine st_aload_n hc dX12_answers_101 rfl rfl ?_
        refine st_iload_n hc dX12_answers_102 rfl rfl ?_
        refine st_iload hc dX12_answers_103 rfl ?_
        refine st_callVp hc dX12_answers_105 (C12_peg0 d σ h1 h2 h4 h5 h6 code i hi hcode) mvX12_146 (by omega) rfl rfl rfl (Nat.le_of_ble_eq_true rfl) ?_
        refine st_iload hc dX12_answers_108 rfl ?_
        refine st_t_icmp_ne (a := 1) (b := 0) hc dX12_answers_110 dX12_answers_113 dX12_answers_114 dX12_answers_117 (by decide) (by decide) ?_
        refine st_iadd hc dX12_answers_118 ?_
        rw [show (if nI (pegOf P C code i) = nI c then (1 : Int32) else 0) = nI (if (pegOf P C code i == c) = true then 1 else 0) by rw [← nI_sel]; simp [nI_eq (show pegOf P C code i < 2 ^ 31 from Nat.lt_trans (pegOf_lt h5 code i) (by omega)) (show c < 2 ^ 31 by omega)], nI_add]
        refine st_istore hc dX12_answers_119 (by decide) rfl ?_
        refine st_inc hc dX12_answers_121 rfl (by decide) rfl ?_
        rw [nI_1]
        refine st_goto (tgt := 68) hc dX12_answers_124 (by decide) ?_
        exact ih2
  have k50 : aW g YM 8 Q 50 [some (.ref 0), some (.int (nI code)), some (.int (nI (blacks P C (σ 6) code))), some (.int (nI 0)), some (.int (nI 0)), none, none, none] [] σ := by
    refine lpN (n := C) (F := fun c => aW g YM 8 Q 50 [some (.ref 0), some (.int (nI code)), some (.int (nI (blacks P C (σ 6) code))), some (.int (nI (sumN c (hues P C (σ 6) code)))), some (.int (nI c)), none, none, none] [] σ) ?_ (fun c hcc ih => ?_)
    · refine st_iload hc dX12_answers_50 rfl ?_
      refine st_aload_n hc dX12_answers_52 rfl rfl ?_
      refine st_getE hc dX12_answers_53 flX12_13 rfl rfl (h2) ?_
      refine st_icmp_ge (tgt := 150) hc dX12_answers_56 (by decide) (fun h56 => ?_) (fun h56 => ?_)
      · refine st_bipush (v := 10) hc dX12_answers_150 (by decide) ?_
        refine st_iload_n hc dX12_answers_152 rfl rfl ?_
        refine st_imul hc dX12_answers_153 ?_
        refine st_iload_n hc dX12_answers_154 rfl rfl ?_
        refine st_iadd hc dX12_answers_155 ?_
        refine st_iload_n hc dX12_answers_156 rfl rfl ?_
        refine st_isub hc dX12_answers_157 ?_
        refine st_iret (st := []) hc dX12_answers_158 rfl ?_
        rw [show (10 : Int32) = nI 10 from rfl, pk_mul, nI_add, pk_sub (by omega), show 10 * blacks P C (σ 6) code + sumN C (hues P C (σ 6) code) - blacks P C (σ 6) code = ans P C (σ 6) code by unfold ans alike; omega]
        exact hQ
      · exact absurd (nI_le (Nat.le_refl _) (by omega)) h56
    · refine st_iload hc dX12_answers_50 rfl ?_
      refine st_aload_n hc dX12_answers_52 rfl rfl ?_
      refine st_getE hc dX12_answers_53 flX12_13 rfl rfl (h2) ?_
      refine st_icmp_ge (tgt := 150) hc dX12_answers_56 (by decide) (fun h56 => ?_) (fun h56 => ?_)
      · exact absurd h56 (nI_ge hcc (by omega))
      · refine st_iconst (v := 0) hc dX12_answers_59 (by decide) ?_
        refine st_istore hc dX12_answers_60 (by decide) rfl ?_
        refine st_iconst (v := 0) hc dX12_answers_62 (by decide) ?_
        refine st_istore hc dX12_answers_63 (by decide) rfl ?_
        refine st_iconst (v := 0) hc dX12_answers_65 (by decide) ?_
        refine st_istore hc dX12_answers_66 (by decide) rfl ?_
        exact k68 c hcc ih
  have k7 : aW g YM 8 Q 7 [some (.ref 0), some (.int (nI code)), some (.int (nI 0)), some (.int (nI 0)), some (.int (nI 0)), none, none, none] [] σ := by
    refine lpN (n := P) (F := fun i => aW g YM 8 Q 7 [some (.ref 0), some (.int (nI code)), some (.int (nI (cnt i (fun i => σ 6 i == nI (pegOf P C code i))))), some (.int (nI 0)), some (.int (nI i)), none, none, none] [] σ) ?_ (fun i hi ih => ?_)
    · refine st_iload hc dX12_answers_7 rfl ?_
      refine st_aload_n hc dX12_answers_9 rfl rfl ?_
      refine st_getE hc dX12_answers_10 flX12_7 rfl rfl (h1) ?_
      refine st_icmp_ge (tgt := 47) hc dX12_answers_13 (by decide) (fun h13 => ?_) (fun h13 => ?_)
      · refine st_iconst (v := 0) hc dX12_answers_47 (by decide) ?_
        refine st_istore hc dX12_answers_48 (by decide) rfl ?_
        exact k50
      · exact absurd (nI_le (Nat.le_refl _) (by omega)) h13
    · refine st_iload hc dX12_answers_7 rfl ?_
      refine st_aload_n hc dX12_answers_9 rfl rfl ?_
      refine st_getE hc dX12_answers_10 flX12_7 rfl rfl (h1) ?_
      refine st_icmp_ge (tgt := 47) hc dX12_answers_13 (by decide) (fun h13 => ?_) (fun h13 => ?_)
      · exact absurd h13 (nI_ge hi (by omega))
      · refine st_iload_n hc dX12_answers_16 rfl rfl ?_
        refine st_aload_n hc dX12_answers_17 rfl rfl ?_
        refine st_getr hc dX12_answers_18 flX12_39 rfl rfl ?_
        refine st_iload hc dX12_answers_21 rfl ?_
        refine st_ialdN (k := i) hc dX12_answers_23 rfl (rfl) (by omega) (by decide) rfl ?_
        refine st_aload_n hc dX12_answers_24 rfl rfl ?_
        refine st_iload_n hc dX12_answers_25 rfl rfl ?_
        refine st_iload hc dX12_answers_26 rfl ?_
        refine st_callVp hc dX12_answers_28 (C12_peg0 d σ h1 h2 h4 h5 h6 code i hi hcode) mvX12_146 (by omega) rfl rfl rfl (Nat.le_of_ble_eq_true rfl) ?_
        refine st_t_icmp_ne (a := 1) (b := 0) hc dX12_answers_31 dX12_answers_34 dX12_answers_35 dX12_answers_38 (by decide) (by decide) ?_
        refine st_iadd hc dX12_answers_39 ?_
        rw [show (if σ 6 i = nI (pegOf P C code i) then (1 : Int32) else 0) = nI (if (σ 6 i == nI (pegOf P C code i)) = true then 1 else 0) by rw [← nI_sel]; simp, nI_add]
        refine st_istore_n hc dX12_answers_40 rfl (by decide) rfl ?_
        refine st_inc hc dX12_answers_41 rfl (by decide) rfl ?_
        rw [nI_1]
        refine st_goto (tgt := 7) hc dX12_answers_44 (by decide) ?_
        exact ih
  refine st_iconst (v := 0) hc dX12_answers_0 (by decide) ?_
  refine st_istore_n hc dX12_answers_1 rfl (by decide) rfl ?_
  refine st_iconst (v := 0) hc dX12_answers_2 (by decide) ?_
  refine st_istore_n hc dX12_answers_3 rfl (by decide) rfl ?_
  refine st_iconst (v := 0) hc dX12_answers_4 (by decide) ?_
  refine st_istore hc dX12_answers_5 (by decide) rfl ?_
  exact k7
theorem C12_answers (d : Nat) (σ : St) {P C : Nat} (hm : mPC σ P C) (code : Nat) (hcode : code < 2 ^ 30) : Mt YM mX12_answers (d + 1) [.ref 0, .int (nI code)] σ (fun r τ => r = some (.int (nI (ans P C (σ 6) code))) ∧ τ = σ) :=
  Mt.ofA [some (.ref 0), some (.int (nI code)), none, none, none, none, none, none] (by decide) (fun _ => Nat.le_of_ble_eq_true rfl) (fun _ => rfl) (fun _ hc => W12_answers hc hm hcode ⟨rfl, rfl⟩)

