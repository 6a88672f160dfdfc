/-! ===== the reference: false turns, what the law allows, what is left ===== -/
theorem W12_falseOf {g : Gx} {d : Nat} {σ : St} {Q : Option Value → St → Prop} {P C code many : Nat} (hc : cX g YM RX12 cX12_falseOf 5 (some .int) (d + 2)) (hm : mPC σ P C) (hcode : code < 2 ^ 30) (hmany : many ≤ 11) (hQ : ∀ w, Q (some (.int (nI (fbits many (isF P C (σ 3) (σ 4) code))))) (va_up σ 6 w)) : aW g YM 5 Q 0 [some (.ref 0), some (.int (nI code)), some (.int (nI many)), none, none] [] σ := by
  have k5 : ∀ w, aW g YM 5 Q 5 [some (.ref 0), some (.int (nI code)), some (.int (nI many)), some (.int (nI 0)), some (.int (nI 0))] [] (va_up σ 6 w) := by
    refine lpN (n := many) (F := fun t => ∀ w, aW g YM 5 Q 5 [some (.ref 0), some (.int (nI code)), some (.int (nI many)), some (.int (nI (fbits t (isF P C (σ 3) (σ 4) code)))), some (.int (nI t))] [] (va_up σ 6 w)) ?_ (fun t ht ih => ?_)
    · intro w
      refine st_iload hc dX12_falseOf_5 rfl ?_
      refine st_iload_n hc dX12_falseOf_7 rfl rfl ?_
      refine st_icmp_ge (tgt := 45) hc dX12_falseOf_8 (by decide) (fun h8 => ?_) (fun h8 => ?_)
      · refine st_iload_n hc dX12_falseOf_45 rfl rfl ?_
        refine st_iret (st := []) hc dX12_falseOf_46 rfl ?_
        exact hQ w
      · exact absurd (nI_le (Nat.le_refl _) (by omega)) h8
    · intro w
      have hlt := fbits_lt31 (show t ≤ 31 by omega) (isF P C (σ 3) (σ 4) code)
      refine st_iload hc dX12_falseOf_5 rfl ?_
      refine st_iload_n hc dX12_falseOf_7 rfl rfl ?_
      refine st_icmp_ge (tgt := 45) hc dX12_falseOf_8 (by decide) (fun h8 => ?_) (fun h8 => ?_)
      · exact absurd h8 (nI_ge ht (by omega))
      · refine st_aload_n hc dX12_falseOf_11 rfl rfl ?_
        refine st_iload hc dX12_falseOf_12 rfl ?_
        refine st_callVn hc dX12_falseOf_14 (C12_guessTurn (d + 1) (va_up σ 6 w) (hm.up (by decide) w) t (by omega)) mvX12_156 (by omega) rfl rfl rfl (Nat.le_of_ble_eq_true rfl) ?_
        rintro _ ⟨w2, hw2, rfl⟩
        rw [vu_vu]
        have ea : ans P C (va_up σ 6 w2 6) code = ans P C (fun i => σ 3 (5 * t + i)) code := by rw [vu_s]; exact ans_congr hw2 code
        refine st_aload_n hc dX12_falseOf_17 rfl rfl ?_
        refine st_iload_n hc dX12_falseOf_18 rfl rfl ?_
        refine st_callVp hc dX12_falseOf_19 (C12_answers d (va_up σ 6 w2) (hm.up (by decide) w2) code hcode) mvX12_160 (by omega) rfl rfl rfl (Nat.le_of_ble_eq_true rfl) ?_
        refine st_aload_n hc dX12_falseOf_22 rfl rfl ?_
        refine st_getr hc dX12_falseOf_23 flX12_30 rfl rfl ?_
        refine st_iload hc dX12_falseOf_26 rfl ?_
        refine st_ialdN (k := t) hc dX12_falseOf_28 rfl (rfl) (by omega) (by decide) rfl ?_
        refine st_icmp_eq (tgt := 39) hc dX12_falseOf_29 (by decide) (fun h29 => ?_) (fun h29 => ?_)
        · have e : isF P C (σ 3) (σ 4) code t = false := by unfold isF; rw [← ea, h29]; simp [vu_n (show (4 : Nat) ≠ 6 by decide)]
          have e2 : fbits (t + 1) (isF P C (σ 3) (σ 4) code) = fbits t (isF P C (σ 3) (σ 4) code) := by rw [fbits]; simp [e]
          rw [← e2]
          refine st_inc hc dX12_falseOf_39 rfl (by decide) rfl ?_
          rw [nI_1]
          refine st_goto (tgt := 5) hc dX12_falseOf_42 (by decide) ?_
          exact ih w2
        · have e : isF P C (σ 3) (σ 4) code t = true := by unfold isF; rw [← ea]; simpa [vu_n (show (4 : Nat) ≠ 6 by decide)] using h29
          have e2 : fbits (t + 1) (isF P C (σ 3) (σ 4) code) = fbits t (isF P C (σ 3) (σ 4) code) ||| 2 ^ t := by rw [fbits]; simp [e]
          refine st_iload_n hc dX12_falseOf_32 rfl rfl ?_
          refine st_iconst (v := 1) hc dX12_falseOf_33 (by decide) ?_
          refine st_iload hc dX12_falseOf_34 rfl ?_
          refine st_ishl hc dX12_falseOf_36 ?_
          refine st_ior hc dX12_falseOf_37 ?_
          rw [nI_shl1 (by omega), nI_or, ← e2]
          refine st_istore_n hc dX12_falseOf_38 rfl (by decide) rfl ?_
          refine st_inc hc dX12_falseOf_39 rfl (by decide) rfl ?_
          rw [nI_1]
          refine st_goto (tgt := 5) hc dX12_falseOf_42 (by decide) ?_
          exact ih w2
  refine st_iconst (v := 0) hc dX12_falseOf_0 (by decide) ?_
  refine st_istore_n hc dX12_falseOf_1 rfl (by decide) rfl ?_
  refine st_iconst (v := 0) hc dX12_falseOf_2 (by decide) ?_
  refine st_istore hc dX12_falseOf_3 (by decide) rfl ?_
  have := k5 (σ 6)
  rw [vu_id] at this
  exact this
theorem C12_falseOf (d : Nat) (σ : St) {P C : Nat} (hm : mPC σ P C) (code : Nat) (hcode : code < 2 ^ 30) (many : Nat) (hmany : many ≤ 11) : Mt YM mX12_falseOf (d + 2) [.ref 0, .int (nI code), .int (nI many)] σ (fun r τ => r = some (.int (nI (fbits many (isF P C (σ 3) (σ 4) code)))) ∧ ∃ w, τ = va_up σ 6 w) :=
  Mt.ofA [some (.ref 0), some (.int (nI code)), some (.int (nI many)), none, none] (by decide) (fun _ => Nat.le_of_ble_eq_true rfl) (fun _ => rfl) (fun _ hc => W12_falseOf hc hm hcode hmany (fun w => ⟨rfl, w, rfl⟩))

