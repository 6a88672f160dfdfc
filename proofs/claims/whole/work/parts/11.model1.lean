/-! ===== the reference: small methods ===== -/
theorem C12_in (d : Nat) (σ : St) (v lo hi : Int32) : Mt YM mX12_in d [.int v, .int lo, .int hi] σ (fun r τ => r = some (.int (if lo ≤ v ∧ v ≤ hi then 1 else 0)) ∧ τ = σ) := by
  refine Mt.ofA [some (.int v), some (.int lo), some (.int hi)] (by decide) (fun _ => Nat.le_of_ble_eq_true rfl) (fun _ => rfl) (fun g hc => ?_)
  refine st_iload_n hc dX12_in_0 rfl rfl ?_
  refine st_iload_n hc dX12_in_1 rfl rfl ?_
  refine st_icmp_lt (tgt := 14) hc dX12_in_2 (by decide) (fun h2 => ?_) (fun h2 => ?_)
  · have e : ¬ (lo ≤ v ∧ v ≤ hi) := fun q => absurd h2 (Int32.not_lt.mpr q.1)
    refine st_iconst (v := 0) hc dX12_in_14 (by decide) ?_
    refine st_zret (st := []) hc dX12_in_15 rfl (by first | exact Or.inl rfl | (split <;> simp)) ?_
    first
     | (rw [if_neg e]; exact ⟨rfl, rfl⟩)
     | (by_cases e : hi < v
        · rw [if_pos e, if_neg (fun q : lo ≤ v ∧ v ≤ hi => absurd e (Int32.not_lt.mpr q.2))]; exact ⟨rfl, rfl⟩
        · rw [if_neg e, if_pos ⟨h2, Int32.not_lt.mp e⟩]; exact ⟨rfl, rfl⟩)
  · have h2 := Int32.not_lt.mp h2
    refine st_iload_n hc dX12_in_5 rfl rfl ?_
    refine st_iload_n hc dX12_in_6 rfl rfl ?_
    refine st_t_icmp_gt (a := 1) (b := 0) hc dX12_in_7 dX12_in_10 dX12_in_11 dX12_in_14 (by decide) (by decide) ?_
    refine st_zret (st := []) hc dX12_in_15 rfl (by first | exact Or.inl rfl | (split <;> simp)) ?_
    first
     | (rw [if_neg e]; exact ⟨rfl, rfl⟩)
     | (by_cases e : hi < v
        · rw [if_pos e, if_neg (fun q : lo ≤ v ∧ v ≤ hi => absurd e (Int32.not_lt.mpr q.2))]; exact ⟨rfl, rfl⟩
        · rw [if_neg e, if_pos ⟨h2, Int32.not_lt.mp e⟩]; exact ⟨rfl, rfl⟩)
theorem C12_isCode (d : Nat) (σ : St) (c : Int32) : Mt YM mX12_isCode (d + 1) [.ref 0, .int c] σ (fun r τ => r = some (.int (if 0 ≤ c ∧ c ≤ σ 0 2 - 1 then 1 else 0)) ∧ τ = σ) := by
  refine Mt.ofA [some (.ref 0), some (.int c)] (by decide) (fun _ => Nat.le_of_ble_eq_true rfl) (fun _ => rfl) (fun g hc => ?_)
  refine st_iload_n hc dX12_isCode_0 rfl rfl ?_
  refine st_iconst (v := 0) hc dX12_isCode_1 (by decide) ?_
  refine st_aload_n hc dX12_isCode_2 rfl rfl ?_
  refine st_getE hc dX12_isCode_3 flX12_16 rfl rfl rfl ?_
  refine st_iconst (v := 1) hc dX12_isCode_6 (by decide) ?_
  refine st_isub hc dX12_isCode_7 ?_
  refine st_callSp hc dX12_isCode_8 (C12_in d σ c 0 (σ 0 2 - 1)) msX12_142 (by omega) rfl rfl (by decide) ?_
  refine st_zret (st := []) hc dX12_isCode_11 rfl (by split <;> simp) ?_
  exact ⟨rfl, rfl⟩
theorem lp_peg0 {g : Gx} {d : Nat} {σ : St} {Q : Option Value → St → Prop} {C place : Nat} {c0 : Int32} (hc : cX g YM RX12 cX12_peg0 5 (some .int) d) (hC : σ 0 1 = nI C) (h0 : 0 < C) (hC8 : C ≤ 8) : ∀ (n v : Nat), place + n < 2 ^ 30 → v < 2 ^ 30 → Q (some (.int (nI (v / C ^ n % C)))) σ → aW g YM 5 Q 10 [some (.ref 0), some (.int c0), some (.int (nI place)), some (.int (nI v)), some (.int (nI (place + n)))] [] σ := by
  intro n
  induction n with
  | zero =>
    intro v hp hv hQ
    refine st_iload hc dX12_peg0_10 rfl ?_
    refine st_iload_n hc dX12_peg0_12 rfl rfl ?_
    refine st_icmp_le (tgt := 29) hc dX12_peg0_13 (by decide) (fun h13 => ?_) (fun h13 => ?_)
    · refine st_iload_n hc dX12_peg0_29 rfl rfl ?_
      refine st_aload_n hc dX12_peg0_30 rfl rfl ?_
      refine st_getE hc dX12_peg0_31 flX12_13 rfl rfl (hC) ?_
      refine st_irem hc dX12_peg0_34 (nI_ne0 h0 (by omega)) ?_
      rw [pk_rem (by omega) h0 (by omega)]
      refine st_iret (st := []) hc dX12_peg0_35 rfl ?_
      simpa using hQ
    · exact absurd (nI_le (Nat.le_refl _) (by omega)) h13
  | succ n ih =>
    intro v hp hv hQ
    refine st_iload hc dX12_peg0_10 rfl ?_
    refine st_iload_n hc dX12_peg0_12 rfl rfl ?_
    refine st_icmp_le (tgt := 29) hc dX12_peg0_13 (by decide) (fun h13 => ?_) (fun h13 => ?_)
    · exact absurd h13 (nI_ge (by omega) (by omega))
    · refine st_iload_n hc dX12_peg0_16 rfl rfl ?_
      refine st_aload_n hc dX12_peg0_17 rfl rfl ?_
      refine st_getE hc dX12_peg0_18 flX12_13 rfl rfl (hC) ?_
      refine st_idiv hc dX12_peg0_21 (nI_ne0 h0 (by omega)) ?_
      rw [pk_div (by omega) h0 (by omega)]
      refine st_istore_n hc dX12_peg0_22 rfl (by decide) rfl ?_
      refine st_dec hc dX12_peg0_23 rfl (by decide) rfl ?_
      rw [show place + (n + 1) = (place + n) + 1 by omega, nI_pred]
      refine st_goto (tgt := 10) hc dX12_peg0_26 (by decide) ?_
      refine ih (v / C) (by omega) (Nat.lt_of_le_of_lt (Nat.div_le_self _ _) hv) ?_
      rw [Nat.div_div_eq_div_mul, ← Nat.pow_succ']
      exact hQ
theorem C12_peg0 (d : Nat) (σ : St) {P C : Nat} (hP : σ 0 0 = nI P) (hC : σ 0 1 = nI C) (hP5 : P ≤ 5) (h0 : 0 < C) (hC8 : C ≤ 8) (code i : Nat) (hi : i < P) (hcode : code < 2 ^ 30) : Mt YM mX12_peg0 d [.ref 0, .int (nI code), .int (nI i)] σ (fun r τ => r = some (.int (nI (pegOf P C code i))) ∧ τ = σ) := by
  refine Mt.ofA [some (.ref 0), some (.int (nI code)), some (.int (nI i)), none, none] (by decide) (fun _ => Nat.le_of_ble_eq_true rfl) (fun _ => rfl) (fun g hc => ?_)
  refine st_iload_n hc dX12_peg0_0 rfl rfl ?_
  refine st_istore_n hc dX12_peg0_1 rfl (by decide) rfl ?_
  refine st_aload_n hc dX12_peg0_2 rfl rfl ?_
  refine st_getE hc dX12_peg0_3 flX12_7 rfl rfl (hP) ?_
  refine st_iconst (v := 1) hc dX12_peg0_6 (by decide) ?_
  refine st_isub hc dX12_peg0_7 ?_
  refine st_istore hc dX12_peg0_8 (by decide) rfl ?_
  rw [show nI P - 1 = nI (i + (P - 1 - i)) by rw [show P = (i + (P - 1 - i)) + 1 by omega, nI_pred]; congr 1; omega]
  exact lp_peg0 hc hC h0 hC8 (P - 1 - i) code (by omega) hcode ⟨rfl, rfl⟩

