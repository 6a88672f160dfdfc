/-! ===== the class: the book of codes ===== -/
theorem has_eq {c : Int32} {N : Nat} (h : 0 ≤ c) (hN : N < 2 ^ 31) : (if nI N ≤ c then (0 : Int32) else 1) = bI (decide (0 ≤ c ∧ nat c < N)) := by
  by_cases q : nat c < N
  · rw [decide_eq_true ⟨h, q⟩, if_neg (fun z => absurd ((nI_leI hN (nat_lt c)).mp (by rw [nI_nat h]; exact z)) (by omega))]; rfl
  · rw [decide_eq_false (fun z => q z.2), if_pos (by have := nI_le (Nat.le_of_not_lt q) (nat_lt c); rw [nI_nat h] at this; exact this)]; rfl
theorem lt_pm {x : Int32} {n : Nat} (h1 : 1 ≤ n) (hn : n < 2 ^ 31) : x ≤ nI n - 1 ↔ x < nI n := by
  obtain ⟨m, rfl⟩ : ∃ m, n = m + 1 := ⟨n - 1, by omega⟩
  rw [nI_pred, Int32.le_iff_toInt_le, Int32.lt_iff_toInt_lt, nI_toInt (by omega), nI_toInt hn]
  omega
def eqX (lo hi : Nat) (σ τ : St) : Prop := ∀ a, ¬ (lo ≤ a ∧ a ≤ hi) → τ a = σ a
theorem eqX.rf {lo hi : Nat} {σ : St} : eqX lo hi σ σ := fun _ _ => rfl
theorem eqX.tr {lo hi : Nat} {σ τ υ : St} (h1 : eqX lo hi σ τ) (h2 : eqX lo hi τ υ) : eqX lo hi σ υ := fun a ha => (h2 a ha).trans (h1 a ha)
theorem eqX.up {lo hi k : Nat} {σ τ : St} (h : eqX lo hi σ τ) (h1 : lo ≤ k) (h2 : k ≤ hi) {i : Nat} {x : Int32} : eqX lo hi σ (up τ k i x) := fun a ha => by rw [up_o a (fun e => ha (by omega))]; exact h a ha
theorem eqX.vu {lo hi k : Nat} {σ τ : St} (h : eqX lo hi σ τ) (h1 : lo ≤ k) (h2 : k ≤ hi) {w : Nat → Int32} : eqX lo hi σ (va_up τ k w) := fun a ha => by rw [vu_n (fun e => ha (by omega))]; exact h a ha
def bkR (σ : St) (P C c : Nat) : Prop := σ 2 c = nI (spotsN P C (cw P C c)) ∧ σ 3 c = nI (sharesN P C (cw P C c)) ∧ σ 4 c = nI (pkI P (cw P C c))
def bkN (σ : St) (P C : Nat) : Prop := szOK P C ∧ C ^ P ≤ 4096 ∧ σ 1 0 = nI P ∧ σ 1 1 = nI C ∧ σ 1 2 = nI (C ^ P)
def bkI (σ : St) (P C : Nat) : Prop := bkN σ P C ∧ ∀ c, c < C ^ P → bkR σ P C c
theorem bkI.eq {σ τ : St} {P C : Nat} (h : bkI σ P C) (h1 : τ 1 = σ 1) (h2 : τ 2 = σ 2) (h3 : τ 3 = σ 3) (h4 : τ 4 = σ 4) : bkI τ P C := by
  unfold bkI bkN bkR at *
  rw [h1, h2, h3, h4]
  exact h
theorem C0_has (d : Nat) (σ : St) {N : Nat} (hN : σ 1 2 = nI N) (hN4 : N ≤ 4096) (c : Int32) : Mt YC mX0_has d [.ref 1, .int c] σ (fun r τ => r = some (.int (bI (decide (0 ≤ c ∧ nat c < N)))) ∧ τ = σ) := by
  refine Mt.ofA [some (.ref 1), some (.int c)] (by decide) (fun _ => Nat.le_of_ble_eq_true rfl) (fun _ => rfl) (fun g hc => ?_)
  refine st_iload_n hc dX0_has_0 rfl rfl ?_
  refine st_if_lt (tgt := 16) hc dX0_has_1 (by decide) (fun h1 => ?_) (fun h1 => ?_)
  · have e : decide (0 ≤ c ∧ nat c < N) = false := decide_eq_false (fun q => absurd h1 (Int32.not_lt.mpr q.1))
    refine st_iconst (v := 0) hc dX0_has_16 (by decide) ?_
    refine st_zret (st := []) hc dX0_has_17 rfl (by first | exact Or.inl rfl | (split <;> simp)) ?_
    rw [e]
    exact ⟨rfl, rfl⟩
  · have e := has_eq (N := N) (Int32.not_lt.mp h1) (by omega)
    refine st_iload_n hc dX0_has_4 rfl rfl ?_
    refine st_aload_n hc dX0_has_5 rfl rfl ?_
    refine st_getE hc dX0_has_6 flX0_39 rfl rfl (hN) ?_
    refine st_t_icmp_ge (a := 1) (b := 0) hc dX0_has_9 dX0_has_12 dX0_has_13 dX0_has_16 (by decide) (by decide) ?_
    refine st_zret (st := []) hc dX0_has_17 rfl (by first | exact Or.inl rfl | (split <;> simp)) ?_
    rw [e]
    exact ⟨rfl, rfl⟩
theorem C0_hasPlace (d : Nat) (σ : St) {N : Nat} (hN : σ 1 0 = nI N) (hN4 : N ≤ 4096) (c : Int32) : Mt YC mX0_hasPlace d [.ref 1, .int c] σ (fun r τ => r = some (.int (bI (decide (0 ≤ c ∧ nat c < N)))) ∧ τ = σ) := by
  refine Mt.ofA [some (.ref 1), some (.int c)] (by decide) (fun _ => Nat.le_of_ble_eq_true rfl) (fun _ => rfl) (fun g hc => ?_)
  refine st_iload_n hc dX0_hasPlace_0 rfl rfl ?_
  refine st_if_lt (tgt := 16) hc dX0_hasPlace_1 (by decide) (fun h1 => ?_) (fun h1 => ?_)
  · have e : decide (0 ≤ c ∧ nat c < N) = false := decide_eq_false (fun q => absurd h1 (Int32.not_lt.mpr q.1))
    refine st_iconst (v := 0) hc dX0_hasPlace_16 (by decide) ?_
    refine st_zret (st := []) hc dX0_hasPlace_17 rfl (by first | exact Or.inl rfl | (split <;> simp)) ?_
    rw [e]
    exact ⟨rfl, rfl⟩
  · have e := has_eq (N := N) (Int32.not_lt.mp h1) (by omega)
    refine st_iload_n hc dX0_hasPlace_4 rfl rfl ?_
    refine st_aload_n hc dX0_hasPlace_5 rfl rfl ?_
    refine st_getE hc dX0_hasPlace_6 flX0_28 rfl rfl (hN) ?_
    refine st_t_icmp_ge (a := 1) (b := 0) hc dX0_hasPlace_9 dX0_hasPlace_12 dX0_hasPlace_13 dX0_hasPlace_16 (by decide) (by decide) ?_
    refine st_zret (st := []) hc dX0_hasPlace_17 rfl (by first | exact Or.inl rfl | (split <;> simp)) ?_
    rw [e]
    exact ⟨rfl, rfl⟩
theorem C0_isPeg (d : Nat) (σ : St) {C : Nat} (hN : σ 1 1 = nI C) (c : Int32) : Mt YC mX0_isPeg d [.ref 1, .int c] σ (fun r τ => r = some (.int (bI (decide (-1 ≤ c ∧ c < nI C)))) ∧ τ = σ) := by
  refine Mt.ofA [some (.ref 1), some (.int c)] (by decide) (fun _ => Nat.le_of_ble_eq_true rfl) (fun _ => rfl) (fun g hc => ?_)
  refine st_iload_n hc dX0_isPeg_0 rfl rfl ?_
  refine st_iconst (v := (-1)) hc dX0_isPeg_1 (by decide) ?_
  refine st_icmp_lt (tgt := 17) hc dX0_isPeg_2 (by decide) (fun h2 => ?_) (fun h2 => ?_)
  · have e : decide (-1 ≤ c ∧ c < nI C) = false := decide_eq_false (fun q => absurd h2 (Int32.not_lt.mpr q.1))
    refine st_iconst (v := 0) hc dX0_isPeg_17 (by decide) ?_
    refine st_zret (st := []) hc dX0_isPeg_18 rfl (by first | exact Or.inl rfl | (split <;> simp)) ?_
    rw [e]
    exact ⟨rfl, rfl⟩
  · have e : (if nI C ≤ c then (0 : Int32) else 1) = bI (decide (-1 ≤ c ∧ c < nI C)) := by
      by_cases q : nI C ≤ c
      · rw [if_pos q, decide_eq_false (fun z => absurd z.2 (Int32.not_lt.mpr q))]; rfl
      · rw [if_neg q, decide_eq_true ⟨Int32.not_lt.mp h2, Int32.not_le.mp q⟩]; rfl
    refine st_iload_n hc dX0_isPeg_5 rfl rfl ?_
    refine st_aload_n hc dX0_isPeg_6 rfl rfl ?_
    refine st_getE hc dX0_isPeg_7 flX0_32 rfl rfl (hN) ?_
    refine st_t_icmp_ge (a := 1) (b := 0) hc dX0_isPeg_10 dX0_isPeg_13 dX0_isPeg_14 dX0_isPeg_17 (by decide) (by decide) ?_
    refine st_zret (st := []) hc dX0_isPeg_18 rfl (by first | exact Or.inl rfl | (split <;> simp)) ?_
    rw [e]
    exact ⟨rfl, rfl⟩
theorem C0_canBeTold (d : Nat) (σ : St) {P : Nat} (hP : σ 1 0 = nI P) (hP5 : P ≤ 5) (v : Int32) : Mt YC mX0_canBeTold d [.ref 1, .int v] σ (fun r τ => r = some (.int (bI (decide (0 ≤ v ∧ nat v / 10 + nat v % 10 ≤ P)))) ∧ τ = σ) := by
  refine Mt.ofA [some (.ref 1), some (.int v)] (by decide) (fun _ => Nat.le_of_ble_eq_true rfl) (fun _ => rfl) (fun g hc => ?_)
  refine st_iload_n hc dX0_canBeTold_0 rfl rfl ?_
  refine st_if_lt (tgt := 24) hc dX0_canBeTold_1 (by decide) (fun h1 => ?_) (fun h1 => ?_)
  · have e : ¬ (0 ≤ v ∧ nat v / 10 + nat v % 10 ≤ P) := fun q => absurd h1 (Int32.not_lt.mpr q.1)
    refine st_iconst (v := 0) hc dX0_canBeTold_24 (by decide) ?_
    refine st_zret (st := []) hc dX0_canBeTold_25 rfl (by first | exact Or.inl rfl | (split <;> simp)) ?_
    first
     | (rw [decide_eq_false e]; exact ⟨rfl, rfl⟩)
     | (refine ⟨?_, rfl⟩
        by_cases q : n / 10 + n % 10 ≤ P
        · rw [decide_eq_true ⟨hv, q⟩, if_neg (fun z => absurd ((nI_ltI (by omega) (by omega)).mp z) (Nat.not_lt.mpr q))]; rfl
        · rw [decide_eq_false (fun z => q z.2), if_pos ((nI_ltI (by omega) (by omega)).mpr (by omega))]; rfl)
  · have hv := Int32.not_lt.mp h1
    have ev := (nI_nat hv).symm
    have hvl := nat_lt v
    generalize nat v = n at *
    subst ev
    refine st_iload_n hc dX0_canBeTold_4 rfl rfl ?_
    refine st_bipush (v := 10) hc dX0_canBeTold_5 (by decide) ?_
    refine st_idiv hc dX0_canBeTold_7 (by decide) ?_
    rw [show (10 : Int32) = nI 10 from rfl, pk_div (by omega) (by decide) (by decide)]
    refine st_iload_n hc dX0_canBeTold_8 rfl rfl ?_
    refine st_bipush (v := 10) hc dX0_canBeTold_9 (by decide) ?_
    refine st_irem hc dX0_canBeTold_11 (by decide) ?_
    rw [show (10 : Int32) = nI 10 from rfl, pk_rem (by omega) (by decide) (by decide)]
    refine st_iadd hc dX0_canBeTold_12 ?_
    rw [nI_add]
    refine st_aload_n hc dX0_canBeTold_13 rfl rfl ?_
    refine st_getE hc dX0_canBeTold_14 flX0_28 rfl rfl (hP) ?_
    refine st_t_icmp_gt (a := 1) (b := 0) hc dX0_canBeTold_17 dX0_canBeTold_20 dX0_canBeTold_21 dX0_canBeTold_24 (by decide) (by decide) ?_
    refine st_zret (st := []) hc dX0_canBeTold_25 rfl (by first | exact Or.inl rfl | (split <;> simp)) ?_
    first
     | (rw [decide_eq_false e]; exact ⟨rfl, rfl⟩)
     | (refine ⟨?_, rfl⟩
        by_cases q : n / 10 + n % 10 ≤ P
        · rw [decide_eq_true ⟨hv, q⟩, if_neg (fun z => absurd ((nI_ltI (by omega) (by omega)).mp z) (Nat.not_lt.mpr q))]; rfl
        · rw [decide_eq_false (fun z => q z.2), if_pos ((nI_ltI (by omega) (by omega)).mpr (by omega))]; rfl)
theorem C0_fullAnswer (d : Nat) (σ : St) {P : Nat} (hP : σ 1 0 = nI P) : Mt YC mX0_fullAnswer d [.ref 1] σ (fun r τ => r = some (.int (nI (10 * P))) ∧ τ = σ) := by
  refine Mt.ofA [some (.ref 1)] (by decide) (fun _ => Nat.le_of_ble_eq_true rfl) (fun _ => rfl) (fun g hc => ?_)
  refine st_bipush (v := 10) hc dX0_fullAnswer_0 (by decide) ?_
  refine st_aload_n hc dX0_fullAnswer_2 rfl rfl ?_
  refine st_getE hc dX0_fullAnswer_3 flX0_28 rfl rfl (hP) ?_
  refine st_imul hc dX0_fullAnswer_6 ?_
  rw [show (10 : Int32) = nI 10 from rfl, pk_mul]
  refine st_iret (st := []) hc dX0_fullAnswer_7 rfl ?_
  exact ⟨rfl, rfl⟩
theorem C0_colourAt (d : Nat) (σ : St) {P C : Nat} (hb : bkI σ P C) {code i : Nat} (hcode : code < C ^ P) (hi : i < P) : Mt YC mX0_colourAt d [.ref 1, .int (nI code), .int (nI i)] σ (fun r τ => r = some (.int (nI (pegOf P C code i))) ∧ τ = σ) := by
  obtain ⟨⟨hz, h4, n0, n1, n2⟩, hr⟩ := hb
  obtain ⟨z1, z2, z3, z4, z5⟩ := hz
  refine Mt.ofA [some (.ref 1), some (.int (nI code)), some (.int (nI i))] (by decide) (fun _ => Nat.le_of_ble_eq_true rfl) (fun _ => rfl) (fun g hc => ?_)
  have hl : pegOf P C code i < C := pegOf_lt z3 code i
  have hn : nat (cw P C code i) = pegOf P C code i := nat_nI (by omega)
  refine st_aload_n hc dX0_colourAt_0 rfl rfl ?_
  refine st_getr hc dX0_colourAt_1 flX0_18 rfl rfl ?_
  refine st_iload_n hc dX0_colourAt_4 rfl rfl ?_
  refine st_ialdN (k := code) hc dX0_colourAt_5 rfl (rfl) (by omega) (by first | decide | omega) ((hr code hcode).2.2) ?_
  refine st_iconst (v := 3) hc dX0_colourAt_6 (by decide) ?_
  refine st_iload_n hc dX0_colourAt_7 rfl rfl ?_
  refine st_imul hc dX0_colourAt_8 ?_
  rw [show (3 : Int32) = nI 3 from rfl, pk_mul]
  refine st_iushr hc dX0_colourAt_9 ?_
  rw [nI_ushr (Nat.lt_trans (pkI_lt P _) (by decide)) (by omega)]
  refine st_bipush (v := 7) hc dX0_colourAt_10 (by decide) ?_
  refine st_iand hc dX0_colourAt_12 ?_
  rw [show (7 : Int32) = nI 7 from rfl, nI_and, pk_get z2 hi (by rw [hn]; omega), hn]
  refine st_iret (st := []) hc dX0_colourAt_13 rfl ?_
  exact ⟨rfl, rfl⟩
theorem C0_answerTo (d : Nat) (σ : St) {P C : Nat} (hb : bkI σ P C) (w : Nat → Int32) {code : Nat} (hcode : code < C ^ P) : Mt YC mX0_answerTo (d + 1) [.ref 1, .int (nI (spotsN P C w)), .int (nI (sharesN P C w)), .int (nI code)] σ (fun r τ => r = some (.int (nI (ans P C w code))) ∧ τ = σ) := by
  obtain ⟨⟨hz, h4, n0, n1, n2⟩, hr⟩ := hb
  refine Mt.ofA [some (.ref 1), some (.int (nI (spotsN P C w))), some (.int (nI (sharesN P C w))), some (.int (nI code))] (by decide) (fun _ => Nat.le_of_ble_eq_true rfl) (fun _ => rfl) (fun g hc => ?_)
  refine st_bipush (v := 9) hc dX0_answerTo_0 (by decide) ?_
  refine st_iload_n hc dX0_answerTo_2 rfl rfl ?_
  refine st_aload_n hc dX0_answerTo_3 rfl rfl ?_
  refine st_getr hc dX0_answerTo_4 flX0_9 rfl rfl ?_
  refine st_iload_n hc dX0_answerTo_7 rfl rfl ?_
  refine st_ialdN (k := code) hc dX0_answerTo_8 rfl (rfl) (by omega) (by first | decide | omega) ((hr code hcode).1) ?_
  refine st_iand hc dX0_answerTo_9 ?_
  rw [nI_and]
  refine st_callSp hc dX0_answerTo_10 (CJ_bitCount YC d σ _ (and_lt32 (spots_lt P C w))) msX0_61 (by omega) rfl rfl (Nat.le_of_ble_eq_true rfl) ?_
  refine st_imul hc dX0_answerTo_13 ?_
  rw [show (9 : Int32) = nI 9 from rfl, pk_mul]
  refine st_iload_n hc dX0_answerTo_14 rfl rfl ?_
  refine st_aload_n hc dX0_answerTo_15 rfl rfl ?_
  refine st_getr hc dX0_answerTo_16 flX0_15 rfl rfl ?_
  refine st_iload_n hc dX0_answerTo_19 rfl rfl ?_
  refine st_ialdN (k := code) hc dX0_answerTo_20 rfl (rfl) (by omega) (by first | decide | omega) ((hr code hcode).2.1) ?_
  refine st_iand hc dX0_answerTo_21 ?_
  rw [nI_and]
  refine st_callSp hc dX0_answerTo_22 (CJ_bitCount YC d σ _ (and_lt32 (shares_lt P C w))) msX0_61 (by omega) rfl rfl (Nat.le_of_ble_eq_true rfl) ?_
  refine st_iadd hc dX0_answerTo_25 ?_
  rw [nI_add, ans_pc hz]
  refine st_iret (st := []) hc dX0_answerTo_26 rfl ?_
  exact ⟨rfl, rfl⟩
theorem C0_answerOfCodes (d : Nat) (σ : St) {P C : Nat} (hb : bkI σ P C) {x code : Nat} (hx : x < C ^ P) (hcode : code < C ^ P) : Mt YC mX0_answerOfCodes (d + 2) [.ref 1, .int (nI x), .int (nI code)] σ (fun r τ => r = some (.int (nI (ans P C (cw P C x) code))) ∧ τ = σ) := by
  have h4 : C ^ P ≤ 4096 := hb.1.2.1
  refine Mt.ofA [some (.ref 1), some (.int (nI x)), some (.int (nI code))] (by decide) (fun _ => Nat.le_of_ble_eq_true rfl) (fun _ => rfl) (fun g hc => ?_)
  refine st_aload_n hc dX0_answerOfCodes_0 rfl rfl ?_
  refine st_aload_n hc dX0_answerOfCodes_1 rfl rfl ?_
  refine st_getr hc dX0_answerOfCodes_2 flX0_9 rfl rfl ?_
  refine st_iload_n hc dX0_answerOfCodes_5 rfl rfl ?_
  refine st_ialdN (k := x) hc dX0_answerOfCodes_6 rfl (rfl) (by omega) (by first | decide | omega) ((hb.2 x hx).1) ?_
  refine st_aload_n hc dX0_answerOfCodes_7 rfl rfl ?_
  refine st_getr hc dX0_answerOfCodes_8 flX0_15 rfl rfl ?_
  refine st_iload_n hc dX0_answerOfCodes_11 rfl rfl ?_
  refine st_ialdN (k := x) hc dX0_answerOfCodes_12 rfl (rfl) (by omega) (by first | decide | omega) ((hb.2 x hx).2.1) ?_
  refine st_iload_n hc dX0_answerOfCodes_13 rfl rfl ?_
  refine st_callVp hc dX0_answerOfCodes_14 (C0_answerTo d σ hb (cw P C x) hcode) mvX0_66 (by omega) rfl rfl rfl (Nat.le_of_ble_eq_true rfl) ?_
  refine st_iret (st := []) hc dX0_answerOfCodes_17 rfl ?_
  exact ⟨rfl, rfl⟩
theorem blank_s {P C : Nat} {w : Nat → Int32} (hr : rowOK P C w) {i : Nat} (hi : i < P) : decide (w i < 0) = decide (w i = -1) := by
  apply decide_eq_decide.mpr
  rcases hr i hi with h | ⟨h, -⟩
  · simp [h]
  · constructor
    · intro q; exact absurd q (Int32.not_lt.mpr h)
    · intro q; rw [q] at h; exact absurd h (by decide)
theorem C0_numberOf (d : Nat) (σ : St) {P C : Nat} (hb : bkN σ P C) {o pg : Nat} (hg : gsY o pg) (hr : rowOK P C (σ pg)) : Mt YC mX0_numberOf d [.ref 1, .ref o] σ (fun r τ => r = some (.int (if blankH P (σ pg) = true then -1 else nI (numH C (σ pg) P))) ∧ τ = σ) := by
  obtain ⟨hz, h4, n0, n1, n2⟩ := hb
  obtain ⟨z1, z2, z3, z4, z5⟩ := hz
  obtain ⟨hyo, hyp, hne⟩ := hg
  refine Mt.ofA [some (.ref 1), some (.ref o), none, none] (by decide) (fun _ => Nat.le_of_ble_eq_true rfl) (fun _ => rfl) (fun g hc => ?_)
  have k4 : anyN 0 (fun i => decide (σ pg i < 0)) = false → aW g YC 4 (fun r τ => r = some (.int (if blankH P (σ pg) = true then -1 else nI (numH C (σ pg) P))) ∧ τ = σ) 4 [some (.ref 1), some (.ref o), some (.int (nI (numH C (σ pg) 0))), some (.int (nI 0))] [] σ := by
    refine lpN (n := P) (F := fun i => anyN i (fun i => decide (σ pg i < 0)) = false → aW g YC 4 (fun r τ => r = some (.int (if blankH P (σ pg) = true then -1 else nI (numH C (σ pg) P))) ∧ τ = σ) 4 [some (.ref 1), some (.ref o), some (.int (nI (numH C (σ pg) i))), some (.int (nI i))] [] σ) (fun hz => ?_) (fun i hi ih hz => ?_)
    · have hbl : ¬ blankH P (σ pg) = true := by unfold blankH; rw [hz]; decide
      refine st_iload_n hc dX0_numberOf_4 rfl rfl ?_
      refine st_aload_n hc dX0_numberOf_5 rfl rfl ?_
      refine st_getE hc dX0_numberOf_6 flX0_28 rfl rfl (n0) ?_
      refine st_icmp_ge (tgt := 44) hc dX0_numberOf_9 (by decide) (fun h9 => ?_) (fun h9 => ?_)
      · refine st_iload_n hc dX0_numberOf_44 rfl rfl ?_
        refine st_iret (st := []) hc dX0_numberOf_45 rfl ?_
        rw [if_neg hbl]
        exact ⟨rfl, rfl⟩
      · exact absurd (nI_le (Nat.le_refl _) (by omega)) h9
    · refine st_iload_n hc dX0_numberOf_4 rfl rfl ?_
      refine st_aload_n hc dX0_numberOf_5 rfl rfl ?_
      refine st_getE hc dX0_numberOf_6 flX0_28 rfl rfl (n0) ?_
      refine st_icmp_ge (tgt := 44) hc dX0_numberOf_9 (by decide) (fun h9 => ?_) (fun h9 => ?_)
      · exact absurd h9 (nI_ge hi (by omega))
      · refine st_aload_n hc dX0_numberOf_12 rfl rfl ?_
        refine st_getr hc dX0_numberOf_13 flX0_70 hyo rfl ?_
        refine st_iload_n hc dX0_numberOf_16 rfl rfl ?_
        refine st_ialdN (k := i) hc dX0_numberOf_17 hyp (rfl) (by omega) (by first | decide | omega) rfl ?_
        refine st_iconst (v := (-1)) hc dX0_numberOf_18 (by decide) ?_
        refine st_icmp_ne (tgt := 24) hc dX0_numberOf_19 (by decide) (fun h19 => ?_) (fun h19 => ?_)
        · have hz2 : anyN (i + 1) (fun i => decide (σ pg i < 0)) = false := by rw [anyN_s, hz, blank_s hr hi, decide_eq_false h19]; rfl
          have hp := hr i hi
          rcases hp with q | ⟨q, -⟩
          · exact absurd q h19
          have ec := (nI_nat q).symm
          refine st_iload_n hc dX0_numberOf_24 rfl rfl ?_
          refine st_aload_n hc dX0_numberOf_25 rfl rfl ?_
          refine st_getE hc dX0_numberOf_26 flX0_32 rfl rfl (n1) ?_
          refine st_imul hc dX0_numberOf_29 ?_
          rw [pk_mul]
          refine st_aload_n hc dX0_numberOf_30 rfl rfl ?_
          refine st_getr hc dX0_numberOf_31 flX0_70 hyo rfl ?_
          refine st_iload_n hc dX0_numberOf_34 rfl rfl ?_
          refine st_ialdN (k := i) hc dX0_numberOf_35 hyp (rfl) (by omega) (by first | decide | omega) (ec) ?_
          refine st_iadd hc dX0_numberOf_36 ?_
          rw [nI_add, show numH C (σ pg) i * C + nat (σ pg i) = numH C (σ pg) (i + 1) by rw [Nat.mul_comm]; rfl]
          refine st_istore_n hc dX0_numberOf_37 rfl (by decide) rfl ?_
          refine st_inc hc dX0_numberOf_38 rfl (by decide) rfl ?_
          rw [nI_1]
          refine st_goto (tgt := 4) hc dX0_numberOf_41 (by decide) ?_
          exact ih hz2
        · have hbl : blankH P (σ pg) = true := (anyN_iff _ _).mpr ⟨i, hi, by rw [blank_s hr hi]; exact decide_eq_true h19⟩
          refine st_iconst (v := (-1)) hc dX0_numberOf_22 (by decide) ?_
          refine st_iret (st := []) hc dX0_numberOf_23 rfl ?_
          rw [if_pos hbl]
          exact ⟨rfl, rfl⟩
  refine st_iconst (v := 0) hc dX0_numberOf_0 (by decide) ?_
  refine st_istore_n hc dX0_numberOf_1 rfl (by decide) rfl ?_
  refine st_iconst (v := 0) hc dX0_numberOf_2 (by decide) ?_
  refine st_istore_n hc dX0_numberOf_3 rfl (by decide) rfl ?_
  exact k4 rfl
theorem C0_sumOfColours (d : Nat) (σ : St) {P C : Nat} (hb : bkI σ P C) {code : Nat} (hcode : code < C ^ P) : Mt YC mX0_sumOfColours (d + 1) [.ref 1, .int (nI code)] σ (fun r τ => r = some (.int (nI (sumC P C code))) ∧ τ = σ) := by
  obtain ⟨⟨hz, h4, n0, n1, n2⟩, hr⟩ := id hb
  obtain ⟨z1, z2, z3, z4, z5⟩ := hz
  refine Mt.ofA [some (.ref 1), some (.int (nI code)), none, none] (by decide) (fun _ => Nat.le_of_ble_eq_true rfl) (fun _ => rfl) (fun g hc => ?_)
  have k4 : aW g YC 4 (fun r τ => r = some (.int (nI (sumC P C code))) ∧ τ = σ) 4 [some (.ref 1), some (.int (nI code)), some (.int (nI (sumN 0 (pegOf P C code)))), some (.int (nI 0))] [] σ := by
    refine lpN (n := P) (F := fun i => aW g YC 4 (fun r τ => r = some (.int (nI (sumC P C code))) ∧ τ = σ) 4 [some (.ref 1), some (.int (nI code)), some (.int (nI (sumN i (pegOf P C code)))), some (.int (nI i))] [] σ) ?_ (fun i hi ih => ?_)
    · refine st_iload_n hc dX0_sumOfColours_4 rfl rfl ?_
      refine st_aload_n hc dX0_sumOfColours_5 rfl rfl ?_
      refine st_getE hc dX0_sumOfColours_6 flX0_28 rfl rfl (n0) ?_
      refine st_icmp_ge (tgt := 27) hc dX0_sumOfColours_9 (by decide) (fun h9 => ?_) (fun h9 => ?_)
      · refine st_iload_n hc dX0_sumOfColours_27 rfl rfl ?_
        refine st_iret (st := []) hc dX0_sumOfColours_28 rfl ?_
        exact ⟨rfl, rfl⟩
      · exact absurd (nI_le (Nat.le_refl _) (by omega)) h9
    · refine st_iload_n hc dX0_sumOfColours_4 rfl rfl ?_
      refine st_aload_n hc dX0_sumOfColours_5 rfl rfl ?_
      refine st_getE hc dX0_sumOfColours_6 flX0_28 rfl rfl (n0) ?_
      refine st_icmp_ge (tgt := 27) hc dX0_sumOfColours_9 (by decide) (fun h9 => ?_) (fun h9 => ?_)
      · exact absurd h9 (nI_ge hi (by omega))
      · refine st_iload_n hc dX0_sumOfColours_12 rfl rfl ?_
        refine st_aload_n hc dX0_sumOfColours_13 rfl rfl ?_
        refine st_iload_n hc dX0_sumOfColours_14 rfl rfl ?_
        refine st_iload_n hc dX0_sumOfColours_15 rfl rfl ?_
        refine st_callVp hc dX0_sumOfColours_16 (C0_colourAt d σ hb hcode hi) mvX0_73 (by omega) rfl rfl rfl (Nat.le_of_ble_eq_true rfl) ?_
        refine st_iadd hc dX0_sumOfColours_19 ?_
        rw [nI_add]
        refine st_istore_n hc dX0_sumOfColours_20 rfl (by decide) rfl ?_
        refine st_inc hc dX0_sumOfColours_21 rfl (by decide) rfl ?_
        rw [nI_1]
        refine st_goto (tgt := 4) hc dX0_sumOfColours_24 (by decide) ?_
        exact ih
  refine st_iconst (v := 0) hc dX0_sumOfColours_0 (by decide) ?_
  refine st_istore_n hc dX0_sumOfColours_1 rfl (by decide) rfl ?_
  refine st_iconst (v := 0) hc dX0_sumOfColours_2 (by decide) ?_
  refine st_istore_n hc dX0_sumOfColours_3 rfl (by decide) rfl ?_
  exact k4
def seenN (P C code i : Nat) : Nat := fbits 8 (fun c => anyN i (fun k => pegOf P C code k == c))
theorem seen_0 (P C code : Nat) : seenN P C code 0 = 0 := rfl
theorem seen_s {P C code i : Nat} (h : pegOf P C code i < 8) : seenN P C code i ||| 2 ^ pegOf P C code i = seenN P C code (i + 1) := by
  apply Nat.eq_of_testBit_eq
  intro k
  unfold seenN
  rw [Nat.testBit_or, fbits_bit, fbits_bit, Nat.testBit_two_pow, anyN_s]
  by_cases e : pegOf P C code i = k
  · subst e; simp [h]
  · have : (pegOf P C code i == k) = false := beq_false_of_ne e
    simp [e, this]
theorem seen_t {P C code i c : Nat} (h : c < 8) : ((seenN P C code i &&& 2 ^ c) = 0) ↔ anyN i (fun k => pegOf P C code k == c) = false := by
  have hb : (seenN P C code i).testBit c = anyN i (fun k => pegOf P C code k == c) := by unfold seenN; rw [fbits_bit]; simp [h]
  constructor
  · intro q
    rw [← hb]
    have := congrArg (fun x => x.testBit c) q
    simp only [Nat.testBit_and, Nat.testBit_two_pow_self, Nat.zero_testBit, Bool.and_true] at this
    exact this
  · intro q
    apply Nat.eq_of_testBit_eq
    intro k
    rw [Nat.testBit_and, Nat.testBit_two_pow, Nat.zero_testBit]
    by_cases e : c = k
    · subst e; rw [hb, q]; rfl
    · simp [e]
theorem any_sym {n : Nat} {f : Nat → Nat} {x : Nat} : anyN n (fun k => f k == x) = anyN n (fun k => x == f k) := by
  congr 1
  funext k
  by_cases e : f k = x
  · subst e; rfl
  · rw [beq_false_of_ne e, beq_false_of_ne (fun q => e q.symm)]
theorem C0_hasColourTwice (d : Nat) (σ : St) {P C : Nat} (hb : bkI σ P C) {code : Nat} (hcode : code < C ^ P) : Mt YC mX0_hasColourTwice (d + 1) [.ref 1, .int (nI code)] σ (fun r τ => r = some (.int (bI (twiceC P C code))) ∧ τ = σ) := by
  obtain ⟨⟨hz, h4, n0, n1, n2⟩, hr⟩ := id hb
  obtain ⟨z1, z2, z3, z4, z5⟩ := hz
  refine Mt.ofA [some (.ref 1), some (.int (nI code)), none, none, none] (by decide) (fun _ => Nat.le_of_ble_eq_true rfl) (fun _ => rfl) (fun g hc => ?_)
  have k4 : anyN 0 (fun i => anyN i (fun k => pegOf P C code i == pegOf P C code k)) = false → aW g YC 5 (fun r τ => r = some (.int (bI (twiceC P C code))) ∧ τ = σ) 4 [some (.ref 1), some (.int (nI code)), some (.int (nI (seenN P C code 0))), some (.int (nI 0)), none] [] σ := by
    refine lpN (n := P) (F := fun i => anyN i (fun i => anyN i (fun k => pegOf P C code i == pegOf P C code k)) = false → aW g YC 5 (fun r τ => r = some (.int (bI (twiceC P C code))) ∧ τ = σ) 4 [some (.ref 1), some (.int (nI code)), some (.int (nI (seenN P C code i))), some (.int (nI i)), none] [] σ) (fun hz => ?_) (fun i hi ih hz => ?_)
    · refine st_iload_n hc dX0_hasColourTwice_4 rfl rfl ?_
      refine st_aload_n hc dX0_hasColourTwice_5 rfl rfl ?_
      refine st_getE hc dX0_hasColourTwice_6 flX0_28 rfl rfl (n0) ?_
      refine st_icmp_ge (tgt := 42) hc dX0_hasColourTwice_9 (by decide) (fun h9 => ?_) (fun h9 => ?_)
      · refine st_iconst (v := 0) hc dX0_hasColourTwice_42 (by decide) ?_
        refine st_zret (st := []) hc dX0_hasColourTwice_43 rfl (by simp) ?_
        unfold twiceC
        rw [hz]
        exact ⟨rfl, rfl⟩
      · exact absurd (nI_le (Nat.le_refl _) (by omega)) h9
    · have hl : pegOf P C code i < 8 := Nat.lt_of_lt_of_le (pegOf_lt z3 code i) z4
      have hs : seenN P C code i < 2 ^ 31 := fbits_lt31 (by decide) _
      have ha : (seenN P C code i &&& 2 ^ pegOf P C code i) < 2 ^ 31 := Nat.lt_of_le_of_lt Nat.and_le_left hs
      refine st_iload_n hc dX0_hasColourTwice_4 rfl rfl ?_
      refine st_aload_n hc dX0_hasColourTwice_5 rfl rfl ?_
      refine st_getE hc dX0_hasColourTwice_6 flX0_28 rfl rfl (n0) ?_
      refine st_icmp_ge (tgt := 42) hc dX0_hasColourTwice_9 (by decide) (fun h9 => ?_) (fun h9 => ?_)
      · exact absurd h9 (nI_ge hi (by omega))
      · refine st_iconst (v := 1) hc dX0_hasColourTwice_12 (by decide) ?_
        refine st_aload_n hc dX0_hasColourTwice_13 rfl rfl ?_
        refine st_iload_n hc dX0_hasColourTwice_14 rfl rfl ?_
        refine st_iload_n hc dX0_hasColourTwice_15 rfl rfl ?_
        refine st_callVp hc dX0_hasColourTwice_16 (C0_colourAt d σ hb hcode hi) mvX0_73 (by omega) rfl rfl rfl (Nat.le_of_ble_eq_true rfl) ?_
        refine st_ishl hc dX0_hasColourTwice_19 ?_
        rw [nI_shl1 (by omega)]
        refine st_istore hc dX0_hasColourTwice_20 (by decide) rfl ?_
        refine st_iload_n hc dX0_hasColourTwice_22 rfl rfl ?_
        refine st_iload hc dX0_hasColourTwice_23 rfl ?_
        refine st_iand hc dX0_hasColourTwice_25 ?_
        rw [nI_and]
        refine st_if_eq (tgt := 31) hc dX0_hasColourTwice_26 (by decide) (fun h26 => ?_) (fun h26 => ?_)
        · have e := (seen_t hl).mp (nI_inj ha (by decide) h26)
          rw [any_sym] at e
          have hz2 : anyN (i + 1) (fun i => anyN i (fun k => pegOf P C code i == pegOf P C code k)) = false := by rw [anyN_s, hz, e]; rfl
          refine st_iload_n hc dX0_hasColourTwice_31 rfl rfl ?_
          refine st_iload hc dX0_hasColourTwice_32 rfl ?_
          refine st_ior hc dX0_hasColourTwice_34 ?_
          rw [nI_or, seen_s hl]
          refine st_istore_n hc dX0_hasColourTwice_35 rfl (by decide) rfl ?_
          refine st_inc hc dX0_hasColourTwice_36 rfl (by decide) rfl ?_
          rw [nI_1]
          refine st_goto (tgt := 4) hc dX0_hasColourTwice_39 (by decide) ?_
          exact st_lvq _ (by simp [lvq, List.set]) (ih hz2)
        · have e : anyN i (fun k => pegOf P C code k == pegOf P C code i) = true := by
            rcases hq : anyN i (fun k => pegOf P C code k == pegOf P C code i) with _ | _
            · exact absurd (congrArg nI ((seen_t hl).mpr hq)) h26
            · rfl
          rw [any_sym] at e
          have htw : twiceC P C code = true := (anyN_iff _ _).mpr ⟨i, hi, e⟩
          refine st_iconst (v := 1) hc dX0_hasColourTwice_29 (by decide) ?_
          refine st_zret (st := []) hc dX0_hasColourTwice_30 rfl (by simp) ?_
          rw [htw]
          exact ⟨rfl, rfl⟩
  rw [seen_0] at k4
  refine st_iconst (v := 0) hc dX0_hasColourTwice_0 (by decide) ?_
  refine st_istore_n hc dX0_hasColourTwice_1 rfl (by decide) rfl ?_
  refine st_iconst (v := 0) hc dX0_hasColourTwice_2 (by decide) ?_
  refine st_istore_n hc dX0_hasColourTwice_3 rfl (by decide) rfl ?_
  exact k4 rfl
def wrI (σ : St) (P C k : Nat) (τ : St) : Prop := eqX 1 6 σ τ ∧ bkN τ P C ∧ (∀ c, c < k → bkR τ P C c) ∧ ∀ i, i < P → τ 6 i = nI (pegOf P C k i)
theorem C0_write (d : Nat) (σ : St) {P C : Nat} (hz : szOK P C) (hp : C ^ P ≤ 4096) : Mt YC mX0_write (d + 2) [.ref 1, .int (nI P), .int (nI C)] σ (fun r τ => r = none ∧ bkI τ P C ∧ eqX 1 6 σ τ) := by
  obtain ⟨z1, z2, z3, z4, z5⟩ := id hz
  refine Mt.ofA [some (.ref 1), some (.int (nI P)), some (.int (nI C)), none] (by decide) (fun _ => Nat.le_of_ble_eq_true rfl) (fun _ => rfl) (fun g hc => ?_)
  have k29 : ∀ τ, wrI σ P C 0 τ → aW g YC 4 (fun r τ => r = none ∧ bkI τ P C ∧ eqX 1 6 σ τ) 29 [some (.ref 1), some (.int (nI P)), some (.int (nI C)), some (.int (nI 0))] [] τ := by
    refine lpN (n := C ^ P) (F := fun k => ∀ τ, wrI σ P C k τ → aW g YC 4 (fun r τ => r = none ∧ bkI τ P C ∧ eqX 1 6 σ τ) 29 [some (.ref 1), some (.int (nI P)), some (.int (nI C)), some (.int (nI k))] [] τ) (fun τ hw => ?_) (fun k hk ih τ hw => ?_)
    · obtain ⟨e1, ⟨b1, b2, n0, n1, n2⟩, e3, e4⟩ := id hw
      refine st_iload_n hc dX0_write_29 rfl rfl ?_
      refine st_aload_n hc dX0_write_30 rfl rfl ?_
      refine st_getE hc dX0_write_31 flX0_39 rfl rfl (n2) ?_
      refine st_icmp_ge (tgt := 116) hc dX0_write_34 (by decide) (fun h34 => ?_) (fun h34 => ?_)
      · refine st_vret (st := []) hc dX0_write_116 rfl ?_
        exact ⟨rfl, ⟨hw.2.1, e3⟩, e1⟩
      · exact absurd (nI_le (Nat.le_refl _) (by omega)) h34
    · obtain ⟨e1, ⟨b1, b2, n0, n1, n2⟩, e3, e4⟩ := id hw
      have hl : ∀ i, pegOf P C k i < C := fun i => pegOf_lt z3 k i
      have hro : rowOK P C (τ 6) := fun i hi => by
        rw [e4 i hi]
        exact Or.inr ⟨Int32.not_lt.mp (nI_pos (by have := hl i; omega)), by rw [nat_nI (by have := hl i; omega)]; exact hl i⟩
      have hcw : ∀ i, i < P → τ 6 i = cw P C k i := e4
      have hsp : spotsN P C (τ 6) = spotsN P C (cw P C k) := fbits_congr (fun j _ => by
        unfold spB
        by_cases q : j < P * C
        · rw [hcw (j / C) (Nat.div_lt_of_lt_mul (by rw [Nat.mul_comm]; exact q))]
        · simp [q])
      have hsh : sharesN P C (τ 6) = sharesN P C (cw P C k) := fbits_congr (fun j _ => by
        unfold shB
        rw [cnt_congr (fun i hi => by rw [hcw i hi])])
      have hpk : pkI P (τ 6) = pkI P (cw P C k) := fbits_congr (fun j _ => by
        by_cases q : j < 3 * P
        · rw [hcw (j / 3) (by omega)]
        · simp [q])
      refine st_iload_n hc dX0_write_29 rfl rfl ?_
      refine st_aload_n hc dX0_write_30 rfl rfl ?_
      refine st_getE hc dX0_write_31 flX0_39 rfl rfl (n2) ?_
      refine st_icmp_ge (tgt := 116) hc dX0_write_34 (by decide) (fun h34 => ?_) (fun h34 => ?_)
      · exact absurd h34 (nI_ge hk (by omega))
      · refine st_aload_n hc dX0_write_37 rfl rfl ?_
        refine st_getr hc dX0_write_38 flX0_24 rfl rfl ?_
        refine st_aload_n hc dX0_write_41 rfl rfl ?_
        refine st_getE hc dX0_write_42 flX0_28 rfl rfl (n0) ?_
        refine st_aload_n hc dX0_write_45 rfl rfl ?_
        refine st_getE hc dX0_write_46 flX0_32 rfl rfl (n1) ?_
        refine st_callVn hc dX0_write_49 (C2_measure (d + 1) τ gs5 hz hro) mvX0_46 (by omega) rfl rfl rfl (Nat.le_of_ble_eq_true rfl) ?_
        rintro τ1 e
        subst e
        refine st_aload_n hc dX0_write_52 rfl rfl ?_
        refine st_getr hc dX0_write_53 flX0_9 rfl rfl ?_
        refine st_iload_n hc dX0_write_56 rfl rfl ?_
        refine st_aload_n hc dX0_write_57 rfl rfl ?_
        refine st_getr hc dX0_write_58 flX0_24 rfl rfl ?_
        refine st_getE hc dX0_write_61 flX0_50 rfl rfl ((by simp [up_eq] : _ = nI (spotsN P C (τ 6)))) ?_
        refine st_iastN (k := k) hc dX0_write_64 rfl (rfl) (by omega) (by first | decide | omega)  ?_
        refine st_aload_n hc dX0_write_65 rfl rfl ?_
        refine st_getr hc dX0_write_66 flX0_15 rfl rfl ?_
        refine st_iload_n hc dX0_write_69 rfl rfl ?_
        refine st_aload_n hc dX0_write_70 rfl rfl ?_
        refine st_getr hc dX0_write_71 flX0_24 rfl rfl ?_
        refine st_getE hc dX0_write_74 flX0_52 rfl rfl ((by simp [up_eq] : _ = nI (sharesN P C (τ 6)))) ?_
        refine st_iastN (k := k) hc dX0_write_77 rfl (rfl) (by omega) (by first | decide | omega)  ?_
        refine st_store (fun τ2 e2 => ?_)
        have h6 : τ2 6 = τ 6 := by rw [e2]; funext i; simp [up_eq]
        have h10 : τ2 1 0 = nI P := by rw [e2]; simp [up_eq, n0]
        have h11 : τ2 1 1 = nI C := by rw [e2]; simp [up_eq, n1]
        have h12 : τ2 1 2 = nI (C ^ P) := by rw [e2]; simp [up_eq, n2]
        refine st_aload_n hc dX0_write_78 rfl rfl ?_
        refine st_getr hc dX0_write_79 flX0_18 rfl rfl ?_
        refine st_iload_n hc dX0_write_82 rfl rfl ?_
        refine st_aload_n hc dX0_write_83 rfl rfl ?_
        refine st_getr hc dX0_write_84 flX0_24 rfl rfl ?_
        refine st_aload_n hc dX0_write_87 rfl rfl ?_
        refine st_getE hc dX0_write_88 flX0_28 rfl rfl (h10) ?_
        refine st_callVq hc dX0_write_91 (C2_packed (d + 1) τ2 gs5 z2 (fun i hi => by rw [h6, e4 i hi]; exact ⟨Int32.not_lt.mp (nI_pos (by have := hl i; omega)), by rw [nat_nI (by have := hl i; omega)]; have := hl i; omega⟩)) mvX0_54 (by omega) rfl rfl rfl (Nat.le_of_ble_eq_true rfl) ?_
        rintro τ1 e
        subst e
        refine st_iastN (k := k) hc dX0_write_94 rfl (rfl) (by omega) (by first | decide | omega)  ?_
        refine st_aload_n hc dX0_write_95 rfl rfl ?_
        refine st_getr hc dX0_write_96 flX0_24 rfl rfl ?_
        refine st_aload_n hc dX0_write_99 rfl rfl ?_
        refine st_getE hc dX0_write_100 flX0_28 rfl rfl ((by simp [up_eq, h10] : _ = nI P)) ?_
        refine st_aload_n hc dX0_write_103 rfl rfl ?_
        refine st_getE hc dX0_write_104 flX0_32 rfl rfl ((by simp [up_eq, h11] : _ = nI C)) ?_
        refine st_callVn hc dX0_write_107 (C2_stepOn (d + 1) _ gs5 hz (code := k) (fun i hi => by rw [up_o 6 (by decide), h6]; exact e4 i hi)) mvX0_58 (by omega) rfl rfl rfl (Nat.le_of_ble_eq_true rfl) ?_
        rintro τ3 ⟨w, hw1, e⟩
        subst e
        refine st_inc hc dX0_write_110 rfl (by decide) rfl ?_
        rw [nI_1]
        refine st_goto (tgt := 29) hc dX0_write_113 (by decide) ?_
        refine ih _ ⟨?_, ⟨b1, b2, ?_, ?_, ?_⟩, fun c hc => ?_, fun i hi => by rw [vu_s]; exact hw1 i hi⟩
        · subst e2
          exact ((((((e1.up (by decide) (by decide)).up (by decide) (by decide)).up (by decide) (by decide)).up (by decide) (by decide)).up (by decide) (by decide)).vu (by decide) (by decide))
        · simp [va_up, up_eq, h10]
        · simp [va_up, up_eq, h11]
        · simp [va_up, up_eq, h12]
        · by_cases q : c = k
          · subst q
            rw [h6, e2]
            unfold bkR
            simp [va_up, up_eq, hsp, hsh, hpk]
          · have := e3 c (by omega)
            unfold bkR at this ⊢
            rw [e2]
            simp [va_up, up_eq, q, this]
  refine st_aload_n hc dX0_write_0 rfl rfl ?_
  refine st_iload_n hc dX0_write_1 rfl rfl ?_
  refine st_put hc dX0_write_2 fpX0_28 rfl rfl  ?_
  refine st_aload_n hc dX0_write_5 rfl rfl ?_
  refine st_iload_n hc dX0_write_6 rfl rfl ?_
  refine st_put hc dX0_write_7 fpX0_32 rfl rfl  ?_
  refine st_aload_n hc dX0_write_10 rfl rfl ?_
  refine st_iload_n hc dX0_write_11 rfl rfl ?_
  refine st_iload_n hc dX0_write_12 rfl rfl ?_
  refine st_callSp hc dX0_write_13 (C0_codesOf (d + 1) _ z2 z4) msX0_35 (by omega) rfl rfl (Nat.le_of_ble_eq_true rfl) ?_
  refine st_put hc dX0_write_16 fpX0_39 rfl rfl  ?_
  refine st_aload_n hc dX0_write_19 rfl rfl ?_
  refine st_getr hc dX0_write_20 flX0_24 rfl rfl ?_
  refine st_iconst (v := 0) hc dX0_write_23 (by decide) ?_
  refine st_callVn hc dX0_write_24 (C2_fillWith d _ gs5 0) mvX0_42 (by omega) rfl rfl rfl (Nat.le_of_ble_eq_true rfl) ?_
  rintro τ1 e
  subst e
  refine st_iconst (v := 0) hc dX0_write_27 (by decide) ?_
  refine st_istore_n hc dX0_write_28 rfl (by decide) rfl ?_
  refine k29 _ ⟨?_, ⟨hz, hp, ?_, ?_, ?_⟩, fun c hc => absurd hc (Nat.not_lt_zero c), fun i hi => ?_⟩
  · exact ((((eqX.rf.up (by decide) (by decide)).up (by decide) (by decide)).up (by decide) (by decide)).vu (by decide) (by decide))
  · simp [va_up, up_eq]
  · simp [va_up, up_eq]
  · simp [va_up, up_eq]
  · rw [vu_s, peg_0]
    unfold clr
    rw [if_pos (by omega)]
    rfl

