/-! ===== the class: shelves, and the tree's nodes ===== -/
def shY (o cc : Nat) : Prop := YC[o]? = some (.inr (7, [some cc, none, none, none])) ∧ YC[cc]? = some (.inl (0, 60, [])) ∧ o ≠ cc ∧ 62 ≤ o ∧ 62 ≤ cc
theorem shY_d {d : Nat} (h : d < 6) : shY (62 + 2 * d) (63 + 2 * d) := by
  rcases (show d = 0 ∨ d = 1 ∨ d = 2 ∨ d = 3 ∨ d = 4 ∨ d = 5 by omega) with rfl | rfl | rfl | rfl | rfl | rfl <;> exact ⟨rfl, rfl, by decide, by decide, by decide⟩
theorem C7_holdRow (d : Nat) (σ : St) {o cc : Nat} (hs : shY o cc) (s n : Int32) : Mt YC mX7_holdRow (d + 1) [.ref o, .int s, .int n] σ (fun r τ => r = none ∧ τ = va_up (up (up σ o 1 s) o 2 n) cc (clr 60 0 (σ cc))) := by
  obtain ⟨hyo, hyc, hne, -, -⟩ := hs
  refine Mt.ofA [some (.ref o), some (.int s), some (.int n)] (by decide) (fun _ => Nat.le_of_ble_eq_true rfl) (fun _ => rfl) (fun g hc => ?_)
  refine st_aload_n hc dX7_holdRow_0 rfl rfl ?_
  refine st_iload_n hc dX7_holdRow_1 rfl rfl ?_
  refine st_put hc dX7_holdRow_2 fpX7_15 hyo rfl  ?_
  refine st_aload_n hc dX7_holdRow_5 rfl rfl ?_
  refine st_iload_n hc dX7_holdRow_6 rfl rfl ?_
  refine st_put hc dX7_holdRow_7 fpX7_19 hyo rfl  ?_
  refine st_aload_n hc dX7_holdRow_10 rfl rfl ?_
  refine st_getr hc dX7_holdRow_11 flX7_9 hyo rfl ?_
  refine st_iconst (v := 0) hc dX7_holdRow_14 (by decide) ?_
  refine st_callSn hc dX7_holdRow_15 (CJ_fill d _ hyc (by decide) 0) msX7_22 (by omega) rfl rfl (Nat.le_of_ble_eq_true rfl) ?_
  rintro τ1 e
  rw [up_o cc (fun q => hne q.symm), up_o cc (fun q => hne q.symm)] at e
  subst e
  refine st_vret (st := []) hc dX7_holdRow_18 rfl ?_
  exact ⟨rfl, rfl⟩
theorem C7_holdGuess (d : Nat) (σ : St) {o cc P : Nat} (hs : shY o cc) (hP : P ≤ 5) (s : Int32) : Mt YC mX7_holdGuess (d + 1) [.ref o, .ref 17, .int (nI P), .int s] σ (fun r τ => r = none ∧ τ = va_up (up (up (up σ o 1 4) o 2 (nI P)) o 3 s) cc (rng 0 P (fun k => σ 18 (0 + k)) (σ cc))) := by
  obtain ⟨hyo, hyc, hne, ho, -⟩ := hs
  refine Mt.ofA [some (.ref o), some (.ref 17), some (.int (nI P)), some (.int s)] (by decide) (fun _ => Nat.le_of_ble_eq_true rfl) (fun _ => rfl) (fun g hc => ?_)
  refine st_aload_n hc dX7_holdGuess_0 rfl rfl ?_
  refine st_iconst (v := 4) hc dX7_holdGuess_1 (by decide) ?_
  refine st_put hc dX7_holdGuess_2 fpX7_15 hyo rfl  ?_
  refine st_aload_n hc dX7_holdGuess_5 rfl rfl ?_
  refine st_iload_n hc dX7_holdGuess_6 rfl rfl ?_
  refine st_put hc dX7_holdGuess_7 fpX7_19 hyo rfl  ?_
  refine st_aload_n hc dX7_holdGuess_10 rfl rfl ?_
  refine st_iload_n hc dX7_holdGuess_11 rfl rfl ?_
  refine st_put hc dX7_holdGuess_12 fpX7_28 hyo rfl  ?_
  refine st_aload_n hc dX7_holdGuess_15 rfl rfl ?_
  refine st_getr hc dX7_holdGuess_16 flX7_31 rfl rfl ?_
  refine st_iconst (v := 0) hc dX7_holdGuess_19 (by decide) ?_
  refine st_aload_n hc dX7_holdGuess_20 rfl rfl ?_
  refine st_getr hc dX7_holdGuess_21 flX7_9 hyo rfl ?_
  refine st_iconst (v := 0) hc dX7_holdGuess_24 (by decide) ?_
  refine st_iload_n hc dX7_holdGuess_25 rfl rfl ?_
  refine st_acopy (s := 0) (t := 0) (m := P) hc dX7_holdGuess_26 lkcpy7_36 (by omega) rfl hyc (rfl) (rfl) (rfl) (by omega) (by omega) (by decide) (by decide) (Nat.le_of_ble_eq_true rfl) ?_
  refine st_vret (st := []) hc dX7_holdGuess_29 rfl ?_
  refine ⟨rfl, ?_⟩
  rw [up_o 18 (by omega), up_o 18 (by omega), up_o 18 (by omega), up_o cc (fun q => hne q.symm), up_o cc (fun q => hne q.symm), up_o cc (fun q => hne q.symm)]
theorem C7_whyNoRow (d : Nat) (σ : St) {o cc : Nat} (hs : shY o cc) : Mt YC mX7_whyNoRow d [.ref o] σ (fun r τ => r = some (.int (if σ o 1 = 0 then -11 else if σ o 1 = 4 then -12 else 0)) ∧ τ = σ) := by
  obtain ⟨hyo, hyc, hne, -, -⟩ := hs
  refine Mt.ofA [some (.ref o)] (by decide) (fun _ => Nat.le_of_ble_eq_true rfl) (fun _ => rfl) (fun g hc => ?_)
  refine st_aload_n hc dX7_whyNoRow_0 rfl rfl ?_
  refine st_getE hc dX7_whyNoRow_1 flX7_15 hyo rfl rfl ?_
  refine st_if_ne (tgt := 10) hc dX7_whyNoRow_4 (by decide) (fun h4 => ?_) (fun h4 => ?_)
  · refine st_aload_n hc dX7_whyNoRow_10 rfl rfl ?_
    refine st_getE hc dX7_whyNoRow_11 flX7_15 hyo rfl rfl ?_
    refine st_iconst (v := 4) hc dX7_whyNoRow_14 (by decide) ?_
    refine st_icmp_ne (tgt := 23) hc dX7_whyNoRow_15 (by decide) (fun h15 => ?_) (fun h15 => ?_)
    · refine st_iconst (v := 0) hc dX7_whyNoRow_23 (by decide) ?_
      refine st_iret (st := []) hc dX7_whyNoRow_24 rfl ?_
      rw [if_neg h4]
      first
       | (rw [if_pos h15]; exact ⟨rfl, rfl⟩)
       | (rw [if_neg h15]; exact ⟨rfl, rfl⟩)
    · refine st_bipush (v := (-12)) hc dX7_whyNoRow_18 (by decide) ?_
      refine st_goto (tgt := 24) hc dX7_whyNoRow_20 (by decide) ?_
      refine st_iret (st := []) hc dX7_whyNoRow_24 rfl ?_
      rw [if_neg h4]
      first
       | (rw [if_pos h15]; exact ⟨rfl, rfl⟩)
       | (rw [if_neg h15]; exact ⟨rfl, rfl⟩)
  · refine st_bipush (v := (-11)) hc dX7_whyNoRow_7 (by decide) ?_
    refine st_iret (st := []) hc dX7_whyNoRow_9 rfl ?_
    rw [if_pos h4]
    exact ⟨rfl, rfl⟩
theorem C7_whyNoGuess (d : Nat) (σ : St) {o cc : Nat} (hs : shY o cc) : Mt YC mX7_whyNoGuess d [.ref o] σ (fun r τ => r = some (.int (if σ o 1 = 0 then -11 else if σ o 1 = 4 then 0 else -12)) ∧ τ = σ) := by
  obtain ⟨hyo, hyc, hne, -, -⟩ := hs
  refine Mt.ofA [some (.ref o)] (by decide) (fun _ => Nat.le_of_ble_eq_true rfl) (fun _ => rfl) (fun g hc => ?_)
  refine st_aload_n hc dX7_whyNoGuess_0 rfl rfl ?_
  refine st_getE hc dX7_whyNoGuess_1 flX7_15 hyo rfl rfl ?_
  refine st_if_ne (tgt := 10) hc dX7_whyNoGuess_4 (by decide) (fun h4 => ?_) (fun h4 => ?_)
  · refine st_aload_n hc dX7_whyNoGuess_10 rfl rfl ?_
    refine st_getE hc dX7_whyNoGuess_11 flX7_15 hyo rfl rfl ?_
    refine st_iconst (v := 4) hc dX7_whyNoGuess_14 (by decide) ?_
    refine st_icmp_ne (tgt := 22) hc dX7_whyNoGuess_15 (by decide) (fun h15 => ?_) (fun h15 => ?_)
    · refine st_bipush (v := (-12)) hc dX7_whyNoGuess_22 (by decide) ?_
      refine st_iret (st := []) hc dX7_whyNoGuess_24 rfl ?_
      rw [if_neg h4]
      first
       | (rw [if_pos h15]; exact ⟨rfl, rfl⟩)
       | (rw [if_neg h15]; exact ⟨rfl, rfl⟩)
    · refine st_iconst (v := 0) hc dX7_whyNoGuess_18 (by decide) ?_
      refine st_goto (tgt := 24) hc dX7_whyNoGuess_19 (by decide) ?_
      refine st_iret (st := []) hc dX7_whyNoGuess_24 rfl ?_
      rw [if_neg h4]
      first
       | (rw [if_pos h15]; exact ⟨rfl, rfl⟩)
       | (rw [if_neg h15]; exact ⟨rfl, rfl⟩)
  · refine st_bipush (v := (-11)) hc dX7_whyNoGuess_7 (by decide) ?_
    refine st_iret (st := []) hc dX7_whyNoGuess_9 rfl ?_
    rw [if_pos h4]
    exact ⟨rfl, rfl⟩
theorem C7_hasCells (d : Nat) (σ : St) {o cc len : Nat} (hs : shY o cc) (hl : σ o 2 = nI len) (hl60 : len ≤ 60) (i n : Int32) : Mt YC mX7_hasCells d [.ref o, .int i, .int n] σ (fun r τ => r = some (.int (bI (decide (0 ≤ n ∧ 0 ≤ i ∧ nat i + nat n ≤ len)))) ∧ τ = σ) := by
  obtain ⟨hyo, hyc, hne, -, -⟩ := hs
  refine Mt.ofA [some (.ref o), some (.int i), some (.int n)] (by decide) (fun _ => Nat.le_of_ble_eq_true rfl) (fun _ => rfl) (fun g hc => ?_)
  have hni := nat_lt i
  have hnn := nat_lt n
  refine st_iload_n hc dX7_hasCells_0 rfl rfl ?_
  refine st_if_lt (tgt := 30) hc dX7_hasCells_1 (by decide) (fun h1 => ?_) (fun h1 => ?_)
  · have e : decide (0 ≤ n ∧ 0 ≤ i ∧ nat i + nat n ≤ len) = false := decide_eq_false (fun q => absurd h1 (Int32.not_lt.mpr q.1))
    refine st_iconst (v := 0) hc dX7_hasCells_30 (by decide) ?_
    refine st_zret (st := []) hc dX7_hasCells_31 rfl (by first | exact Or.inl rfl | (split <;> simp)) ?_
    rw [e]
    exact ⟨rfl, rfl⟩
  · have h1 := Int32.not_lt.mp h1
    refine st_iload_n hc dX7_hasCells_4 rfl rfl ?_
    refine st_if_lt (tgt := 30) hc dX7_hasCells_5 (by decide) (fun h5 => ?_) (fun h5 => ?_)
    · have e : decide (0 ≤ n ∧ 0 ≤ i ∧ nat i + nat n ≤ len) = false := decide_eq_false (fun q => absurd h5 (Int32.not_lt.mpr q.2.1))
      refine st_iconst (v := 0) hc dX7_hasCells_30 (by decide) ?_
      refine st_zret (st := []) hc dX7_hasCells_31 rfl (by first | exact Or.inl rfl | (split <;> simp)) ?_
      rw [e]
      exact ⟨rfl, rfl⟩
    · have h5 := Int32.not_lt.mp h5
      refine st_iload_n hc dX7_hasCells_8 rfl rfl ?_
      refine st_aload_n hc dX7_hasCells_9 rfl rfl ?_
      refine st_getE hc dX7_hasCells_10 flX7_19 hyo rfl (hl) ?_
      refine st_icmp_gt (tgt := 30) hc dX7_hasCells_13 (by decide) (fun h13 => ?_) (fun h13 => ?_)
      · have e : decide (0 ≤ n ∧ 0 ≤ i ∧ nat i + nat n ≤ len) = false := decide_eq_false (fun q => by
          rw [← nI_nat h1] at h13
          have := (nI_ltI (by omega) hnn).mp h13
          omega)
        refine st_iconst (v := 0) hc dX7_hasCells_30 (by decide) ?_
        refine st_zret (st := []) hc dX7_hasCells_31 rfl (by first | exact Or.inl rfl | (split <;> simp)) ?_
        rw [e]
        exact ⟨rfl, rfl⟩
      · have h13 : nat n ≤ len := Nat.le_of_not_lt (fun q => h13 (by have := (nI_ltI (by omega) hnn).mpr q; rw [nI_nat h1] at this; exact this))
        have e : (if nI len - n < i then (0 : Int32) else 1) = bI (decide (0 ≤ n ∧ 0 ≤ i ∧ nat i + nat n ≤ len)) := by
          have e2 : nI len - n = nI (len - nat n) := by have := nI_sub h13; rw [nI_nat h1] at this; exact this
          rw [e2]
          by_cases q : nat i + nat n ≤ len
          · rw [decide_eq_true ⟨h1, h5, q⟩, if_neg (fun z => by
              have := (nI_ltI (a := len - nat n) (b := nat i) (by omega) hni).mp (by rw [nI_nat h5]; exact z)
              omega)]
            rfl
          · rw [decide_eq_false (fun z => q z.2.2), if_pos (by
              have := (nI_ltI (a := len - nat n) (b := nat i) (by omega) hni).mpr (by omega)
              rw [nI_nat h5] at this
              exact this)]
            rfl
        refine st_iload_n hc dX7_hasCells_16 rfl rfl ?_
        refine st_aload_n hc dX7_hasCells_17 rfl rfl ?_
        refine st_getE hc dX7_hasCells_18 flX7_19 hyo rfl (hl) ?_
        refine st_iload_n hc dX7_hasCells_21 rfl rfl ?_
        refine st_isub hc dX7_hasCells_22 ?_
        refine st_t_icmp_gt (a := 1) (b := 0) hc dX7_hasCells_23 dX7_hasCells_26 dX7_hasCells_27 dX7_hasCells_30 (by decide) (by decide) ?_
        refine st_zret (st := []) hc dX7_hasCells_31 rfl (by first | exact Or.inl rfl | (split <;> simp)) ?_
        rw [e]
        exact ⟨rfl, rfl⟩
theorem i2c_eq (v : Int32) : (v.toUInt32 % 65536).toInt32 = v &&& 65535 := by
  apply Int32.toBitVec_inj.mp
  apply BitVec.eq_of_toNat_eq
  show v.toBitVec.toNat % 65536 = (v.toBitVec &&& (65535 : Int32).toBitVec).toNat
  rw [BitVec.toNat_and, show (65535 : Int32).toBitVec.toNat = 2 ^ 16 - 1 from rfl, Nat.and_two_pow_sub_one_eq_mod]
theorem C7_narrowed (d : Nat) (σ : St) {o cc h : Nat} (hs : shY o cc) (hh : σ o 1 = nI h) (h4 : h < 4) (v : Int32) : Mt YC mX7_narrowed d [.ref o, .int v] σ (fun r τ => r = some (.int (narw (nI h) v)) ∧ τ = σ) := by
  obtain ⟨hyo, hyc, hne, -, -⟩ := hs
  refine Mt.ofA [some (.ref o), some (.int v)] (by decide) (fun _ => Nat.le_of_ble_eq_true rfl) (fun _ => rfl) (fun g hc => ?_)
  refine st_aload_n hc dX7_narrowed_0 rfl rfl ?_
  refine st_getE hc dX7_narrowed_1 flX7_15 hyo rfl (hh) ?_
  rcases (show h = 0 ∨ h = 1 ∨ h = 2 ∨ h = 3 by omega) with rfl | rfl | rfl | rfl
  · refine st_lookup (off := 34) (tgt := 38) hc dX7_narrowed_4 (by decide) (by decide) (by decide) ?_
    refine st_iload_n hc dX7_narrowed_38 rfl rfl ?_
    refine st_i2s hc dX7_narrowed_39 ?_
    refine st_iret (st := []) hc dX7_narrowed_40 rfl ?_
    refine ⟨?_, rfl⟩
    unfold narw
    rw [if_neg (by decide), if_neg (by decide)]
  · refine st_lookup (off := 28) (tgt := 32) hc dX7_narrowed_4 (by decide) (by decide) (by decide) ?_
    refine st_iload_n hc dX7_narrowed_32 rfl rfl ?_
    refine st_i2b hc dX7_narrowed_33 ?_
    refine st_iret (st := []) hc dX7_narrowed_34 rfl ?_
    refine ⟨?_, rfl⟩
    unfold narw
    rw [if_pos (by decide)]
  · refine st_lookup (off := 31) (tgt := 35) hc dX7_narrowed_4 (by decide) (by decide) (by decide) ?_
    refine st_iload_n hc dX7_narrowed_35 rfl rfl ?_
    refine st_i2c hc dX7_narrowed_36 ?_
    refine st_iret (st := []) hc dX7_narrowed_37 rfl ?_
    refine ⟨?_, rfl⟩
    unfold narw
    rw [if_neg (by decide), if_pos (by decide), i2c_eq]
  · refine st_lookup (off := 34) (tgt := 38) hc dX7_narrowed_4 (by decide) (by decide) (by decide) ?_
    refine st_iload_n hc dX7_narrowed_38 rfl rfl ?_
    refine st_i2s hc dX7_narrowed_39 ?_
    refine st_iret (st := []) hc dX7_narrowed_40 rfl ?_
    refine ⟨?_, rfl⟩
    unfold narw
    rw [if_neg (by decide), if_neg (by decide)]
theorem C7_pegAt (d : Nat) (σ : St) {o cc i : Nat} (hs : shY o cc) (hi : i < 60) : Mt YC mX7_pegAt d [.ref o, .int (nI i)] σ (fun r τ => r = some (.int (if σ cc i = (if σ o 1 = 2 then 65535 else -1) then -1 else σ cc i)) ∧ τ = σ) := by
  obtain ⟨hyo, hyc, hne, -, -⟩ := hs
  refine Mt.ofA [some (.ref o), some (.int (nI i))] (by decide) (fun _ => Nat.le_of_ble_eq_true rfl) (fun _ => rfl) (fun g hc => ?_)
  refine st_aload_n hc dX7_pegAt_0 rfl rfl ?_
  refine st_getE hc dX7_pegAt_1 flX7_15 hyo rfl rfl ?_
  refine st_iconst (v := 2) hc dX7_pegAt_4 (by decide) ?_
  refine st_icmp_ne (tgt := 23) hc dX7_pegAt_5 (by decide) (fun h5 => ?_) (fun h5 => ?_)
  · refine st_aload_n hc dX7_pegAt_23 rfl rfl ?_
    refine st_getr hc dX7_pegAt_24 flX7_9 hyo rfl ?_
    refine st_iload_n hc dX7_pegAt_27 rfl rfl ?_
    refine st_ialdN (k := i) hc dX7_pegAt_28 hyc (rfl) (by omega) (by first | decide | omega) rfl ?_
    refine st_iret (st := []) hc dX7_pegAt_29 rfl ?_
    refine ⟨?_, rfl⟩
    first
     | (rw [if_pos h5]
        first
         | (rw [if_pos h16]; done)
         | (rw [if_neg h16]; done))
     | (rw [if_neg h5]
        by_cases e : σ cc i = -1
        · rw [if_pos e, e]
        · rw [if_neg e])
  · refine st_aload_n hc dX7_pegAt_8 rfl rfl ?_
    refine st_getr hc dX7_pegAt_9 flX7_9 hyo rfl ?_
    refine st_iload_n hc dX7_pegAt_12 rfl rfl ?_
    refine st_ialdN (k := i) hc dX7_pegAt_13 hyc (rfl) (by omega) (by first | decide | omega) rfl ?_
    refine st_ldc hc dX7_pegAt_14 kcX7_42 ?_
    refine st_icmp_ne (tgt := 23) hc dX7_pegAt_16 (by decide) (fun h16 => ?_) (fun h16 => ?_)
    · refine st_aload_n hc dX7_pegAt_23 rfl rfl ?_
      refine st_getr hc dX7_pegAt_24 flX7_9 hyo rfl ?_
      refine st_iload_n hc dX7_pegAt_27 rfl rfl ?_
      refine st_ialdN (k := i) hc dX7_pegAt_28 hyc (rfl) (by omega) (by first | decide | omega) rfl ?_
      refine st_iret (st := []) hc dX7_pegAt_29 rfl ?_
      refine ⟨?_, rfl⟩
      first
       | (rw [if_pos h5]
          first
           | (rw [if_pos h16]; done)
           | (rw [if_neg h16]; done))
       | (rw [if_neg h5]
          by_cases e : σ cc i = -1
          · rw [if_pos e, e]
          · rw [if_neg e])
    · refine st_iconst (v := (-1)) hc dX7_pegAt_19 (by decide) ?_
      refine st_goto (tgt := 29) hc dX7_pegAt_20 (by decide) ?_
      refine st_iret (st := []) hc dX7_pegAt_29 rfl ?_
      refine ⟨?_, rfl⟩
      first
       | (rw [if_pos h5]
          first
           | (rw [if_pos h16]; done)
           | (rw [if_neg h16]; done))
       | (rw [if_neg h5]
          by_cases e : σ cc i = -1
          · rw [if_pos e, e]
          · rw [if_neg e])
theorem C7_pegsSet (d : Nat) (σ : St) {o cc len : Nat} (hs : shY o cc) (hl : σ o 2 = nI len) (hl60 : len ≤ 60) : Mt YC mX7_pegsSet d [.ref o] σ (fun r τ => r = some (.int (nI (cnt len (fun i => !(σ cc i == -1))))) ∧ τ = σ) := by
  obtain ⟨hyo, hyc, hne, -, -⟩ := hs
  refine Mt.ofA [some (.ref o), none, none] (by decide) (fun _ => Nat.le_of_ble_eq_true rfl) (fun _ => rfl) (fun g hc => ?_)
  have k4 : aW g YC 3 (fun r τ => r = some (.int (nI (cnt len (fun i => !(σ cc i == -1))))) ∧ τ = σ) 4 [some (.ref o), some (.int (nI (cnt 0 (fun i => !(σ cc i == -1))))), some (.int (nI 0))] [] σ := by
    refine lpN (n := len) (F := fun k => aW g YC 3 (fun r τ => r = some (.int (nI (cnt len (fun i => !(σ cc i == -1))))) ∧ τ = σ) 4 [some (.ref o), some (.int (nI (cnt k (fun i => !(σ cc i == -1))))), some (.int (nI k))] [] σ) ?_ (fun k hk ih => ?_)
    · refine st_iload_n hc dX7_pegsSet_4 rfl rfl ?_
      refine st_aload_n hc dX7_pegsSet_5 rfl rfl ?_
      refine st_getE hc dX7_pegsSet_6 flX7_19 hyo rfl (hl) ?_
      refine st_icmp_ge (tgt := 31) hc dX7_pegsSet_9 (by decide) (fun h9 => ?_) (fun h9 => ?_)
      · refine st_iload_n hc dX7_pegsSet_31 rfl rfl ?_
        refine st_iret (st := []) hc dX7_pegsSet_32 rfl ?_
        exact ⟨rfl, rfl⟩
      · exact absurd (nI_le (Nat.le_refl _) (by omega)) h9
    · have hcs : cnt (k + 1) (fun i => !(σ cc i == -1)) = cnt k (fun i => !(σ cc i == -1)) + (if (!(σ cc k == -1)) = true then 1 else 0) := rfl
      refine st_iload_n hc dX7_pegsSet_4 rfl rfl ?_
      refine st_aload_n hc dX7_pegsSet_5 rfl rfl ?_
      refine st_getE hc dX7_pegsSet_6 flX7_19 hyo rfl (hl) ?_
      refine st_icmp_ge (tgt := 31) hc dX7_pegsSet_9 (by decide) (fun h9 => ?_) (fun h9 => ?_)
      · exact absurd h9 (nI_ge hk (by omega))
      · refine st_aload_n hc dX7_pegsSet_12 rfl rfl ?_
        refine st_getr hc dX7_pegsSet_13 flX7_9 hyo rfl ?_
        refine st_iload_n hc dX7_pegsSet_16 rfl rfl ?_
        refine st_ialdN (k := k) hc dX7_pegsSet_17 hyc (rfl) (by omega) (by first | decide | omega) rfl ?_
        refine st_iconst (v := (-1)) hc dX7_pegsSet_18 (by decide) ?_
        refine st_icmp_eq (tgt := 25) hc dX7_pegsSet_19 (by decide) (fun h19 => ?_) (fun h19 => ?_)
        · have e : cnt (k + 1) (fun i => !(σ cc i == -1)) = cnt k (fun i => !(σ cc i == -1)) := by rw [hcs, h19]; rfl
          rw [e] at ih
          refine st_inc hc dX7_pegsSet_25 rfl (by decide) rfl ?_
          rw [nI_1]
          refine st_goto (tgt := 4) hc dX7_pegsSet_28 (by decide) ?_
          exact ih
        · have e : cnt (k + 1) (fun i => !(σ cc i == -1)) = cnt k (fun i => !(σ cc i == -1)) + 1 := by rw [hcs, beq_false_of_ne h19]; rfl
          rw [e] at ih
          refine st_inc hc dX7_pegsSet_22 rfl (by decide) rfl ?_
          rw [nI_1]
          refine st_inc hc dX7_pegsSet_25 rfl (by decide) rfl ?_
          rw [nI_1]
          refine st_goto (tgt := 4) hc dX7_pegsSet_28 (by decide) ?_
          exact ih
  refine st_iconst (v := 0) hc dX7_pegsSet_0 (by decide) ?_
  refine st_istore_n hc dX7_pegsSet_1 rfl (by decide) rfl ?_
  refine st_iconst (v := 0) hc dX7_pegsSet_2 (by decide) ?_
  refine st_istore_n hc dX7_pegsSet_3 rfl (by decide) rfl ?_
  exact k4
def wgtS (s p len : Int32) : Int32 := if s = 0 then p else if s = 3 then p - (len - p) else if s = 1 then p + 10 else if s = 2 then 2 * (p + 10) else 2 * (p + 10) + 1
theorem C7_weight (d : Nat) (σ : St) {o cc len s : Nat} (hs : shY o cc) (hl : σ o 2 = nI len) (hl60 : len ≤ 60) (h3 : σ o 3 = nI s) (hs5 : s < 5) : Mt YC mX7_weight (d + 1) [.ref o] σ (fun r τ => r = some (.int (wgtS (nI s) (nI (cnt len (fun i => !(σ cc i == -1)))) (nI len))) ∧ τ = σ) := by
  obtain ⟨hyo, hyc, hne, -, -⟩ := id hs
  refine Mt.ofA [some (.ref o), none, none] (by decide) (fun _ => Nat.le_of_ble_eq_true rfl) (fun _ => rfl) (fun g hc => ?_)
  refine st_aload_n hc dX7_weight_0 rfl rfl ?_
  refine st_callVp hc dX7_weight_1 (C7_pegsSet d σ hs hl hl60) mvX7_43 (by omega) rfl hyo rfl (Nat.le_of_ble_eq_true rfl) ?_
  refine st_istore_n hc dX7_weight_4 rfl (by decide) rfl ?_
  refine st_iload_n hc dX7_weight_5 rfl rfl ?_
  refine st_bipush (v := 10) hc dX7_weight_6 (by decide) ?_
  refine st_iadd hc dX7_weight_8 ?_
  refine st_istore_n hc dX7_weight_9 rfl (by decide) rfl ?_
  refine st_aload_n hc dX7_weight_10 rfl rfl ?_
  refine st_getE hc dX7_weight_11 flX7_28 hyo rfl (h3) ?_
  rcases (show s = 0 ∨ s = 1 ∨ s = 2 ∨ s = 3 ∨ s = 4 by omega) with rfl | rfl | rfl | rfl | rfl
  · refine st_tableOut (tgt := 65) hc dX7_weight_14 (by decide) (by decide) ?_
    refine st_iload_n hc dX7_weight_65 rfl rfl ?_
    refine st_iret (st := []) hc dX7_weight_66 rfl ?_
    exact ⟨rfl, rfl⟩
  · refine st_tableIn (off := 30) (tgt := 44) hc dX7_weight_14 (by decide) (by decide) (by decide) (by decide) ?_
    refine st_iload_n hc dX7_weight_44 rfl rfl ?_
    refine st_iret (st := []) hc dX7_weight_45 rfl ?_
    exact ⟨rfl, rfl⟩
  · refine st_tableIn (off := 32) (tgt := 46) hc dX7_weight_14 (by decide) (by decide) (by decide) (by decide) ?_
    refine st_iconst (v := 2) hc dX7_weight_46 (by decide) ?_
    refine st_iload_n hc dX7_weight_47 rfl rfl ?_
    refine st_imul hc dX7_weight_48 ?_
    refine st_iret (st := []) hc dX7_weight_49 rfl ?_
    exact ⟨rfl, rfl⟩
  · refine st_tableIn (off := 36) (tgt := 50) hc dX7_weight_14 (by decide) (by decide) (by decide) (by decide) ?_
    refine st_iload_n hc dX7_weight_50 rfl rfl ?_
    refine st_aload_n hc dX7_weight_51 rfl rfl ?_
    refine st_getE hc dX7_weight_52 flX7_19 hyo rfl (hl) ?_
    refine st_iload_n hc dX7_weight_55 rfl rfl ?_
    refine st_isub hc dX7_weight_56 ?_
    refine st_isub hc dX7_weight_57 ?_
    refine st_iret (st := []) hc dX7_weight_58 rfl ?_
    exact ⟨rfl, rfl⟩
  · refine st_tableIn (off := 45) (tgt := 59) hc dX7_weight_14 (by decide) (by decide) (by decide) (by decide) ?_
    refine st_iconst (v := 2) hc dX7_weight_59 (by decide) ?_
    refine st_iload_n hc dX7_weight_60 rfl rfl ?_
    refine st_imul hc dX7_weight_61 ?_
    refine st_iconst (v := 1) hc dX7_weight_62 (by decide) ?_
    refine st_iadd hc dX7_weight_63 ?_
    refine st_iret (st := []) hc dX7_weight_64 rfl ?_
    exact ⟨rfl, rfl⟩
theorem C7_rank (d : Nat) (σ : St) {o cc s : Nat} (hs : shY o cc) (h3 : σ o 3 = nI s) (hs5 : s < 5) : Mt YC mX7_rank d [.ref o] σ (fun r τ => r = some (.int (if nI s = 0 then 1 else if nI s = 3 then 0 else if nI s = 4 then 7 else 2)) ∧ τ = σ) := by
  obtain ⟨hyo, hyc, hne, -, -⟩ := id hs
  refine Mt.ofA [some (.ref o)] (by decide) (fun _ => Nat.le_of_ble_eq_true rfl) (fun _ => rfl) (fun g hc => ?_)
  refine st_aload_n hc dX7_rank_0 rfl rfl ?_
  refine st_getE hc dX7_rank_1 flX7_28 hyo rfl (h3) ?_
  rcases (show s = 0 ∨ s = 1 ∨ s = 2 ∨ s = 3 ∨ s = 4 by omega) with rfl | rfl | rfl | rfl | rfl
  · refine st_tableOut (tgt := 45) hc dX7_rank_4 (by decide) (by decide) ?_
    refine st_iconst (v := 1) hc dX7_rank_45 (by decide) ?_
    refine st_iret (st := []) hc dX7_rank_46 rfl ?_
    exact ⟨rfl, rfl⟩
  · refine st_tableIn (off := 32) (tgt := 36) hc dX7_rank_4 (by decide) (by decide) (by decide) (by decide) ?_
    refine st_iconst (v := 2) hc dX7_rank_36 (by decide) ?_
    refine st_iret (st := []) hc dX7_rank_37 rfl ?_
    exact ⟨rfl, rfl⟩
  · refine st_tableIn (off := 34) (tgt := 38) hc dX7_rank_4 (by decide) (by decide) (by decide) (by decide) ?_
    refine st_iconst (v := 2) hc dX7_rank_38 (by decide) ?_
    refine st_iret (st := []) hc dX7_rank_39 rfl ?_
    exact ⟨rfl, rfl⟩
  · refine st_tableIn (off := 36) (tgt := 40) hc dX7_rank_4 (by decide) (by decide) (by decide) (by decide) ?_
    refine st_iconst (v := 0) hc dX7_rank_40 (by decide) ?_
    refine st_iret (st := []) hc dX7_rank_41 rfl ?_
    exact ⟨rfl, rfl⟩
  · refine st_tableIn (off := 38) (tgt := 42) hc dX7_rank_4 (by decide) (by decide) (by decide) (by decide) ?_
    refine st_bipush (v := 7) hc dX7_rank_42 (by decide) ?_
    refine st_iret (st := []) hc dX7_rank_44 rfl ?_
    exact ⟨rfl, rfl⟩
/-- a node comes to the tree -/
def tnP (σ : St) (n : Nat) (x1 x2 x3 x4 x5 : Int32) (τ : St) : Prop := τ = up (up (up (up (up (up σ 47 n x1) 48 n x2) 49 n x3) 50 n x4) 51 n x5) 46 5 (nI (n + 1))
theorem C9_add (d : Nat) (σ : St) {n : Nat} (hn : σ 46 5 = nI n) (hn20 : n < 20) (x1 x2 x3 x4 x5 : Int32) (h2 : (x2 < 0 ∧ x5 = 1) ∨ ∃ q, x2 = nI q ∧ q < n ∧ x5 = σ 51 q + 1) : Mt YC mX9_add d [.ref 46, .int x1, .int x2, .int x3, .int x4] σ (fun r τ => r = none ∧ tnP σ n x1 x2 x3 x4 x5 τ) := by
  refine Mt.ofA [some (.ref 46), some (.int x1), some (.int x2), some (.int x3), some (.int x4)] (by decide) (fun _ => Nat.le_of_ble_eq_true rfl) (fun _ => rfl) (fun g hc => ?_)
  refine st_aload_n hc dX9_add_0 rfl rfl ?_
  refine st_getE hc dX9_add_1 flX9_27 rfl rfl ((by simp [up_eq, hn] : _ = nI n)) ?_
  refine st_bipush (v := 20) hc dX9_add_4 (by decide) ?_
  refine st_icmp_lt (tgt := 10) hc dX9_add_6 (by decide) (fun h6 => ?_) (fun h6 => ?_)
  · refine st_aload_n hc dX9_add_10 rfl rfl ?_
    refine st_getr hc dX9_add_11 flX9_9 rfl rfl ?_
    refine st_aload_n hc dX9_add_14 rfl rfl ?_
    refine st_getE hc dX9_add_15 flX9_27 rfl rfl ((by simp [up_eq, hn] : _ = nI n)) ?_
    refine st_iload_n hc dX9_add_18 rfl rfl ?_
    refine st_iastN (k := n) hc dX9_add_19 rfl (rfl) (by omega) (by first | decide | omega)  ?_
    refine st_aload_n hc dX9_add_20 rfl rfl ?_
    refine st_getr hc dX9_add_21 flX9_15 rfl rfl ?_
    refine st_aload_n hc dX9_add_24 rfl rfl ?_
    refine st_getE hc dX9_add_25 flX9_27 rfl rfl ((by simp [up_eq, hn] : _ = nI n)) ?_
    refine st_iload_n hc dX9_add_28 rfl rfl ?_
    refine st_iastN (k := n) hc dX9_add_29 rfl (rfl) (by omega) (by first | decide | omega)  ?_
    refine st_aload_n hc dX9_add_30 rfl rfl ?_
    refine st_getr hc dX9_add_31 flX9_18 rfl rfl ?_
    refine st_aload_n hc dX9_add_34 rfl rfl ?_
    refine st_getE hc dX9_add_35 flX9_27 rfl rfl ((by simp [up_eq, hn] : _ = nI n)) ?_
    refine st_iload_n hc dX9_add_38 rfl rfl ?_
    refine st_iastN (k := n) hc dX9_add_39 rfl (rfl) (by omega) (by first | decide | omega)  ?_
    refine st_aload_n hc dX9_add_40 rfl rfl ?_
    refine st_getr hc dX9_add_41 flX9_21 rfl rfl ?_
    refine st_aload_n hc dX9_add_44 rfl rfl ?_
    refine st_getE hc dX9_add_45 flX9_27 rfl rfl ((by simp [up_eq, hn] : _ = nI n)) ?_
    refine st_iload hc dX9_add_48 rfl ?_
    refine st_iastN (k := n) hc dX9_add_50 rfl (rfl) (by omega) (by first | decide | omega)  ?_
    refine st_aload_n hc dX9_add_51 rfl rfl ?_
    refine st_getr hc dX9_add_52 flX9_24 rfl rfl ?_
    refine st_aload_n hc dX9_add_55 rfl rfl ?_
    refine st_getE hc dX9_add_56 flX9_27 rfl rfl ((by simp [up_eq, hn] : _ = nI n)) ?_
    refine st_iload_n hc dX9_add_59 rfl rfl ?_
    refine st_if_ge (tgt := 67) hc dX9_add_60 (by decide) (fun h60 => ?_) (fun h60 => ?_)
    · rcases h2 with ⟨q1, -⟩ | ⟨q, q1, q2, q3⟩
      · exact absurd h60 (Int32.not_le.mpr q1)
      refine st_aload_n hc dX9_add_67 rfl rfl ?_
      refine st_getr hc dX9_add_68 flX9_24 rfl rfl ?_
      refine st_iload_n hc dX9_add_71 rfl rfl ?_
      refine st_ialdN (k := q) hc dX9_add_72 rfl (q1) (by omega) (by first | decide | omega) ((by simp [up_eq] : _ = σ 51 q)) ?_
      refine st_iconst (v := 1) hc dX9_add_73 (by decide) ?_
      refine st_iadd hc dX9_add_74 ?_
      refine st_iastN (k := n) hc dX9_add_75 rfl (rfl) (by omega) (by first | decide | omega)  ?_
      refine st_aload_n hc dX9_add_76 rfl rfl ?_
      refine st_dup hc dX9_add_77 rfl ?_
      refine st_getE hc dX9_add_78 flX9_27 rfl rfl ((by simp [up_eq, hn] : _ = nI n)) ?_
      refine st_iconst (v := 1) hc dX9_add_81 (by decide) ?_
      refine st_iadd hc dX9_add_82 ?_
      rw [nI_1]
      refine st_put hc dX9_add_83 fpX9_27 rfl rfl  ?_
      refine st_vret (st := []) hc dX9_add_86 rfl ?_
      rw [q3]
      exact ⟨rfl, rfl⟩
    · have q3 : x5 = 1 := by
        rcases h2 with ⟨-, q⟩ | ⟨q, q1, q2, -⟩
        · exact q
        · rw [q1] at h60; exact absurd (Int32.not_lt.mp (nI_pos (by omega))) h60
      refine st_iconst (v := 1) hc dX9_add_63 (by decide) ?_
      refine st_goto (tgt := 75) hc dX9_add_64 (by decide) ?_
      refine st_iastN (k := n) hc dX9_add_75 rfl (rfl) (by omega) (by first | decide | omega)  ?_
      refine st_aload_n hc dX9_add_76 rfl rfl ?_
      refine st_dup hc dX9_add_77 rfl ?_
      refine st_getE hc dX9_add_78 flX9_27 rfl rfl ((by simp [up_eq, hn] : _ = nI n)) ?_
      refine st_iconst (v := 1) hc dX9_add_81 (by decide) ?_
      refine st_iadd hc dX9_add_82 ?_
      rw [nI_1]
      refine st_put hc dX9_add_83 fpX9_27 rfl rfl  ?_
      refine st_vret (st := []) hc dX9_add_86 rfl ?_
      rw [q3]
      exact ⟨rfl, rfl⟩
  · exact absurd ((nI_ltI (a := n) (b := 20) (by omega) (by decide)).mpr hn20) h6

