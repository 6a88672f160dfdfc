/-! ===== the class: leaves ===== -/
theorem CJ_fill {Y : List Sh} (d : Nat) (σ : St) {a n : Nat} {rs : List Nat} (hy : Y[a]? = some (.inl (0, n, rs))) (hn : n < 2 ^ 31) (x : Int32) : Mt Y mJ7_fill_53178 d [.ref a, .int x] σ (fun r τ => r = none ∧ τ = va_up σ a (clr n x (σ a))) := by
  refine Mt.ofA [some (.ref a), some (.int x), none, none] (by decide) (fun _ => Nat.le_of_ble_eq_true rfl) (fun _ => rfl) (fun g hc => ?_)
  have k5 : aW g Y 4 (fun r τ => r = none ∧ τ = va_up σ a (clr n x (σ a))) 5 [some (.ref a), some (.int x), some (.int (nI 0)), some (.int (nI n))] [] σ := by
    have h9 : aW g Y 4 (fun r τ => r = none ∧ τ = va_up σ a (clr n x (σ a))) 5 [some (.ref a), some (.int x), some (.int (nI 0)), some (.int (nI n))] [] (va_up σ a (clr 0 x (σ a))) := by
      refine lpN (n := n) (F := fun i => aW g Y 4 (fun r τ => r = none ∧ τ = va_up σ a (clr n x (σ a))) 5 [some (.ref a), some (.int x), some (.int (nI i)), some (.int (nI n))] [] (va_up σ a (clr i x (σ a)))) ?_ (fun i hi ih => ?_)
      · refine st_iload_n hc dJ7_fill_53178_5 rfl rfl ?_
        refine st_iload_n hc dJ7_fill_53178_6 rfl rfl ?_
        refine st_icmp_ge (tgt := 20) hc dJ7_fill_53178_7 (by decide) (fun h7 => ?_) (fun h7 => ?_)
        · refine st_vret (st := []) hc dJ7_fill_53178_20 rfl ?_
          exact ⟨rfl, rfl⟩
        · exact absurd (nI_le (Nat.le_refl _) hn) h7
      · refine st_iload_n hc dJ7_fill_53178_5 rfl rfl ?_
        refine st_iload_n hc dJ7_fill_53178_6 rfl rfl ?_
        refine st_icmp_ge (tgt := 20) hc dJ7_fill_53178_7 (by decide) (fun h7 => ?_) (fun h7 => ?_)
        · exact absurd h7 (nI_ge hi hn)
        · refine st_aload_n hc dJ7_fill_53178_10 rfl rfl ?_
          refine st_iload_n hc dJ7_fill_53178_11 rfl rfl ?_
          refine st_iload_n hc dJ7_fill_53178_12 rfl rfl ?_
          refine st_iastN (k := i) hc dJ7_fill_53178_13 hy (rfl) (hi) (by first | decide | omega)  ?_
          rw [vu_up, clr_s]
          refine st_inc hc dJ7_fill_53178_14 rfl (by decide) rfl ?_
          rw [nI_1]
          refine st_goto (tgt := 5) hc dJ7_fill_53178_17 (by decide) ?_
          exact ih
    rw [clr_0, vu_id] at h9
    exact h9
  refine st_iconst (v := 0) hc dJ7_fill_53178_0 (by decide) ?_
  refine st_istore_n hc dJ7_fill_53178_1 rfl (by decide) rfl ?_
  refine st_aload_n hc dJ7_fill_53178_2 rfl rfl ?_
  refine st_alen hc dJ7_fill_53178_3 hy (by decide) rfl ?_
  refine st_istore_n hc dJ7_fill_53178_4 rfl (by decide) rfl ?_
  exact k5
/-- a Guess: its object, its pegs -/
def gsY (o pg : Nat) : Prop := YC[o]? = some (.inr (2, [some pg, none, none])) ∧ YC[pg]? = some (.inl (0, 5, [])) ∧ o ≠ pg
theorem gs5 : gsY 5 6 := ⟨rfl, rfl, by decide⟩
theorem gs17 : gsY 17 18 := ⟨rfl, rfl, by decide⟩
theorem C2_fillWith (d : Nat) (σ : St) {o pg : Nat} (hg : gsY o pg) (x : Int32) : Mt YC mX2_fillWith (d + 1) [.ref o, .int x] σ (fun r τ => r = none ∧ τ = va_up σ pg (clr 5 x (σ pg))) := by
  obtain ⟨hyo, hyp, hne⟩ := hg
  refine Mt.ofA [some (.ref o), some (.int x)] (by decide) (fun _ => Nat.le_of_ble_eq_true rfl) (fun _ => rfl) (fun g hc => ?_)
  refine st_aload_n hc dX2_fillWith_0 rfl rfl ?_
  refine st_getr hc dX2_fillWith_1 flX2_9 hyo rfl ?_
  refine st_iload_n hc dX2_fillWith_4 rfl rfl ?_
  refine st_callSn hc dX2_fillWith_5 (CJ_fill d σ hyp (by decide) x) msX2_15 (by omega) rfl rfl (Nat.le_of_ble_eq_true rfl) ?_
  rintro τ rfl
  refine st_vret (st := []) hc dX2_fillWith_8 rfl ?_
  exact ⟨rfl, rfl⟩
theorem C2_measure (d : Nat) (σ : St) {o pg : Nat} (hg : gsY o pg) {P C : Nat} (hz : szOK P C) (hr : rowOK P C (σ pg)) : Mt YC mX2_measure d [.ref o, .int (nI P), .int (nI C)] σ (fun r τ => r = none ∧ τ = up (up σ o 1 (nI (spotsN P C (σ pg)))) o 2 (nI (sharesN P C (σ pg)))) := by
  obtain ⟨hyo, hyp, hne⟩ := hg
  obtain ⟨h1, h2, h3, h4, h5⟩ := id hz
  refine Mt.ofA [some (.ref o), some (.int (nI P)), some (.int (nI C)), none, none, none, none, none, none] (by decide) (fun _ => Nat.le_of_ble_eq_true rfl) (fun _ => rfl) (fun g hc => ?_)
  have k15 : aW g YC 9 (fun r τ => r = none ∧ τ = up (up σ o 1 (nI (spotsN P C (σ pg)))) o 2 (nI (sharesN P C (σ pg)))) 15 [some (.ref o), some (.int (nI P)), some (.int (nI C)), some (.int (nI (2 ^ P - 1))), some (.int (nI (spI C 0 (σ pg)))), some (.int (nI (shI P C 0 (σ pg)))), some (.int (nI 0)), none, none] [] σ := by
    refine lpN (n := P) (F := fun i => aW g YC 9 (fun r τ => r = none ∧ τ = up (up σ o 1 (nI (spotsN P C (σ pg)))) o 2 (nI (sharesN P C (σ pg)))) 15 [some (.ref o), some (.int (nI P)), some (.int (nI C)), some (.int (nI (2 ^ P - 1))), some (.int (nI (spI C i (σ pg)))), some (.int (nI (shI P C i (σ pg)))), some (.int (nI i)), none, none] [] σ) ?_ (fun i hi ih => ?_)
    · refine st_iload hc dX2_measure_15 rfl ?_
      refine st_iload_n hc dX2_measure_17 rfl rfl ?_
      refine st_icmp_ge (tgt := 81) hc dX2_measure_18 (by decide) (fun h18 => ?_) (fun h18 => ?_)
      · refine st_aload_n hc dX2_measure_81 rfl rfl ?_
        refine st_iload hc dX2_measure_82 rfl ?_
        refine st_put hc dX2_measure_84 fpX2_21 hyo rfl  ?_
        refine st_aload_n hc dX2_measure_87 rfl rfl ?_
        refine st_iload hc dX2_measure_88 rfl ?_
        refine st_put hc dX2_measure_90 fpX2_25 hyo rfl  ?_
        refine st_vret (st := []) hc dX2_measure_93 rfl ?_
        exact ⟨rfl, rfl⟩
      · exact absurd (nI_le (Nat.le_refl _) (by omega)) h18
    · refine st_iload hc dX2_measure_15 rfl ?_
      refine st_iload_n hc dX2_measure_17 rfl rfl ?_
      refine st_icmp_ge (tgt := 81) hc dX2_measure_18 (by decide) (fun h18 => ?_) (fun h18 => ?_)
      · exact absurd h18 (nI_ge hi (by omega))
      · refine st_aload_n hc dX2_measure_21 rfl rfl ?_
        refine st_getr hc dX2_measure_22 flX2_9 hyo rfl ?_
        refine st_iload hc dX2_measure_25 rfl ?_
        refine st_ialdN (k := i) hc dX2_measure_27 hyp (rfl) (by omega) (by first | decide | omega) rfl ?_
        refine st_istore hc dX2_measure_28 (by decide) rfl ?_
        refine st_iload hc dX2_measure_30 rfl ?_
        refine st_iconst (v := (-1)) hc dX2_measure_32 (by decide) ?_
        refine st_icmp_eq (tgt := 75) hc dX2_measure_33 (by decide) (fun h33 => ?_) (fun h33 => ?_)
        · rw [← sp_blank h3 h4 h33, ← sh_blank h1 h4 h2 h33]
          refine st_inc hc dX2_measure_75 rfl (by decide) rfl ?_
          rw [nI_1]
          refine st_goto (tgt := 15) hc dX2_measure_78 (by decide) ?_
          exact st_lvq _ (by simp [lvq, List.set]) ih
        · rcases hr i hi with q | ⟨q1, q2⟩
          · exact absurd q h33
          have ec := (nI_nat q1).symm
          generalize hcc : nat (σ pg i) = cc at *
          have hb : i * C + cc < 32 := by
            have : (i + 1) * C ≤ P * C := Nat.mul_le_mul_right C hi
            rw [Nat.succ_mul] at this
            omega
          have hb2 : cc * P + P ≤ 32 := by
            have : (cc + 1) * P ≤ C * P := Nat.mul_le_mul_right P q2
            rw [Nat.succ_mul, Nat.mul_comm C P] at this
            omega
          obtain ⟨g1, g2⟩ := sh_step hz hi q2 ec
          have hpw : (2 ^ P - 1) * 2 ^ (cc * P) < 2 ^ 32 := by
            have e1 : (2 ^ P - 1) * 2 ^ (cc * P) < 2 ^ P * 2 ^ (cc * P) := Nat.mul_lt_mul_of_pos_right (Nat.sub_lt (Nat.pow_pos (by decide)) (by decide)) (Nat.pow_pos (by decide))
            rw [← Nat.pow_add] at e1
            exact Nat.lt_of_lt_of_le e1 (Nat.pow_le_pow_right (by decide) (by omega))
          rw [ec]
          refine st_iload hc dX2_measure_36 rfl ?_
          refine st_iload_n hc dX2_measure_38 rfl rfl ?_
          refine st_imul hc dX2_measure_39 ?_
          rw [pk_mul]
          refine st_istore hc dX2_measure_40 (by decide) rfl ?_
          refine st_iload hc dX2_measure_42 rfl ?_
          refine st_iconst (v := 1) hc dX2_measure_44 (by decide) ?_
          refine st_iload hc dX2_measure_45 rfl ?_
          refine st_iload_n hc dX2_measure_47 rfl rfl ?_
          refine st_imul hc dX2_measure_48 ?_
          refine st_iload hc dX2_measure_49 rfl ?_
          refine st_iadd hc dX2_measure_51 ?_
          refine st_ishl hc dX2_measure_52 ?_
          rw [pk_mul, nI_add, nI_shl1 hb]
          refine st_ior hc dX2_measure_53 ?_
          rw [nI_or, sp_step q2 h4 hb ec]
          refine st_istore hc dX2_measure_54 (by decide) rfl ?_
          refine st_iload hc dX2_measure_56 rfl ?_
          refine st_iload hc dX2_measure_58 rfl ?_
          refine st_iload_n hc dX2_measure_60 rfl rfl ?_
          refine st_iload hc dX2_measure_61 rfl ?_
          refine st_ishl hc dX2_measure_63 ?_
          rw [nI_shl (by omega) hpw]
          refine st_iand hc dX2_measure_64 ?_
          rw [nI_and]
          refine st_iconst (v := 1) hc dX2_measure_65 (by decide) ?_
          refine st_ishl hc dX2_measure_66 ?_
          rw [show (1 : Int32) &&& 31 = nI 1 &&& 31 from rfl, nI_shl (k := 1) (by decide) (by rw [Nat.pow_one]; exact g1), Nat.pow_one]
          refine st_iconst (v := 1) hc dX2_measure_67 (by decide) ?_
          refine st_iload hc dX2_measure_68 rfl ?_
          refine st_ishl hc dX2_measure_70 ?_
          rw [nI_shl1 (by omega)]
          refine st_ior hc dX2_measure_71 ?_
          rw [nI_or]
          refine st_ior hc dX2_measure_72 ?_
          rw [nI_or, g2]
          refine st_istore hc dX2_measure_73 (by decide) rfl ?_
          refine st_inc hc dX2_measure_75 rfl (by decide) rfl ?_
          rw [nI_1]
          refine st_goto (tgt := 15) hc dX2_measure_78 (by decide) ?_
          exact st_lvq _ (by simp [lvq, List.set]) ih
  rw [sp_0, sh_0] at k15
  refine st_iconst (v := 1) hc dX2_measure_0 (by decide) ?_
  refine st_iload_n hc dX2_measure_1 rfl rfl ?_
  refine st_ishl hc dX2_measure_2 ?_
  rw [nI_shl1 (by omega)]
  refine st_iconst (v := 1) hc dX2_measure_3 (by decide) ?_
  refine st_isub hc dX2_measure_4 ?_
  rw [show (1 : Int32) = nI 1 from rfl, nI_sub (Nat.pow_pos (by decide))]
  refine st_istore_n hc dX2_measure_5 rfl (by decide) rfl ?_
  refine st_iconst (v := 0) hc dX2_measure_6 (by decide) ?_
  refine st_istore hc dX2_measure_7 (by decide) rfl ?_
  refine st_iconst (v := 0) hc dX2_measure_9 (by decide) ?_
  refine st_istore hc dX2_measure_10 (by decide) rfl ?_
  refine st_iconst (v := 0) hc dX2_measure_12 (by decide) ?_
  refine st_istore hc dX2_measure_13 (by decide) rfl ?_
  exact k15
theorem C2_packed (d : Nat) (σ : St) {o pg : Nat} (hg : gsY o pg) {P : Nat} (hP : P ≤ 5) (hr : ∀ i, i < P → 0 ≤ σ pg i ∧ nat (σ pg i) < 8) : Mt YC mX2_packed d [.ref o, .int (nI P)] σ (fun r τ => r = some (.int (nI (pkI P (σ pg)))) ∧ τ = σ) := by
  obtain ⟨hyo, hyp, hne⟩ := hg
  refine Mt.ofA [some (.ref o), some (.int (nI P)), none, none] (by decide) (fun _ => Nat.le_of_ble_eq_true rfl) (fun _ => rfl) (fun g hc => ?_)
  have k4 : aW g YC 4 (fun r τ => r = some (.int (nI (pkI P (σ pg)))) ∧ τ = σ) 4 [some (.ref o), some (.int (nI P)), some (.int (nI (pkI 0 (σ pg)))), some (.int (nI 0))] [] σ := by
    refine lpN (n := P) (F := fun i => aW g YC 4 (fun r τ => r = some (.int (nI (pkI P (σ pg)))) ∧ τ = σ) 4 [some (.ref o), some (.int (nI P)), some (.int (nI (pkI i (σ pg)))), some (.int (nI i))] [] σ) ?_ (fun i hi ih => ?_)
    · refine st_iload_n hc dX2_packed_4 rfl rfl ?_
      refine st_iload_n hc dX2_packed_5 rfl rfl ?_
      refine st_icmp_ge (tgt := 28) hc dX2_packed_6 (by decide) (fun h6 => ?_) (fun h6 => ?_)
      · refine st_iload_n hc dX2_packed_28 rfl rfl ?_
        refine st_iret (st := []) hc dX2_packed_29 rfl ?_
        exact ⟨rfl, rfl⟩
      · exact absurd (nI_le (Nat.le_refl _) (by omega)) h6
    · obtain ⟨q1, q2⟩ := hr i hi
      have ec := (nI_nat q1).symm
      have hpw : nat (σ pg i) * 2 ^ (3 * i) < 2 ^ 32 := by
        have e1 : nat (σ pg i) * 2 ^ (3 * i) < 2 ^ 3 * 2 ^ (3 * i) := Nat.mul_lt_mul_of_pos_right q2 (Nat.pow_pos (by decide))
        rw [← Nat.pow_add] at e1
        exact Nat.lt_of_lt_of_le e1 (Nat.pow_le_pow_right (by decide) (by omega))
      refine st_iload_n hc dX2_packed_4 rfl rfl ?_
      refine st_iload_n hc dX2_packed_5 rfl rfl ?_
      refine st_icmp_ge (tgt := 28) hc dX2_packed_6 (by decide) (fun h6 => ?_) (fun h6 => ?_)
      · exact absurd h6 (nI_ge hi (by omega))
      · refine st_iload_n hc dX2_packed_9 rfl rfl ?_
        refine st_aload_n hc dX2_packed_10 rfl rfl ?_
        refine st_getr hc dX2_packed_11 flX2_9 hyo rfl ?_
        refine st_iload_n hc dX2_packed_14 rfl rfl ?_
        refine st_ialdN (k := i) hc dX2_packed_15 hyp (rfl) (by omega) (by first | decide | omega) (ec) ?_
        refine st_iconst (v := 3) hc dX2_packed_16 (by decide) ?_
        refine st_iload_n hc dX2_packed_17 rfl rfl ?_
        refine st_imul hc dX2_packed_18 ?_
        rw [show (3 : Int32) = nI 3 from rfl, pk_mul]
        refine st_ishl hc dX2_packed_19 ?_
        rw [nI_shl (by omega) hpw]
        refine st_ior hc dX2_packed_20 ?_
        rw [nI_or, pk_step (by omega) q2 rfl]
        refine st_istore_n hc dX2_packed_21 rfl (by decide) rfl ?_
        refine st_inc hc dX2_packed_22 rfl (by decide) rfl ?_
        rw [nI_1]
        refine st_goto (tgt := 4) hc dX2_packed_25 (by decide) ?_
        exact ih
  rw [pk_0] at k4
  refine st_iconst (v := 0) hc dX2_packed_0 (by decide) ?_
  refine st_istore_n hc dX2_packed_1 rfl (by decide) rfl ?_
  refine st_iconst (v := 0) hc dX2_packed_2 (by decide) ?_
  refine st_istore_n hc dX2_packed_3 rfl (by decide) rfl ?_
  exact k4
theorem C2_stepOn (d : Nat) (σ : St) {o pg : Nat} (hg : gsY o pg) {P C code : Nat} (hz : szOK P C) (hr : ∀ i, i < P → σ pg i = nI (pegOf P C code i)) : Mt YC mX2_stepOn d [.ref o, .int (nI P), .int (nI C)] σ (fun r τ => r = none ∧ ∃ w, (∀ i, i < P → w i = nI (pegOf P C (code + 1) i)) ∧ τ = va_up σ pg w) := by
  obtain ⟨hyo, hyp, hne⟩ := hg
  obtain ⟨h1, h2, h3, h4, h5⟩ := id hz
  refine Mt.ofA [some (.ref o), some (.int (nI P)), some (.int (nI C)), none] (by decide) (fun _ => Nat.le_of_ble_eq_true rfl) (fun _ => rfl) (fun g hc => ?_)
  have k4 : ∀ n w, n ≤ P → C ^ (P - n) ∣ code + 1 → (∀ j, j < n → w j = nI (pegOf P C code j)) → (∀ j, n ≤ j → j < P → w j = nI (pegOf P C (code + 1) j)) → aW g YC 4 (fun r τ => r = none ∧ ∃ w, (∀ i, i < P → w i = nI (pegOf P C (code + 1) i)) ∧ τ = va_up σ pg w) 4 [some (.ref o), some (.int (nI P)), some (.int (nI C)), some (.int (nI n - 1))] [] (va_up σ pg w) := by
    intro n
    induction n with
    | zero =>
      intro w _ _ _ hw2
      refine st_iload_n hc dX2_stepOn_4 rfl rfl ?_
      refine st_if_lt (tgt := 42) hc dX2_stepOn_5 (by decide) (fun h5 => ?_) (fun h5 => ?_)
      · refine st_vret (st := []) hc dX2_stepOn_42 rfl ?_
        exact ⟨rfl, w, fun i hi => hw2 i (Nat.zero_le _) hi, rfl⟩
      · exact absurd (show nI 0 - 1 < 0 by decide) h5
    | succ n ih =>
      intro w hn hd hw1 hw2
      rw [nI_pred]
      obtain ⟨a1, a2, a3⟩ := peg_next (P := P) (C := C) (code := code) (i := n) h3 (by omega) (by rw [show P - 1 - n = P - (n + 1) by omega]; exact hd)
      have hpl : pegOf P C code n < C := pegOf_lt h3 code n
      refine st_iload_n hc dX2_stepOn_4 rfl rfl ?_
      refine st_if_lt (tgt := 42) hc dX2_stepOn_5 (by decide) (fun h5 => ?_) (fun h5 => ?_)
      · exact absurd h5 (nI_pos (by omega))
      · refine st_aload_n hc dX2_stepOn_8 rfl rfl ?_
        refine st_getr hc dX2_stepOn_9 flX2_9 hyo rfl ?_
        refine st_iload_n hc dX2_stepOn_12 rfl rfl ?_
        refine st_dup2 hc dX2_stepOn_13 rfl rfl ?_
        refine st_ialdN (k := n) hc dX2_stepOn_14 hyp (rfl) (by omega) (by first | decide | omega) ((by rw [vu_s]; exact hw1 n (by omega) : va_up σ pg w pg n = nI (pegOf P C code n))) ?_
        refine st_iconst (v := 1) hc dX2_stepOn_15 (by decide) ?_
        refine st_iadd hc dX2_stepOn_16 ?_
        rw [nI_1]
        refine st_iastN (k := n) hc dX2_stepOn_17 hyp (rfl) (by omega) (by first | decide | omega)  ?_
        rw [vu_up]
        refine st_aload_n hc dX2_stepOn_18 rfl rfl ?_
        refine st_getr hc dX2_stepOn_19 flX2_9 hyo rfl ?_
        refine st_iload_n hc dX2_stepOn_22 rfl rfl ?_
        refine st_ialdN (k := n) hc dX2_stepOn_23 hyp (rfl) (by omega) (by first | decide | omega) (by rw [vu_s, upd_s]) ?_
        refine st_iload_n hc dX2_stepOn_24 rfl rfl ?_
        refine st_icmp_ge (tgt := 29) hc dX2_stepOn_25 (by decide) (fun h25 => ?_) (fun h25 => ?_)
        · have h25 : ¬ pegOf P C code n + 1 < C := fun q => absurd h25 (nI_ge q (by omega))
          refine st_aload_n hc dX2_stepOn_29 rfl rfl ?_
          refine st_getr hc dX2_stepOn_30 flX2_9 hyo rfl ?_
          refine st_iload_n hc dX2_stepOn_33 rfl rfl ?_
          refine st_iconst (v := 0) hc dX2_stepOn_34 (by decide) ?_
          refine st_iastN (k := n) hc dX2_stepOn_35 hyp (rfl) (by omega) (by first | decide | omega)  ?_
          rw [vu_up, upd_upd]
          refine st_dec hc dX2_stepOn_36 rfl (by decide) rfl ?_
          refine st_goto (tgt := 4) hc dX2_stepOn_39 (by decide) ?_
          obtain ⟨b1, b2⟩ := a3 h25
          refine ih _ (by omega) b2 (fun j hj => ?_) (fun j hj hj2 => ?_)
          · rw [upd_n (by omega)]; exact hw1 j (by omega)
          · by_cases e : j = n
            · subst e; rw [upd_s, b1]; rfl
            · rw [upd_n e]; exact hw2 j (by omega) hj2
        · have h25 : pegOf P C code n + 1 < C := Nat.lt_of_not_le (fun q => h25 (nI_le q (by omega)))
          refine st_vret (st := []) hc dX2_stepOn_28 rfl ?_
          obtain ⟨b1, b2⟩ := a2 h25
          refine ⟨rfl, _, fun i hi => ?_, rfl⟩
          by_cases e : i = n
          · subst e; rw [upd_s, b1]
          · rw [upd_n e]
            by_cases e2 : i < n
            · rw [hw1 i (by omega), b2 i e2]
            · exact hw2 i (by omega) hi
  have h9 := k4 P (σ pg) (Nat.le_refl _) (by rw [Nat.sub_self]; exact Nat.one_dvd _) hr (fun j a b => by omega)
  rw [vu_id] at h9
  refine st_iload_n hc dX2_stepOn_0 rfl rfl ?_
  refine st_iconst (v := 1) hc dX2_stepOn_1 (by decide) ?_
  refine st_isub hc dX2_stepOn_2 ?_
  refine st_istore_n hc dX2_stepOn_3 rfl (by decide) rfl ?_
  exact h9
theorem C0_codesOf (d : Nat) (σ : St) {P C : Nat} (hP : P ≤ 5) (hC : C ≤ 8) : Mt YC mX0_codesOf d [.int (nI P), .int (nI C)] σ (fun r τ => r = some (.int (nI (C ^ P))) ∧ τ = σ) := by
  refine Mt.ofA [some (.int (nI P)), some (.int (nI C)), none, none] (by decide) (fun _ => Nat.le_of_ble_eq_true rfl) (fun _ => rfl) (fun g hc => ?_)
  have k4 : aW g YC 4 (fun r τ => r = some (.int (nI (C ^ P))) ∧ τ = σ) 4 [some (.int (nI P)), some (.int (nI C)), some (.int (nI (C ^ 0))), some (.int (nI 0))] [] σ := by
    refine lpN (n := P) (F := fun i => aW g YC 4 (fun r τ => r = some (.int (nI (C ^ P))) ∧ τ = σ) 4 [some (.int (nI P)), some (.int (nI C)), some (.int (nI (C ^ i))), some (.int (nI i))] [] σ) ?_ (fun i hi ih => ?_)
    · refine st_iload_n hc dX0_codesOf_4 rfl rfl ?_
      refine st_iload_n hc dX0_codesOf_5 rfl rfl ?_
      refine st_icmp_ge (tgt := 19) hc dX0_codesOf_6 (by decide) (fun h6 => ?_) (fun h6 => ?_)
      · refine st_iload_n hc dX0_codesOf_19 rfl rfl ?_
        refine st_iret (st := []) hc dX0_codesOf_20 rfl ?_
        exact ⟨rfl, rfl⟩
      · exact absurd (nI_le (Nat.le_refl _) (by omega)) h6
    · refine st_iload_n hc dX0_codesOf_4 rfl rfl ?_
      refine st_iload_n hc dX0_codesOf_5 rfl rfl ?_
      refine st_icmp_ge (tgt := 19) hc dX0_codesOf_6 (by decide) (fun h6 => ?_) (fun h6 => ?_)
      · exact absurd h6 (nI_ge hi (by omega))
      · refine st_iload_n hc dX0_codesOf_9 rfl rfl ?_
        refine st_iload_n hc dX0_codesOf_10 rfl rfl ?_
        refine st_imul hc dX0_codesOf_11 ?_
        rw [pk_mul, ← Nat.pow_succ]
        refine st_istore_n hc dX0_codesOf_12 rfl (by decide) rfl ?_
        refine st_inc hc dX0_codesOf_13 rfl (by decide) rfl ?_
        rw [nI_1]
        refine st_goto (tgt := 4) hc dX0_codesOf_16 (by decide) ?_
        exact ih
  rw [Nat.pow_zero] at k4
  refine st_iconst (v := 1) hc dX0_codesOf_0 (by decide) ?_
  refine st_istore_n hc dX0_codesOf_1 rfl (by decide) rfl ?_
  refine st_iconst (v := 0) hc dX0_codesOf_2 (by decide) ?_
  refine st_istore_n hc dX0_codesOf_3 rfl (by decide) rfl ?_
  exact k4

