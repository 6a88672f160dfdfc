/-! ===== the class: the play ===== -/
theorem pc_ones {x : Nat} (h : x < 2 ^ 11) : pc32 x = ones x := by
  unfold pc32 ones
  rw [show (32 : Nat) = 11 + 21 from rfl, cnt_add, cnt_zero (p := fun k => x.testBit (11 + k)) (fun k _ => Nat.testBit_lt_two_pow (Nat.lt_of_lt_of_le h (Nat.pow_le_pow_right (by decide) (by omega)))), Nat.add_zero]
theorem ones_le (x : Nat) : ones x ≤ 11 := cnt_le 11 _
abbrev lf (ok : Nat → Bool) (fb : Nat → Nat) (L : Nat) (c : Nat) : Bool := ok c && decide (ones (fb c) ≤ L)
/-- the book's size, the lies, what is allowed, the false turns -/
def plA (σ : St) (N : Nat) (ok : Nat → Bool) (fb : Nat → Nat) (L : Nat) : Prop := σ 1 2 = nI N ∧ N ≤ 4096 ∧ σ 7 10 = nI L ∧ L ≤ 2 ∧ ∀ c, c < N → σ 14 c = bI (ok c) ∧ σ 15 c = nI (fb c) ∧ fb c < 2 ^ 11
theorem plA.eq {σ τ : St} {N : Nat} {ok : Nat → Bool} {fb : Nat → Nat} {L : Nat} (h : plA σ N ok fb L) (h1 : τ 1 2 = σ 1 2) (h7 : τ 7 10 = σ 7 10) (h14 : τ 14 = σ 14) (h15 : τ 15 = σ 15) : plA τ N ok fb L := by
  unfold plA at *
  rw [h1, h7, h14, h15]
  exact h
theorem vu_k {σ : St} {k : Nat} {w : Nat → Int32} (h : σ k = w) : va_up σ k w = σ := by subst h; exact vu_id
theorem bI_t {b : Bool} (h : ¬ bI b = 0) : b = true := by cases b with
  | false => exact absurd rfl h
  | true => rfl
theorem C5_isLeft (d : Nat) (σ : St) {N L : Nat} {ok : Nat → Bool} {fb : Nat → Nat} (hA : plA σ N ok fb L) (c : Int32) : Mt YC mX5_isLeft (d + 1) [.ref 7, .int c] σ (fun r τ => r = some (.int (bI (decide (0 ≤ c ∧ nat c < N) && lf ok fb L (nat c)))) ∧ τ = σ) := by
  obtain ⟨h1, h2, h3, h4, h5⟩ := hA
  refine Mt.ofA [some (.ref 7), some (.int c)] (by decide) (fun _ => Nat.le_of_ble_eq_true rfl) (fun _ => rfl) (fun g hc => ?_)
  refine st_aload_n hc dX5_isLeft_0 rfl rfl ?_
  refine st_getr hc dX5_isLeft_1 flX5_38 rfl rfl ?_
  refine st_iload_n hc dX5_isLeft_4 rfl rfl ?_
  refine st_callVp hc dX5_isLeft_5 (C0_has d σ h1 h2 c) mvX5_87 (by omega) rfl rfl rfl (Nat.le_of_ble_eq_true rfl) ?_
  refine st_if_eq (tgt := 40) hc dX5_isLeft_8 (by decide) (fun h8 => ?_) (fun h8 => ?_)
  · have e := bI_0.mp h8
    have e2 : bI (decide (0 ≤ c ∧ nat c < N) && lf ok fb L (nat c)) = 0 := by rw [e]; rfl
    refine st_iconst (v := 0) hc dX5_isLeft_40 (by decide) ?_
    refine st_zret (st := []) hc dX5_isLeft_41 rfl (by first | exact Or.inl rfl | (split <;> simp)) ?_
    rw [e2]
    exact ⟨rfl, rfl⟩
  · have e := bI_t h8
    rw [e]
    obtain ⟨c0, cN⟩ := of_decide_eq_true e
    obtain ⟨a1, a2, a3⟩ := h5 (nat c) cN
    refine st_aload_n hc dX5_isLeft_11 rfl rfl ?_
    refine st_getr hc dX5_isLeft_12 flX5_29 rfl rfl ?_
    refine st_iload_n hc dX5_isLeft_15 rfl rfl ?_
    refine st_zaldN (k := nat c) hc dX5_isLeft_16 rfl ((nI_nat c0).symm) (by omega) (by first | decide | omega) (a1) ?_
    refine st_if_eq (tgt := 40) hc dX5_isLeft_17 (by decide) (fun h17 => ?_) (fun h17 => ?_)
    · have e := bI_0.mp h17
      have e2 : bI (true && lf ok fb L (nat c)) = 0 := by show bI (true && (ok (nat c) && _)) = 0; rw [e]; rfl
      refine st_iconst (v := 0) hc dX5_isLeft_40 (by decide) ?_
      refine st_zret (st := []) hc dX5_isLeft_41 rfl (by first | exact Or.inl rfl | (split <;> simp)) ?_
      rw [e2]
      exact ⟨rfl, rfl⟩
    · have e := bI_t h17
      have e2 : (if nI L < nI (pc32 (fb (nat c))) then (0 : Int32) else 1) = bI (true && lf ok fb L (nat c)) := by
        rw [pc_ones a3]
        have := ones_le (fb (nat c))
        show _ = bI (true && (ok (nat c) && decide (ones (fb (nat c)) ≤ L)))
        rw [e]
        by_cases q : ones (fb (nat c)) ≤ L
        · rw [decide_eq_true q, if_neg (fun z => absurd ((nI_ltI (by omega) (by omega)).mp z) (by omega))]; rfl
        · rw [decide_eq_false q, if_pos ((nI_ltI (by omega) (by omega)).mpr (by omega))]; rfl
      refine st_aload_n hc dX5_isLeft_20 rfl rfl ?_
      refine st_getr hc dX5_isLeft_21 flX5_32 rfl rfl ?_
      refine st_iload_n hc dX5_isLeft_24 rfl rfl ?_
      refine st_ialdN (k := nat c) hc dX5_isLeft_25 rfl ((nI_nat c0).symm) (by omega) (by first | decide | omega) (a2) ?_
      refine st_callSp hc dX5_isLeft_26 (CJ_bitCount YC d σ _ (Nat.lt_trans a3 (by decide))) msX5_90 (by omega) rfl rfl (Nat.le_of_ble_eq_true rfl) ?_
      refine st_aload_n hc dX5_isLeft_29 rfl rfl ?_
      refine st_getE hc dX5_isLeft_30 flX5_51 rfl rfl (h3) ?_
      refine st_t_icmp_gt (a := 1) (b := 0) hc dX5_isLeft_33 dX5_isLeft_36 dX5_isLeft_37 dX5_isLeft_40 (by decide) (by decide) ?_
      refine st_zret (st := []) hc dX5_isLeft_41 rfl (by first | exact Or.inl rfl | (split <;> simp)) ?_
      rw [e2]
      exact ⟨rfl, rfl⟩
theorem C5_isLeftN (d : Nat) (σ : St) {N L : Nat} {ok : Nat → Bool} {fb : Nat → Nat} (hA : plA σ N ok fb L) {c : Nat} (hcN : c < N) : Mt YC mX5_isLeft (d + 1) [.ref 7, .int (nI c)] σ (fun r τ => r = some (.int (bI (lf ok fb L c))) ∧ τ = σ) := by
  have h := C5_isLeft d σ hA (nI c)
  have h4 := hA.2.1
  have e : (decide (0 ≤ nI c ∧ nat (nI c) < N) && lf ok fb L (nat (nI c))) = lf ok fb L c := by
    rw [nat_nI (by omega), decide_eq_true ⟨Int32.not_lt.mp (nI_pos (by omega)), hcN⟩, Bool.true_and]
  rw [e] at h
  exact h
/-- the store behind findLeft -/
abbrev flS (σ : St) (N : Nat) (p : Nat → Bool) : St := up (va_up (up σ 7 13 (nI (cnt N p))) 16 (qrow (σ 16) N p)) 7 16 (σ 7 16 + 1)
theorem C5_findLeft (d : Nat) (σ : St) {N L : Nat} {ok : Nat → Bool} {fb : Nat → Nat} (hA : plA σ N ok fb L) : Mt YC mX5_findLeft (d + 2) [.ref 7] σ (fun r τ => r = none ∧ τ = flS σ N (lf ok fb L)) := by
  have hN := hA.2.1
  refine Mt.ofA [some (.ref 7), none] (by decide) (fun _ => Nat.le_of_ble_eq_true rfl) (fun _ => rfl) (fun g hc => ?_)
  have k7 : aW g YC 2 (fun r τ => r = none ∧ τ = flS σ N (lf ok fb L)) 7 [some (.ref 7), some (.int (nI 0))] [] (va_up (up σ 7 13 (nI (cnt 0 (lf ok fb L)))) 16 (qrow (σ 16) 0 (lf ok fb L))) := by
    refine lpN (n := N) (F := fun c => aW g YC 2 (fun r τ => r = none ∧ τ = flS σ N (lf ok fb L)) 7 [some (.ref 7), some (.int (nI c))] [] (va_up (up σ 7 13 (nI (cnt c (lf ok fb L)))) 16 (qrow (σ 16) c (lf ok fb L)))) ?_ (fun c hcN ih => ?_)
    · refine st_iload_n hc dX5_findLeft_7 rfl rfl ?_
      refine st_aload_n hc dX5_findLeft_8 rfl rfl ?_
      refine st_getr hc dX5_findLeft_9 flX5_38 rfl rfl ?_
      refine st_getE hc dX5_findLeft_12 flX5_42 rfl rfl (hA.1) ?_
      refine st_icmp_ge (tgt := 52) hc dX5_findLeft_15 (by decide) (fun h15 => ?_) (fun h15 => ?_)
      · refine st_aload_n hc dX5_findLeft_52 rfl rfl ?_
        refine st_dup hc dX5_findLeft_53 rfl ?_
        refine st_getE hc dX5_findLeft_54 flX5_101 rfl rfl ((by simp [va_up, up_eq] : _ = σ 7 16)) ?_
        refine st_iconst (v := 1) hc dX5_findLeft_57 (by decide) ?_
        refine st_iadd hc dX5_findLeft_58 ?_
        refine st_put hc dX5_findLeft_59 fpX5_101 rfl rfl  ?_
        refine st_vret (st := []) hc dX5_findLeft_62 rfl ?_
        exact ⟨rfl, rfl⟩
      · exact absurd (nI_le (Nat.le_refl _) (by omega)) h15
    · have hcc := cnt_le c (lf ok fb L)
      refine st_iload_n hc dX5_findLeft_7 rfl rfl ?_
      refine st_aload_n hc dX5_findLeft_8 rfl rfl ?_
      refine st_getr hc dX5_findLeft_9 flX5_38 rfl rfl ?_
      refine st_getE hc dX5_findLeft_12 flX5_42 rfl rfl (hA.1) ?_
      refine st_icmp_ge (tgt := 52) hc dX5_findLeft_15 (by decide) (fun h15 => ?_) (fun h15 => ?_)
      · exact absurd h15 (nI_ge hcN (by omega))
      · refine st_aload_n hc dX5_findLeft_18 rfl rfl ?_
        refine st_iload_n hc dX5_findLeft_19 rfl rfl ?_
        refine st_callVp hc dX5_findLeft_20 (C5_isLeftN d _ (hA.eq (by simp [va_up, up_eq]) (by simp [va_up, up_eq]) (by rw [vu_n (by decide), up_o 14 (by decide)]) (by rw [vu_n (by decide), up_o 15 (by decide)])) hcN) mvX5_98 (by omega) rfl rfl rfl (Nat.le_of_ble_eq_true rfl) ?_
        refine st_if_eq (tgt := 46) hc dX5_findLeft_23 (by decide) (fun h23 => ?_) (fun h23 => ?_)
        · have e := bI_0.mp h23
          have e1 : cnt (c + 1) (lf ok fb L) = cnt c (lf ok fb L) := by show cnt c (lf ok fb L) + (if lf ok fb L c = true then 1 else 0) = _; rw [e]; rfl
          rw [e1, qrow_n e] at ih
          refine st_inc hc dX5_findLeft_46 rfl (by decide) rfl ?_
          rw [nI_1]
          refine st_goto (tgt := 7) hc dX5_findLeft_49 (by decide) ?_
          exact ih
        · have e := bI_t h23
          have e1 : cnt (c + 1) (lf ok fb L) = cnt c (lf ok fb L) + 1 := by show cnt c (lf ok fb L) + (if lf ok fb L c = true then 1 else 0) = _; rw [e]; rfl
          rw [e1, ← qrow_s e] at ih
          refine st_aload_n hc dX5_findLeft_26 rfl rfl ?_
          refine st_getr hc dX5_findLeft_27 flX5_35 rfl rfl ?_
          refine st_aload_n hc dX5_findLeft_30 rfl rfl ?_
          refine st_getE hc dX5_findLeft_31 flX5_95 rfl rfl ((by simp [va_up, up_eq] : _ = nI (cnt c (lf ok fb L)))) ?_
          refine st_iload_n hc dX5_findLeft_34 rfl rfl ?_
          refine st_iastN (k := cnt c (lf ok fb L)) hc dX5_findLeft_35 rfl (rfl) (by omega) (by first | decide | omega)  ?_
          rw [vu_up]
          refine st_aload_n hc dX5_findLeft_36 rfl rfl ?_
          refine st_dup hc dX5_findLeft_37 rfl ?_
          refine st_getE hc dX5_findLeft_38 flX5_95 rfl rfl ((by simp [va_up, up_eq] : _ = nI (cnt c (lf ok fb L)))) ?_
          refine st_iconst (v := 1) hc dX5_findLeft_41 (by decide) ?_
          refine st_iadd hc dX5_findLeft_42 ?_
          rw [nI_1]
          refine st_put hc dX5_findLeft_43 fpX5_95 rfl rfl  ?_
          rw [vu_put (by decide), up_up]
          refine st_inc hc dX5_findLeft_46 rfl (by decide) rfl ?_
          rw [nI_1]
          refine st_goto (tgt := 7) hc dX5_findLeft_49 (by decide) ?_
          exact ih
  rw [qrow_0, vu_k (up_o 16 (by decide))] at k7
  refine st_aload_n hc dX5_findLeft_0 rfl rfl ?_
  refine st_iconst (v := 0) hc dX5_findLeft_1 (by decide) ?_
  refine st_put hc dX5_findLeft_2 fpX5_95 rfl rfl  ?_
  refine st_iconst (v := 0) hc dX5_findLeft_5 (by decide) ?_
  refine st_istore_n hc dX5_findLeft_6 rfl (by decide) rfl ?_
  exact k7
theorem C5_anyLeft (d : Nat) (σ : St) {N L : Nat} {ok : Nat → Bool} {fb : Nat → Nat} (hA : plA σ N ok fb L) : Mt YC mX5_anyLeft (d + 2) [.ref 7] σ (fun r τ => r = some (.int (bI (anyN N (lf ok fb L)))) ∧ τ = σ) := by
  have hN := hA.2.1
  refine Mt.ofA [some (.ref 7), none] (by decide) (fun _ => Nat.le_of_ble_eq_true rfl) (fun _ => rfl) (fun g hc => ?_)
  have k2 : anyN 0 (lf ok fb L) = false → aW g YC 2 (fun r τ => r = some (.int (bI (anyN N (lf ok fb L)))) ∧ τ = σ) 2 [some (.ref 7), some (.int (nI 0))] [] σ := by
    refine lpN (n := N) (F := fun c => anyN c (lf ok fb L) = false → aW g YC 2 (fun r τ => r = some (.int (bI (anyN N (lf ok fb L)))) ∧ τ = σ) 2 [some (.ref 7), some (.int (nI c))] [] σ) (fun hz => ?_) (fun c hcN ih hz => ?_)
    · refine st_iload_n hc dX5_anyLeft_2 rfl rfl ?_
      refine st_aload_n hc dX5_anyLeft_3 rfl rfl ?_
      refine st_getr hc dX5_anyLeft_4 flX5_38 rfl rfl ?_
      refine st_getE hc dX5_anyLeft_7 flX5_42 rfl rfl (hA.1) ?_
      refine st_icmp_ge (tgt := 29) hc dX5_anyLeft_10 (by decide) (fun h10 => ?_) (fun h10 => ?_)
      · refine st_iconst (v := 0) hc dX5_anyLeft_29 (by decide) ?_
        refine st_zret (st := []) hc dX5_anyLeft_30 rfl (by simp) ?_
        rw [hz]
        exact ⟨rfl, rfl⟩
      · exact absurd (nI_le (Nat.le_refl _) (by omega)) h10
    · refine st_iload_n hc dX5_anyLeft_2 rfl rfl ?_
      refine st_aload_n hc dX5_anyLeft_3 rfl rfl ?_
      refine st_getr hc dX5_anyLeft_4 flX5_38 rfl rfl ?_
      refine st_getE hc dX5_anyLeft_7 flX5_42 rfl rfl (hA.1) ?_
      refine st_icmp_ge (tgt := 29) hc dX5_anyLeft_10 (by decide) (fun h10 => ?_) (fun h10 => ?_)
      · exact absurd h10 (nI_ge hcN (by omega))
      · refine st_aload_n hc dX5_anyLeft_13 rfl rfl ?_
        refine st_iload_n hc dX5_anyLeft_14 rfl rfl ?_
        refine st_callVp hc dX5_anyLeft_15 (C5_isLeftN d _ hA hcN) mvX5_98 (by omega) rfl rfl rfl (Nat.le_of_ble_eq_true rfl) ?_
        refine st_if_eq (tgt := 23) hc dX5_anyLeft_18 (by decide) (fun h18 => ?_) (fun h18 => ?_)
        · have hz2 : anyN (c + 1) (lf ok fb L) = false := by rw [anyN_s, hz, bI_0.mp h18]; rfl
          refine st_inc hc dX5_anyLeft_23 rfl (by decide) rfl ?_
          rw [nI_1]
          refine st_goto (tgt := 2) hc dX5_anyLeft_26 (by decide) ?_
          exact ih hz2
        · have e : anyN N (lf ok fb L) = true := (anyN_iff _ _).mpr ⟨c, hcN, bI_t h18⟩
          refine st_iconst (v := 1) hc dX5_anyLeft_21 (by decide) ?_
          refine st_zret (st := []) hc dX5_anyLeft_22 rfl (by simp) ?_
          rw [e]
          exact ⟨rfl, rfl⟩
  refine st_iconst (v := 0) hc dX5_anyLeft_0 (by decide) ?_
  refine st_istore_n hc dX5_anyLeft_1 rfl (by decide) rfl ?_
  exact k2 rfl
theorem C5_leftWithFalse (d : Nat) (σ : St) {n t : Nat} {Lk fbk : Nat → Nat} (hn : σ 7 13 = nI n) (hn4 : n ≤ 4096) (ht : t < 11) (hL : ∀ k, k < n → σ 16 k = nI (Lk k) ∧ Lk k < 4096 ∧ σ 15 (Lk k) = nI (fbk k) ∧ fbk k < 2 ^ 11) : Mt YC mX5_leftWithFalse d [.ref 7, .int (nI t)] σ (fun r τ => r = some (.int (nI (cnt n (fun k => (fbk k).testBit t)))) ∧ τ = σ) := by
  refine Mt.ofA [some (.ref 7), some (.int (nI t)), none, none] (by decide) (fun _ => Nat.le_of_ble_eq_true rfl) (fun _ => rfl) (fun g hc => ?_)
  have k4 : aW g YC 4 (fun r τ => r = some (.int (nI (cnt n (fun k => (fbk k).testBit t)))) ∧ τ = σ) 4 [some (.ref 7), some (.int (nI t)), some (.int (nI (cnt 0 (fun k => (fbk k).testBit t)))), some (.int (nI 0))] [] σ := by
    refine lpN (n := n) (F := fun i => aW g YC 4 (fun r τ => r = some (.int (nI (cnt n (fun k => (fbk k).testBit t)))) ∧ τ = σ) 4 [some (.ref 7), some (.int (nI t)), some (.int (nI (cnt i (fun k => (fbk k).testBit t)))), some (.int (nI i))] [] σ) ?_ (fun i hi ih => ?_)
    · refine st_iload_n hc dX5_leftWithFalse_4 rfl rfl ?_
      refine st_aload_n hc dX5_leftWithFalse_5 rfl rfl ?_
      refine st_getE hc dX5_leftWithFalse_6 flX5_95 rfl rfl (hn) ?_
      refine st_icmp_ge (tgt := 36) hc dX5_leftWithFalse_9 (by decide) (fun h9 => ?_) (fun h9 => ?_)
      · refine st_iload_n hc dX5_leftWithFalse_36 rfl rfl ?_
        refine st_iret (st := []) hc dX5_leftWithFalse_37 rfl ?_
        exact ⟨rfl, rfl⟩
      · exact absurd (nI_le (Nat.le_refl _) (by omega)) h9
    · obtain ⟨a1, a2, a3, a4⟩ := hL i hi
      have eb : nI (fbk i / 2 ^ t) &&& 1 = nI (if (fbk i).testBit t = true then 1 else 0) := by
        rw [nI_a1, Nat.testBit_eq_decide_div_mod_eq]
        congr 1
        have := Nat.mod_two_eq_zero_or_one (fbk i / 2 ^ t)
        rcases this with q | q <;> simp [q]
      refine st_iload_n hc dX5_leftWithFalse_4 rfl rfl ?_
      refine st_aload_n hc dX5_leftWithFalse_5 rfl rfl ?_
      refine st_getE hc dX5_leftWithFalse_6 flX5_95 rfl rfl (hn) ?_
      refine st_icmp_ge (tgt := 36) hc dX5_leftWithFalse_9 (by decide) (fun h9 => ?_) (fun h9 => ?_)
      · exact absurd h9 (nI_ge hi (by omega))
      · refine st_iload_n hc dX5_leftWithFalse_12 rfl rfl ?_
        refine st_aload_n hc dX5_leftWithFalse_13 rfl rfl ?_
        refine st_getr hc dX5_leftWithFalse_14 flX5_32 rfl rfl ?_
        refine st_aload_n hc dX5_leftWithFalse_17 rfl rfl ?_
        refine st_getr hc dX5_leftWithFalse_18 flX5_35 rfl rfl ?_
        refine st_iload_n hc dX5_leftWithFalse_21 rfl rfl ?_
        refine st_ialdN (k := i) hc dX5_leftWithFalse_22 rfl (rfl) (by omega) (by first | decide | omega) (a1) ?_
        refine st_ialdN (k := Lk i) hc dX5_leftWithFalse_23 rfl (rfl) (by omega) (by first | decide | omega) (a3) ?_
        refine st_iload_n hc dX5_leftWithFalse_24 rfl rfl ?_
        refine st_iushr hc dX5_leftWithFalse_25 ?_
        rw [nI_ushr (by omega) (by omega)]
        refine st_iconst (v := 1) hc dX5_leftWithFalse_26 (by decide) ?_
        refine st_iand hc dX5_leftWithFalse_27 ?_
        rw [eb]
        refine st_iadd hc dX5_leftWithFalse_28 ?_
        rw [nI_add]
        refine st_istore_n hc dX5_leftWithFalse_29 rfl (by decide) rfl ?_
        refine st_inc hc dX5_leftWithFalse_30 rfl (by decide) rfl ?_
        rw [nI_1]
        refine st_goto (tgt := 4) hc dX5_leftWithFalse_33 (by decide) ?_
        exact ih
  refine st_iconst (v := 0) hc dX5_leftWithFalse_0 (by decide) ?_
  refine st_istore_n hc dX5_leftWithFalse_1 rfl (by decide) rfl ?_
  refine st_iconst (v := 0) hc dX5_leftWithFalse_2 (by decide) ?_
  refine st_istore_n hc dX5_leftWithFalse_3 rfl (by decide) rfl ?_
  exact k4
/-- what a turn's mark makes of the false turns -/
abbrev mkF (P C T : Nat) (w : Nat → Int32) (a : Int32) (fb : Nat → Nat) (c : Nat) : Nat := if nI (ans P C w c) = a then fb c else fb c ||| 2 ^ T
theorem C5_markFalse (d : Nat) (σ : St) {P C T : Nat} {fb : Nat → Nat} (hb : bkI σ P C) (hT : σ 7 14 = nI T) (hT10 : T ≤ 10) (hf : ∀ c, c < C ^ P → σ 15 c = nI (fb c)) (w : Nat → Int32) (h1 : σ 17 1 = nI (spotsN P C w)) (h2 : σ 17 2 = nI (sharesN P C w)) (a : Int32) : Mt YC mX5_markFalse (d + 2) [.ref 7, .ref 17, .int a] σ (fun r τ => r = none ∧ ∃ v, (∀ c, c < C ^ P → v c = nI (mkF P C T w a fb c)) ∧ τ = va_up σ 15 v) := by
  have h4 := hb.1.2.1
  have hs := hb.1.2.2.2.2
  refine Mt.ofA [some (.ref 7), some (.ref 17), some (.int a), none, none] (by decide) (fun _ => Nat.le_of_ble_eq_true rfl) (fun _ => rfl) (fun g hc => ?_)
  have k10 : ∀ v, (∀ c, c < 0 → v c = nI (mkF P C T w a fb c)) ∧ (∀ c, 0 ≤ c → c < C ^ P → v c = nI (fb c)) → aW g YC 5 (fun r τ => r = none ∧ ∃ v, (∀ c, c < C ^ P → v c = nI (mkF P C T w a fb c)) ∧ τ = va_up σ 15 v) 10 [some (.ref 7), some (.ref 17), some (.int a), some (.int (nI (2 ^ T))), some (.int (nI 0))] [] (va_up σ 15 v) := by
    refine lpN (n := C ^ P) (F := fun k => ∀ v, (∀ c, c < k → v c = nI (mkF P C T w a fb c)) ∧ (∀ c, k ≤ c → c < C ^ P → v c = nI (fb c)) → aW g YC 5 (fun r τ => r = none ∧ ∃ v, (∀ c, c < C ^ P → v c = nI (mkF P C T w a fb c)) ∧ τ = va_up σ 15 v) 10 [some (.ref 7), some (.ref 17), some (.int a), some (.int (nI (2 ^ T))), some (.int (nI k))] [] (va_up σ 15 v)) (fun v hv => ?_) (fun k hk ih v hv => ?_)
    · refine st_iload hc dX5_markFalse_10 rfl ?_
      refine st_aload_n hc dX5_markFalse_12 rfl rfl ?_
      refine st_getr hc dX5_markFalse_13 flX5_38 rfl rfl ?_
      refine st_getE hc dX5_markFalse_16 flX5_42 rfl rfl (hs) ?_
      refine st_icmp_ge (tgt := 60) hc dX5_markFalse_19 (by decide) (fun h19 => ?_) (fun h19 => ?_)
      · refine st_vret (st := []) hc dX5_markFalse_60 rfl ?_
        exact ⟨rfl, v, hv.1, rfl⟩
      · exact absurd (nI_le (Nat.le_refl _) (by omega)) h19
    · refine st_iload hc dX5_markFalse_10 rfl ?_
      refine st_aload_n hc dX5_markFalse_12 rfl rfl ?_
      refine st_getr hc dX5_markFalse_13 flX5_38 rfl rfl ?_
      refine st_getE hc dX5_markFalse_16 flX5_42 rfl rfl (hs) ?_
      refine st_icmp_ge (tgt := 60) hc dX5_markFalse_19 (by decide) (fun h19 => ?_) (fun h19 => ?_)
      · exact absurd h19 (nI_ge hk (by omega))
      · refine st_aload_n hc dX5_markFalse_22 rfl rfl ?_
        refine st_getr hc dX5_markFalse_23 flX5_38 rfl rfl ?_
        refine st_aload_n hc dX5_markFalse_26 rfl rfl ?_
        refine st_getE hc dX5_markFalse_27 flX5_128 rfl rfl (h1) ?_
        refine st_aload_n hc dX5_markFalse_30 rfl rfl ?_
        refine st_getE hc dX5_markFalse_31 flX5_131 rfl rfl (h2) ?_
        refine st_iload hc dX5_markFalse_34 rfl ?_
        refine st_callVp hc dX5_markFalse_36 (C0_answerTo d (va_up σ 15 v) (hb.eq (vu_n (by decide)) (vu_n (by decide)) (vu_n (by decide)) (vu_n (by decide))) w hk) mvX5_134 (by omega) rfl rfl rfl (Nat.le_of_ble_eq_true rfl) ?_
        refine st_iload_n hc dX5_markFalse_39 rfl rfl ?_
        refine st_icmp_eq (tgt := 54) hc dX5_markFalse_40 (by decide) (fun h40 => ?_) (fun h40 => ?_)
        · refine st_inc hc dX5_markFalse_54 rfl (by decide) rfl ?_
          rw [nI_1]
          refine st_goto (tgt := 10) hc dX5_markFalse_57 (by decide) ?_
          first
           | (refine ih _ ⟨fun c hc => ?_, fun c hc hc2 => ?_⟩
              · by_cases e : c = k
                · subst e; rw [upd_s]; unfold mkF; rw [if_neg h40]
                · rw [upd_n e]; exact hv.1 c (by omega)
              · rw [upd_n (by omega)]; exact hv.2 c (by omega) hc2)
           | (refine ih v ⟨fun c hc => ?_, fun c hc hc2 => hv.2 c (by omega) hc2⟩
              by_cases e : c = k
              · subst e; unfold mkF; rw [if_pos h40]; exact hv.2 c (Nat.le_refl _) hk
              · exact hv.1 c (by omega))
        · refine st_aload_n hc dX5_markFalse_43 rfl rfl ?_
          refine st_getr hc dX5_markFalse_44 flX5_32 rfl rfl ?_
          refine st_iload hc dX5_markFalse_47 rfl ?_
          refine st_dup2 hc dX5_markFalse_49 rfl rfl ?_
          refine st_ialdN (k := k) hc dX5_markFalse_50 rfl (rfl) (by omega) (by first | decide | omega) ((by rw [vu_s]; exact hv.2 k (Nat.le_refl _) hk : _ = nI (fb k))) ?_
          refine st_iload_n hc dX5_markFalse_51 rfl rfl ?_
          refine st_ior hc dX5_markFalse_52 ?_
          rw [nI_or]
          refine st_iastN (k := k) hc dX5_markFalse_53 rfl (rfl) (by omega) (by first | decide | omega)  ?_
          rw [vu_up]
          refine st_inc hc dX5_markFalse_54 rfl (by decide) rfl ?_
          rw [nI_1]
          refine st_goto (tgt := 10) hc dX5_markFalse_57 (by decide) ?_
          first
           | (refine ih _ ⟨fun c hc => ?_, fun c hc hc2 => ?_⟩
              · by_cases e : c = k
                · subst e; rw [upd_s]; unfold mkF; rw [if_neg h40]
                · rw [upd_n e]; exact hv.1 c (by omega)
              · rw [upd_n (by omega)]; exact hv.2 c (by omega) hc2)
           | (refine ih v ⟨fun c hc => ?_, fun c hc hc2 => hv.2 c (by omega) hc2⟩
              by_cases e : c = k
              · subst e; unfold mkF; rw [if_pos h40]; exact hv.2 c (Nat.le_refl _) hk
              · exact hv.1 c (by omega))
  have h9 := k10 (σ 15) ⟨fun c hc => absurd hc (Nat.not_lt_zero c), fun c _ hc => hf c hc⟩
  rw [vu_id] at h9
  refine st_iconst (v := 1) hc dX5_markFalse_0 (by decide) ?_
  refine st_aload_n hc dX5_markFalse_1 rfl rfl ?_
  refine st_getE hc dX5_markFalse_2 flX5_54 rfl rfl (hT) ?_
  refine st_ishl hc dX5_markFalse_5 ?_
  rw [nI_shl1 (by omega)]
  refine st_istore_n hc dX5_markFalse_6 rfl (by decide) rfl ?_
  refine st_iconst (v := 0) hc dX5_markFalse_7 (by decide) ?_
  refine st_istore hc dX5_markFalse_8 (by decide) rfl ?_
  exact h9
theorem unm {x T : Nat} (hT : T ≤ 10) (hx : x < 2 ^ (T + 1)) : nI x &&& (nI (2 ^ T) ^^^ -1) = nI (x % 2 ^ T) := by
  apply Int32.toBitVec_inj.mp
  show BitVec.ofNat 32 x &&& (BitVec.ofNat 32 (2 ^ T) ^^^ BitVec.allOnes 32) = BitVec.ofNat 32 (x % 2 ^ T)
  apply BitVec.eq_of_getLsbD_eq
  intro i hi
  rw [BitVec.getLsbD_and, BitVec.getLsbD_xor, BitVec.getLsbD_ofNat, BitVec.getLsbD_ofNat, BitVec.getLsbD_ofNat, BitVec.getLsbD_allOnes, Nat.testBit_mod_two_pow, Nat.testBit_two_pow]
  simp only [hi, decide_true, Bool.true_and]
  by_cases e : i < T
  · have : ¬ T = i := by omega
    simp [e, this]
  · by_cases e2 : T = i
    · simp [e2]
    · have : x.testBit i = false := Nat.testBit_lt_two_pow (Nat.lt_of_lt_of_le hx (Nat.pow_le_pow_right (by decide) (by omega)))
      simp [this]
theorem C5_unmark (d : Nat) (σ : St) {N T : Nat} {fb : Nat → Nat} (hN : σ 1 2 = nI N) (hN4 : N ≤ 4096) (hT : σ 7 14 = nI T) (hT10 : T ≤ 10) (hf : ∀ c, c < N → σ 15 c = nI (fb c) ∧ fb c < 2 ^ (T + 1)) : Mt YC mX5_unmark d [.ref 7] σ (fun r τ => r = none ∧ ∃ v, (∀ c, c < N → v c = nI (fb c % 2 ^ T)) ∧ τ = va_up σ 15 v) := by
  refine Mt.ofA [some (.ref 7), none, none] (by decide) (fun _ => Nat.le_of_ble_eq_true rfl) (fun _ => rfl) (fun g hc => ?_)
  have k11 : ∀ v, (∀ c, c < 0 → v c = nI (fb c % 2 ^ T)) ∧ (∀ c, 0 ≤ c → c < N → v c = nI (fb c)) → aW g YC 3 (fun r τ => r = none ∧ ∃ v, (∀ c, c < N → v c = nI (fb c % 2 ^ T)) ∧ τ = va_up σ 15 v) 11 [some (.ref 7), some (.int (nI (2 ^ T) ^^^ -1)), some (.int (nI 0))] [] (va_up σ 15 v) := by
    refine lpN (n := N) (F := fun k => ∀ v, (∀ c, c < k → v c = nI (fb c % 2 ^ T)) ∧ (∀ c, k ≤ c → c < N → v c = nI (fb c)) → aW g YC 3 (fun r τ => r = none ∧ ∃ v, (∀ c, c < N → v c = nI (fb c % 2 ^ T)) ∧ τ = va_up σ 15 v) 11 [some (.ref 7), some (.int (nI (2 ^ T) ^^^ -1)), some (.int (nI k))] [] (va_up σ 15 v)) (fun v hv => ?_) (fun k hk ih v hv => ?_)
    · refine st_iload_n hc dX5_unmark_11 rfl rfl ?_
      refine st_aload_n hc dX5_unmark_12 rfl rfl ?_
      refine st_getr hc dX5_unmark_13 flX5_38 rfl rfl ?_
      refine st_getE hc dX5_unmark_16 flX5_42 rfl rfl (hN) ?_
      refine st_icmp_ge (tgt := 38) hc dX5_unmark_19 (by decide) (fun h19 => ?_) (fun h19 => ?_)
      · refine st_vret (st := []) hc dX5_unmark_38 rfl ?_
        exact ⟨rfl, v, hv.1, rfl⟩
      · exact absurd (nI_le (Nat.le_refl _) (by omega)) h19
    · refine st_iload_n hc dX5_unmark_11 rfl rfl ?_
      refine st_aload_n hc dX5_unmark_12 rfl rfl ?_
      refine st_getr hc dX5_unmark_13 flX5_38 rfl rfl ?_
      refine st_getE hc dX5_unmark_16 flX5_42 rfl rfl (hN) ?_
      refine st_icmp_ge (tgt := 38) hc dX5_unmark_19 (by decide) (fun h19 => ?_) (fun h19 => ?_)
      · exact absurd h19 (nI_ge hk (by omega))
      · refine st_aload_n hc dX5_unmark_22 rfl rfl ?_
        refine st_getr hc dX5_unmark_23 flX5_32 rfl rfl ?_
        refine st_iload_n hc dX5_unmark_26 rfl rfl ?_
        refine st_dup2 hc dX5_unmark_27 rfl rfl ?_
        refine st_ialdN (k := k) hc dX5_unmark_28 rfl (rfl) (by omega) (by first | decide | omega) ((by rw [vu_s]; exact hv.2 k (Nat.le_refl _) hk : _ = nI (fb k))) ?_
        refine st_iload_n hc dX5_unmark_29 rfl rfl ?_
        refine st_iand hc dX5_unmark_30 ?_
        rw [unm hT10 (hf k hk).2]
        refine st_iastN (k := k) hc dX5_unmark_31 rfl (rfl) (by omega) (by first | decide | omega)  ?_
        rw [vu_up]
        refine st_inc hc dX5_unmark_32 rfl (by decide) rfl ?_
        rw [nI_1]
        refine st_goto (tgt := 11) hc dX5_unmark_35 (by decide) ?_
        refine ih _ ⟨fun c hc => ?_, fun c hc hc2 => ?_⟩
        · by_cases e : c = k
          · subst e; rw [upd_s]
          · rw [upd_n e]; exact hv.1 c (by omega)
        · rw [upd_n (by omega)]; exact hv.2 c (by omega) hc2
  have h9 := k11 (σ 15) ⟨fun c hc => absurd hc (Nat.not_lt_zero c), fun c _ hc => (hf c hc).1⟩
  rw [vu_id] at h9
  refine st_iconst (v := 1) hc dX5_unmark_0 (by decide) ?_
  refine st_aload_n hc dX5_unmark_1 rfl rfl ?_
  refine st_getE hc dX5_unmark_2 flX5_54 rfl rfl (hT) ?_
  refine st_ishl hc dX5_unmark_5 ?_
  rw [nI_shl1 (by omega)]
  refine st_iconst (v := (-1)) hc dX5_unmark_6 (by decide) ?_
  refine st_ixor hc dX5_unmark_7 ?_
  refine st_istore_n hc dX5_unmark_8 rfl (by decide) rfl ?_
  refine st_iconst (v := 0) hc dX5_unmark_9 (by decide) ?_
  refine st_istore_n hc dX5_unmark_10 rfl (by decide) rfl ?_
  exact h9

