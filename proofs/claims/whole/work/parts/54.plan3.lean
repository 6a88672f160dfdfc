/-! ===== the class: a plan is judged ===== -/
abbrev wtB (μ : St) (n i : Nat) (a : Nat) : Bool := !(a == 10 * pN μ) && hasB μ n a i
abbrev wtM (μ : St) (i n : Nat) : Nat := fbits 60 (wtB μ n i)
theorem wtM_s {μ : St} (hP5 : pN μ ≤ 5) (i n : Nat) : wS μ (lth μ i) (wtM μ i) n = wtM μ (i + 1) n := by
  have hl : cA2 μ (pg μ n) (lth μ i) < 60 := by have := ans_50 hP5 (C := cN μ) (fun j => nI (pegOf (pN μ) (cN μ) (pg μ n) j)) (lth μ i); show ans _ _ _ _ < 60; omega
  have hs : ∀ a, wtB μ n (i + 1) a = (wtB μ n i a || (!(a == 10 * pN μ) && (meant μ (lth μ i) n && cA2 μ (pg μ n) (lth μ i) == a))) := fun a => by
    show (!(a == 10 * pN μ) && (hasB μ n a i || _)) = _
    rw [Bool.and_or_distrib_left]
  apply Nat.eq_of_testBit_eq
  intro a
  unfold wS
  by_cases h : meant μ (lth μ i) n = true ∧ ¬ cA2 μ (pg μ n) (lth μ i) = 10 * pN μ
  · rw [if_pos h, Nat.testBit_or, Nat.testBit_two_pow, fbits_bit, fbits_bit, hs, h.1]
    by_cases e : cA2 μ (pg μ n) (lth μ i) = a
    · have h2 : ¬ a = 10 * pN μ := fun q => h.2 (e.trans q)
      have h3 : a < 60 := by omega
      simp [e, h2, h3]
    · rw [beq_false_of_ne e]; simp [e]
  · rw [if_neg h, fbits_bit, fbits_bit, hs]
    have : (!(a == 10 * pN μ) && (meant μ (lth μ i) n && cA2 μ (pg μ n) (lth μ i) == a)) = false := by
      rcases hz : (!(a == 10 * pN μ) && (meant μ (lth μ i) n && cA2 μ (pg μ n) (lth μ i) == a)) with _ | _
      · rfl
      · rw [Bool.and_eq_true, Bool.and_eq_true] at hz
        have e1 := eq_of_beq hz.2.2
        have e2 : ¬ a = 10 * pN μ := by simpa using hz.1
        exact absurd ⟨hz.2.1, fun q => e2 (e1.symm.trans q)⟩ h
    rw [this, Bool.or_false]
def flI (σ μ : St) (i : Nat) (τ : St) : Prop := (∀ b, ¬ (b = 52 ∨ b = 59 ∨ b = 60) → τ b = σ b) ∧ τ 52 8 = σ 52 8 ∧ τ 52 9 = σ 52 9 ∧ τ 52 10 = nI (sumN i (fun j => cnt (plN μ) (meant μ (lth μ j)))) ∧ ∀ j, j < plN μ → lg τ 59 j = lN (wtM μ i j)
theorem plR.fl {σ μ τ : St} (h : plR σ μ) (h1 : ∀ b, ¬ (b = 52 ∨ b = 59 ∨ b = 60) → τ b = σ b) (h2 : τ 52 8 = σ 52 8) (h3 : τ 52 9 = σ 52 9) : plR τ μ := by
  obtain ⟨r1, r2, r3⟩ := h
  refine ⟨h2.trans r1, fun n hn => ?_, h3.trans r3⟩
  obtain ⟨a1, a2, a3, a4, a5, a6⟩ := r2 n hn
  refine ⟨?_, ?_, ?_, ?_, ?_, ?_⟩
  · rw [h1 53 (by omega)]; exact a1
  · rw [h1 54 (by omega)]; exact a2
  · rw [h1 55 (by omega)]; exact a3
  · rw [h1 56 (by omega)]; exact a4
  · unfold lg; rw [h1 57 (by omega)]; exact a5
  · rw [h1 58 (by omega)]; exact a6
theorem C4_follow (d : Nat) (σ μ : St) {n : Nat} (hb : bkI σ (pN μ) (cN μ)) (hR : plR σ μ) (hp : plOK μ) (hN : nN μ = cN μ ^ pN μ) (hl : lfI σ (cN μ ^ pN μ) n (lth μ)) : Mt YC mX4_follow (d + 4) [.ref 52, .ref 7] σ (fun r τ => r = none ∧ flI σ μ n τ) := by
  obtain ⟨l1, l2, l3⟩ := id hl
  have h4 := hb.1.2.1
  have hP5 := hb.1.1.2.1
  have h40 := hp.2.1
  refine Mt.ofA [some (.ref 52), some (.ref 7), none] (by decide) (fun _ => Nat.le_of_ble_eq_true rfl) (fun _ => rfl) (fun g hc => ?_)
  have k15 : ∀ τ, flI σ μ 0 τ → aW g YC 3 (fun r τ => r = none ∧ flI σ μ n τ) 15 [some (.ref 52), some (.ref 7), some (.int (nI 0))] [] τ := by
    refine lpN (n := n) (F := fun i => ∀ τ, flI σ μ i τ → aW g YC 3 (fun r τ => r = none ∧ flI σ μ n τ) 15 [some (.ref 52), some (.ref 7), some (.int (nI i))] [] τ) (fun τ h => ?_) (fun i hi ih τ h => ?_)
    · obtain ⟨f1, f2, f3, f4, f5⟩ := id h
      refine st_iload_n hc dX4_follow_15 rfl rfl ?_
      refine st_aload_n hc dX4_follow_16 rfl rfl ?_
      refine st_getE hc dX4_follow_17 flX4_64 rfl rfl ((by rw [f1 7 (by omega)]; exact l1 : _ = nI n)) ?_
      refine st_icmp_ge (tgt := 43) hc dX4_follow_20 (by decide) (fun h20 => ?_) (fun h20 => ?_)
      · refine st_vret (st := []) hc dX4_follow_43 rfl ?_
        exact ⟨rfl, h⟩
      · exact absurd (nI_le (Nat.le_refl _) (by omega)) h20
    · obtain ⟨f1, f2, f3, f4, f5⟩ := id h
      obtain ⟨m1, m2⟩ := l3 i hi
      have hbk : bkI τ (pN μ) (cN μ) := hb.eq (f1 1 (by omega)) (f1 2 (by omega)) (f1 3 (by omega)) (f1 4 (by omega))
      refine st_iload_n hc dX4_follow_15 rfl rfl ?_
      refine st_aload_n hc dX4_follow_16 rfl rfl ?_
      refine st_getE hc dX4_follow_17 flX4_64 rfl rfl ((by rw [f1 7 (by omega)]; exact l1 : _ = nI n)) ?_
      refine st_icmp_ge (tgt := 43) hc dX4_follow_20 (by decide) (fun h20 => ?_) (fun h20 => ?_)
      · exact absurd h20 (nI_ge hi (by omega))
      · refine st_aload_n hc dX4_follow_23 rfl rfl ?_
        refine st_aload_n hc dX4_follow_24 rfl rfl ?_
        refine st_getr hc dX4_follow_25 flX4_69 rfl rfl ?_
        refine st_aload_n hc dX4_follow_28 rfl rfl ?_
        refine st_getr hc dX4_follow_29 flX4_73 rfl rfl ?_
        refine st_iload_n hc dX4_follow_32 rfl rfl ?_
        refine st_ialdN (k := i) hc dX4_follow_33 rfl (rfl) (by omega) (by first | decide | omega) ((by rw [f1 16 (by omega)]; exact m1 : _ = nI (lth μ i))) ?_
        refine st_callVn hc dX4_follow_34 (C4_followCode d τ μ (W := wtM μ i) hbk (hR.fl f1 f2 f3) hp hN m2 f4 (fun j hj => ⟨f5 j hj, fbits_lt 60 _⟩)) mvX4_76 (by omega) rfl rfl rfl (Nat.le_of_ble_eq_true rfl) ?_
        rintro τ1 ⟨e1, e2, e3, e4, e5, e6⟩
        refine st_inc hc dX4_follow_37 rfl (by decide) rfl ?_
        rw [nI_1]
        refine st_goto (tgt := 15) hc dX4_follow_40 (by decide) ?_
        refine ih τ1 ⟨fun b hb => (e1 b hb).trans (f1 b hb), e2.trans f2, e3.trans f3, e4, fun j hj => ?_⟩
        rw [e6 j hj, if_pos hj, wtM_s hP5]
  refine st_aload_n hc dX4_follow_0 rfl rfl ?_
  refine st_iconst (v := 0) hc dX4_follow_1 (by decide) ?_
  refine st_put hc dX4_follow_2 fpX4_55 rfl rfl  ?_
  refine st_aload_n hc dX4_follow_5 rfl rfl ?_
  refine st_getr hc dX4_follow_6 flX4_32 rfl rfl ?_
  refine st_lconst (v := 0) hc dX4_follow_9 (by decide) ?_
  refine st_callSn hc dX4_follow_10 (CJ_fillL (d + 3) (up σ 52 10 0) (a := 59) (n := 40) rfl (by decide) 0) msX4_58 (by omega) rfl rfl (Nat.le_of_ble_eq_true rfl) ?_
  rintro τ1 ⟨e1, e2⟩
  refine st_iconst (v := 0) hc dX4_follow_13 (by decide) ?_
  refine st_istore_n hc dX4_follow_14 rfl (by decide) rfl ?_
  refine k15 τ1 ⟨fun b hb => ?_, ?_, ?_, ?_, fun j hj => ?_⟩
  · rw [e1 b (by omega), up_o b (by omega)]
  · rw [e1 52 (by decide)]; simp [up_eq]
  · rw [e1 52 (by decide)]; simp [up_eq]
  · rw [e1 52 (by decide)]; simp [up_eq, sumN, nI_0]
  · rw [e2 j (by omega)]
    have : wtM μ 0 j = 0 := by
      apply Nat.eq_of_testBit_eq
      intro a
      rw [fbits_bit]
      show (_ && (_ && false)) = _
      simp
    rw [this]
    rfl
theorem whole_iff (μ : St) (n : Nat) : wholeB μ n = true ↔ (plt μ n = false ∧ plm μ n = fbits 60 (hasG μ n)) := by
  have hw : wholeB μ n = true ↔ ∀ a, a < 60 → chN μ n a = (if hasG μ n a = true then 1 else 0) := by
    unfold wholeB
    constructor
    · intro h a ha
      have h2 : anyN 60 (fun a => !(chN μ n a == (if hasG μ n a = true then 1 else 0))) = false := by simpa using h
      have := anyN_false h2 a ha
      simpa using this
    · intro h
      rcases hz : anyN 60 (fun a => !(chN μ n a == (if hasG μ n a = true then 1 else 0))) with _ | _
      · rfl
      · obtain ⟨a, ha, q⟩ := (anyN_iff _ _).mp hz
        rw [h a ha] at q
        simp at q
  rw [hw]
  constructor
  · intro h
    constructor
    · rcases hz : plt μ n with _ | _
      · rfl
      · obtain ⟨a, ha, q⟩ := (anyN_iff _ _).mp hz
        have := of_decide_eq_true q
        rw [h a ha] at this
        split at this <;> omega
    · apply fbits_congr
      intro a ha
      rw [h a ha]
      rcases hasG μ n a with _ | _ <;> rfl
  · rintro ⟨h1, h2⟩ a ha
    have h3 := anyN_false h1 a ha
    have h4 : ¬ 1 < chN μ n a := of_decide_eq_false h3
    have h5 := congrArg (fun z => z.testBit a) h2
    simp only [fbits_bit, decide_eq_true ha, Bool.true_and] at h5
    rcases hz : hasG μ n a with _ | _
    · rw [hz] at h5
      have := of_decide_eq_false h5
      simp; omega
    · rw [hz] at h5
      have := of_decide_eq_true h5
      simp; omega
theorem C4_firstNotWhole (d : Nat) (σ μ : St) (hR : plR σ μ) (hp : plOK μ) (hW : ∀ j, j < plN μ → lg σ 59 j = lN (fbits 60 (hasG μ j))) : Mt YC mX4_firstNotWhole d [.ref 52] σ (fun r τ => r = some (.int (if 0 < cnt (plN μ) (nw μ) then nI (nthT (plN μ) (nw μ) 0) else -1)) ∧ τ = σ) := by
  obtain ⟨r1, r2, r3⟩ := hR
  have h40 := hp.2.1
  have e43 : μ 0 43 = nI (plN μ) := (nI_nat hp.1).symm
  refine Mt.ofA [some (.ref 52), none] (by decide) (fun _ => Nat.le_of_ble_eq_true rfl) (fun _ => rfl) (fun g hc => ?_)
  have k2 : cnt 0 (nw μ) = 0 → aW g YC 2 (fun r τ => r = some (.int (if 0 < cnt (plN μ) (nw μ) then nI (nthT (plN μ) (nw μ) 0) else -1)) ∧ τ = σ) 2 [some (.ref 52), some (.int (nI 0))] [] σ := by
    refine lpN (n := plN μ) (F := fun k => cnt k (nw μ) = 0 → aW g YC 2 (fun r τ => r = some (.int (if 0 < cnt (plN μ) (nw μ) then nI (nthT (plN μ) (nw μ) 0) else -1)) ∧ τ = σ) 2 [some (.ref 52), some (.int (nI k))] [] σ) (fun hz => ?_) (fun k hk ih hz => ?_)
    · refine st_iload_n hc dX4_firstNotWhole_2 rfl rfl ?_
      refine st_aload_n hc dX4_firstNotWhole_3 rfl rfl ?_
      refine st_getE hc dX4_firstNotWhole_4 flX4_38 rfl rfl ((r1.trans e43)) ?_
      refine st_icmp_ge (tgt := 43) hc dX4_firstNotWhole_7 (by decide) (fun h7 => ?_) (fun h7 => ?_)
      · refine st_iconst (v := (-1)) hc dX4_firstNotWhole_43 (by decide) ?_
        refine st_iret (st := []) hc dX4_firstNotWhole_44 rfl ?_
        rw [if_neg (by omega)]
        exact ⟨rfl, rfl⟩
      · exact absurd (nI_le (Nat.le_refl _) (by omega)) h7
    · obtain ⟨a1, a2, a3, a4, a5, a6⟩ := r2 k hk
      have hw := whole_iff μ k
      have hbad : wholeB μ k = false → (if 0 < cnt (plN μ) (nw μ) then nI (nthT (plN μ) (nw μ) 0) else -1) = nI k := fun h => by
        have hk2 : nw μ k = true := by show (!wholeB μ k) = true; rw [h]; rfl
        have := cnt_lt (p := nw μ) hk hk2
        rw [if_pos (by omega), nthT_eq hk hk2 hz]
      have hgood : wholeB μ k = true → cnt (k + 1) (nw μ) = 0 := fun h => by
        show cnt k (nw μ) + (if (!wholeB μ k) = true then 1 else 0) = 0
        rw [hz, h]; rfl
      have hl1 : plm μ k < 2 ^ 62 := Nat.lt_trans (fbits_lt 60 _) (by decide)
      have hl2 : fbits 60 (hasG μ k) < 2 ^ 62 := Nat.lt_trans (fbits_lt 60 _) (by decide)
      refine st_iload_n hc dX4_firstNotWhole_2 rfl rfl ?_
      refine st_aload_n hc dX4_firstNotWhole_3 rfl rfl ?_
      refine st_getE hc dX4_firstNotWhole_4 flX4_38 rfl rfl ((r1.trans e43)) ?_
      refine st_icmp_ge (tgt := 43) hc dX4_firstNotWhole_7 (by decide) (fun h7 => ?_) (fun h7 => ?_)
      · exact absurd h7 (nI_ge hk (by omega))
      · refine st_aload_n hc dX4_firstNotWhole_10 rfl rfl ?_
        refine st_getr hc dX4_firstNotWhole_11 flX4_28 rfl rfl ?_
        refine st_iload_n hc dX4_firstNotWhole_14 rfl rfl ?_
        refine st_zaldN (k := k) hc dX4_firstNotWhole_15 rfl (rfl) (by omega) (by first | decide | omega) (a6) ?_
        refine st_if_ne (tgt := 35) hc dX4_firstNotWhole_16 (by decide) (fun h16 => ?_) (fun h16 => ?_)
        · have hx : wholeB μ k = false := by
            rcases hz : wholeB μ k with _ | _
            · rfl
            · rw [(hw.mp hz).1] at h16; exact absurd rfl h16
          refine st_iload_n hc dX4_firstNotWhole_35 rfl rfl ?_
          refine st_iret (st := []) hc dX4_firstNotWhole_36 rfl ?_
          rw [hbad hx]
          exact ⟨rfl, rfl⟩
        · have h16 := bI_0.mp h16
          refine st_aload_n hc dX4_firstNotWhole_19 rfl rfl ?_
          refine st_getr hc dX4_firstNotWhole_20 flX4_24 rfl rfl ?_
          refine st_iload_n hc dX4_firstNotWhole_23 rfl rfl ?_
          refine st_laldN (k := k) hc dX4_firstNotWhole_24 rfl (rfl) (by omega) (by first | decide | omega)  ?_
          rw [show jn (σ 57 (2 * k)) (σ 57 (2 * k + 1)) = lN (plm μ k) from a5]
          refine st_aload_n hc dX4_firstNotWhole_25 rfl rfl ?_
          refine st_getr hc dX4_firstNotWhole_26 flX4_32 rfl rfl ?_
          refine st_iload_n hc dX4_firstNotWhole_29 rfl rfl ?_
          refine st_laldN (k := k) hc dX4_firstNotWhole_30 rfl (rfl) (by omega) (by first | decide | omega)  ?_
          rw [show jn (σ 59 (2 * k)) (σ 59 (2 * k + 1)) = lN (fbits 60 (hasG μ k)) from hW k hk]
          refine st_lcmp hc dX4_firstNotWhole_31 ?_
          refine st_if_eq (tgt := 37) hc dX4_firstNotWhole_32 (by decide) (fun h32 => ?_) (fun h32 => ?_)
          · have hx : wholeB μ k = true := hw.mpr ⟨h16, (lN_eqB hl1 hl2).mp ((lg_0 _ _).mp h32)⟩
            refine st_inc hc dX4_firstNotWhole_37 rfl (by decide) rfl ?_
            rw [nI_1]
            refine st_goto (tgt := 2) hc dX4_firstNotWhole_40 (by decide) ?_
            exact ih (hgood hx)
          · have hx : wholeB μ k = false := by
              rcases hz : wholeB μ k with _ | _
              · rfl
              · exact absurd ((lg_0 _ _).mpr (by rw [(hw.mp hz).2])) h32
            refine st_iload_n hc dX4_firstNotWhole_35 rfl rfl ?_
            refine st_iret (st := []) hc dX4_firstNotWhole_36 rfl ?_
            rw [hbad hx]
            exact ⟨rfl, rfl⟩
  refine st_iconst (v := 0) hc dX4_firstNotWhole_0 (by decide) ?_
  refine st_istore_n hc dX4_firstNotWhole_1 rfl (by decide) rfl ?_
  exact k2 rfl
/-! the nodes that a code is meant for are those on its path -/
theorem chP_iff {μ : St} {n a m : Nat} : chP μ n a m = true ↔ 0 < m ∧ μ 30 m = nI n ∧ μ 31 m = nI a := by
  unfold chP
  rw [Bool.and_eq_true, Bool.and_eq_true]
  constructor
  · rintro ⟨⟨h1, h2⟩, h3⟩; exact ⟨of_decide_eq_true h1, eq_of_beq h2, eq_of_beq h3⟩
  · rintro ⟨h1, h2, h3⟩; exact ⟨⟨decide_eq_true h1, by rw [h2]; simp⟩, by rw [h3]; simp⟩
theorem cnt_uniq {n : Nat} {p : Nat → Bool} (h : cnt n p ≤ 1) {x y : Nat} (hx : x < n) (hy : y < n) (h1 : p x = true) (h2 : p y = true) : x = y := by
  rcases Nat.lt_trichotomy x y with q | q | q
  · have a1 := cnt_lt (p := p) q h1
    have a2 := cnt_lt (p := p) hy h2
    omega
  · exact q
  · have a1 := cnt_lt (p := p) q h2
    have a2 := cnt_lt (p := p) hx h1
    omega
/-- the child of a node by the code's answer -/
theorem child_nx {μ : St} (hm : mOK μ (pN μ) (cN μ) (nN μ) (tN μ) (liN μ)) (hp : plOK μ) (hw : ∀ n, n < plN μ → wholeB μ n = true) {i k : Nat} (hi : i < lm μ) (hk : k < plN μ) (h0 : 0 < k) (hme : meant μ (lth μ i) k = true) : ¬ pg μ (pf μ k) = lth μ i ∧ chd μ (pf μ k) (cA2 μ (pg μ (pf μ k)) (lth μ i)) (plN μ) = nI k := by
  have hms := meant_s hp (lth μ i) hk h0
  rw [hme] at hms
  have hms2 := Eq.symm hms
  rw [Bool.and_eq_true] at hms2
  have e31 := (eq_of_beq hms2.1).symm
  obtain ⟨⟨q1, q2⟩, q3, q4⟩ := (hp.2.2 k hk).2 h0
  have hql : pf μ k < plN μ := by omega
  have hch : chP μ (pf μ k) (cA2 μ (pg μ (pf μ k)) (lth μ i)) k = true := chP_iff.mpr ⟨h0, (nI_nat q1).symm, e31⟩
  obtain ⟨hpc, -⟩ := id hm
  have hP5 := hpc.2.2.2.1
  have ha60 : cA2 μ (pg μ (pf μ k)) (lth μ i) < 60 := by have := ans_50 hP5 (C := cN μ) (fun j => nI (pegOf (pN μ) (cN μ) (pg μ (pf μ k)) j)) (lth μ i); show ans _ _ _ _ < 60; omega
  have hwq := (whole_iff μ (pf μ k)).mp (hw _ hql)
  have h1 : ¬ 1 < chN μ (pf μ k) (cA2 μ (pg μ (pf μ k)) (lth μ i)) := of_decide_eq_false (anyN_false hwq.1 _ ha60)
  have hpos : 0 < chN μ (pf μ k) (cA2 μ (pg μ (pf μ k)) (lth μ i)) := Nat.lt_of_le_of_lt (Nat.zero_le _) (cnt_lt (p := chP μ (pf μ k) (cA2 μ (pg μ (pf μ k)) (lth μ i))) hk hch)
  constructor
  · intro e
    have h5 := congrArg (fun z => z.testBit (cA2 μ (pg μ (pf μ k)) (lth μ i))) hwq.2
    simp only [fbits_bit, decide_eq_true ha60, Bool.true_and, decide_eq_true hpos] at h5
    have hfull : cA2 μ (pg μ (pf μ k)) (lth μ i) = 10 * pN μ := by
      rw [e]
      exact ans_self hpc.2.2.2.2.1 hpc.2.2.2.2.2 (lth μ i)
    unfold hasG at h5
    rw [hfull] at h5
    simp at h5
  · obtain ⟨x, hx, e, hcx⟩ := chd_ex (plN μ) hpos
    rw [e, cnt_uniq (p := chP μ (pf μ k) (cA2 μ (pg μ (pf μ k)) (lth μ i))) (Nat.le_of_not_lt h1) hx hk hcx hch]
theorem path_nx {μ : St} (hm : mOK μ (pN μ) (cN μ) (nN μ) (tN μ) (liN μ)) (hp : plOK μ) (hw : ∀ n, n < plN μ → wholeB μ n = true) {i : Nat} (hi : i < lm μ) : ∀ k n, n < k → k < plN μ → meant μ (lth μ i) n = true → meant μ (lth μ i) k = true → ¬ pg μ n = lth μ i ∧ ∃ x, chd μ n (cA2 μ (pg μ n) (lth μ i)) (plN μ) = nI x ∧ x ≤ k ∧ x < plN μ := by
  intro k
  induction k using Nat.strongRecOn with
  | ind k ih =>
    intro n hn hk hmn hmk
    have h0 : 0 < k := by omega
    obtain ⟨c1, c2⟩ := child_nx hm hp hw hi hk h0 hmk
    have hms := meant_s hp (lth μ i) hk h0
    rw [hmk] at hms
    have hms2 := Eq.symm hms
    rw [Bool.and_eq_true] at hms2
    have hq := ((hp.2.2 k hk).2 h0).1.2
    have h40 := hp.2.1
    rcases Nat.lt_trichotomy (pf μ k) n with q | q | q
    · obtain ⟨-, x, hx, hxn, -⟩ := ih n hn (pf μ k) q (by omega) hms2.2 hmn
      rw [c2] at hx
      have := nI_inj (by omega) (by omega) hx
      omega
    · rw [← q]; exact ⟨c1, k, c2, Nat.le_refl _, hk⟩
    · obtain ⟨d1, x, hx, hxk, hxl⟩ := ih (pf μ k) hq n q (by omega) hmn hms2.2
      exact ⟨d1, x, hx, by omega, hxl⟩
theorem path_cnt {μ : St} (hm : mOK μ (pN μ) (cN μ) (nN μ) (tN μ) (liN μ)) (hp : plOK μ) (hw : ∀ n, n < plN μ → wholeB μ n = true) {i : Nat} (hi : i < lm μ) : ∀ f n, n < plN μ → plN μ ≤ n + f → meant μ (lth μ i) n = true → cnt (plN μ) (fun k => decide (n ≤ k) && meant μ (lth μ i) k) = pth μ (lth μ i) f n := by
  intro f
  induction f with
  | zero => intro n h1 h2; omega
  | succ f ih =>
    intro n h1 h2 hmn
    have h40 := hp.2.1
    show _ = if pg μ n = lth μ i then 1 else pth μ (lth μ i) f (nat (chd μ n (cA2 μ (pg μ n) (lth μ i)) (plN μ))) + 1
    by_cases e : pg μ n = lth μ i
    · rw [if_pos e, cnt_congr (q := fun b => decide (b = n)) (fun k hk => ?_)]
      · exact cnt_one h1
      · by_cases q : k = n
        · subst q; simp [hmn]
        · rw [decide_eq_false q]
          rcases hz : (decide (n ≤ k) && meant μ (lth μ i) k) with _ | _
          · rfl
          · rw [Bool.and_eq_true] at hz
            have hle := of_decide_eq_true hz.1
            exact absurd e (path_nx hm hp hw hi k n (by omega) hk hmn hz.2).1
    · rw [if_neg e]
      obtain ⟨x, hx, hnx, hcx, hmx⟩ := next_ok hm hp hi h1 (hw n h1) hmn e
      rw [hcx, nat_nI (by omega), ← ih x hx (by omega) hmx]
      refine cnt_upd1 (x := n) h1 (by simp; omega) (by simp [hmn]) (fun k hk hkn => ?_)
      rcases hz : meant μ (lth μ i) k with _ | _
      · simp
      · simp only [Bool.and_true]
        apply decide_eq_decide.mpr
        constructor
        · intro q
          obtain ⟨-, y, hy, hyk, hyl⟩ := path_nx hm hp hw hi k n (by omega) hk hmn hz
          rw [hcx] at hy
          have := nI_inj (by omega) (by omega) hy
          omega
        · intro q; omega
theorem tot_eq {μ : St} (hm : mOK μ (pN μ) (cN μ) (nN μ) (tN μ) (liN μ)) (hp : plOK μ) (hj : 0 < judS μ) : sumN (lm μ) (fun j => cnt (plN μ) (meant μ (lth μ j))) = totS μ := by
  obtain ⟨h1, h2⟩ := jud_pos hp hj
  unfold totS
  apply sumN_congr
  intro i hi
  have h40 := hp.2.1
  have := path_cnt hm hp h2 hi 40 0 (by omega) (by omega) rfl
  rw [← this]
  exact cnt_congr (fun k _ => by simp)

