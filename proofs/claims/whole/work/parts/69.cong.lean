/-! ===== the relation, piece by piece ===== -/
abbrev muA (μ ν : St) : Prop := ν 0 0 = μ 0 0 ∧ ν 0 1 = μ 0 1 ∧ ν 0 2 = μ 0 2
abbrev muP (μ ν : St) : Prop := muA μ ν ∧ ν 0 3 = μ 0 3 ∧ ν 0 4 = μ 0 4 ∧ ν 0 5 = μ 0 5 ∧ ν 0 7 = μ 0 7 ∧ ν 0 9 = μ 0 9 ∧ ν 1 = μ 1 ∧ ν 3 = μ 3 ∧ ν 4 = μ 4
theorem muP_l {μ ν : St} (h : muP μ ν) : mLs ν = mLs μ ∧ lm ν = lm μ ∧ lth ν = lth μ := by
  obtain ⟨⟨e0, e1, e2⟩, e3, e4, e5, e7, e9, c1, c3, c4⟩ := h
  have e : mLs ν = mLs μ := by
    unfold mLs mL pN cN tN liN
    rw [e0, e1, e3, e4, e5, e9, c1, c3, c4]
  refine ⟨e, ?_, ?_⟩
  · show cnt (nat (ν 0 2)) (mLs ν) = cnt (nat (μ 0 2)) (mLs μ); rw [e, e2]
  · funext k; show nthT (nat (ν 0 2)) (mLs ν) k = nthT (nat (μ 0 2)) (mLs μ) k; rw [e, e2]
theorem kMI {μ ν : St} (h : MI μ) (a : muA μ ν) (e5 : ν 0 5 = μ 0 5) (e9 : ν 0 9 = μ 0 9) (c1 : ν 1 = μ 1) : MI ν := by
  obtain ⟨e0, e1, e2⟩ := a
  unfold MI mOK mPC pN cN nN tN liN at *; rw [e0, e1, e2, e5, e9, c1]; exact h
theorem khO {μ ν : St} (h : hOK μ) (a : muA μ ν) (c2 : ν 2 = μ 2) : hOK ν := by
  obtain ⟨e0, e1, e2⟩ := a
  unfold hOK pN cN at *; rw [e0, e1, c2]; exact h
theorem kqO {μ ν : St} (h : qOK μ) (e13 : ν 0 13 = μ 0 13) : qOK ν := by unfold qOK at *; rw [e13]; exact h
theorem ksO {μ ν : St} (h : shOK μ) (c35 : ν 35 = μ 35) : shOK ν := by unfold shOK at *; rw [c35]; exact h
theorem kpO {μ ν : St} (h : plOK μ) (a : muA μ ν) (e43 : ν 0 43 = μ 0 43) (c30 : ν 30 = μ 30) (c31 : ν 31 = μ 31) (c32 : ν 32 = μ 32) : plOK ν := by
  obtain ⟨e0, e1, e2⟩ := a
  unfold plOK at *; unfold pg pf plN nN pN at *; rw [e43, e2, e0, c30, c31, c32]; exact h
theorem knO {μ ν : St} (h : ndOK μ) (e33 : ν 0 33 = μ 0 33) : ndOK ν := by unfold ndOK at *; rw [e33]; exact h
theorem kB {σ τ μ ν : St} (h : bkI σ (pN μ) (cN μ)) (a : muA μ ν) (h1 : τ 1 = σ 1) (h2 : τ 2 = σ 2) (h3 : τ 3 = σ 3) (h4 : τ 4 = σ 4) : bkI τ (pN ν) (cN ν) := by
  obtain ⟨e0, e1, e2⟩ := a
  unfold pN cN at *; rw [e0, e1]; exact h.eq h1 h2 h3 h4
theorem kP {σ τ μ ν : St} (h : rlP σ μ) (m : muP μ ν) (s7 : ∀ i, 8 ≤ i → i ≤ 14 → τ 7 i = σ 7 i) (s11 : τ 11 = σ 11) (s12 : τ 12 = σ 12) (s13 : τ 13 = σ 13) (s14 : τ 14 = σ 14) (s15 : τ 15 = σ 15) (s16 : τ 16 = σ 16) : rlP τ ν := by
  obtain ⟨l1, l2, l3⟩ := muP_l m
  obtain ⟨⟨e0, e1, e2⟩, e3, e4, e5, e7, e9, c1, c3, c4⟩ := m
  unfold rlP at *
  rw [l2, l3, s7 8 (by decide) (by decide), s7 9 (by decide) (by decide), s7 10 (by decide) (by decide), s7 11 (by decide) (by decide), s7 12 (by decide) (by decide), s7 13 (by decide) (by decide), s7 14 (by decide) (by decide), s11, s12, s13, s14, s15, s16]
  unfold okN fbN okM fbM pN cN nN tN at *
  rw [e0, e1, e2, e3, e4, e5, e7, e9, c1, c3, c4]
  exact h
theorem kQ {σ τ μ ν : St} (h : rlQ σ μ) (s : τ 7 15 = σ 7 15) (e13 : ν 0 13 = μ 0 13) (c5 : ν 5 = μ 5) : rlQ τ ν := by unfold rlQ at *; rw [s, e13, c5]; exact h
theorem kH {σ τ μ ν : St} (h : rlH σ μ) (a : muA μ ν) (s17 : τ 17 = σ 17) (s18 : τ 18 = σ 18) (c2 : ν 2 = μ 2) : rlH τ ν := by
  obtain ⟨e0, e1, e2⟩ := a
  unfold rlH pN cN at *; rw [s17, s18, e0, e1, c2]; exact h
theorem kS {k : Nat} {σ τ μ ν : St} (h : rlS k σ μ) (m : muP μ ν) (s : τ 7 16 = σ 7 16) (s21 : τ 21 = σ 21) : rlS (k + 1) τ ν := by
  obtain ⟨l1, l2, l3⟩ := muP_l m
  obtain ⟨⟨e0, e1, e2⟩, -⟩ := m
  obtain ⟨x, x1, x2, x3⟩ := h
  refine ⟨x, by rw [s]; exact x1, by omega, ?_⟩
  unfold svF at *
  rw [s21, l2, l3]
  unfold pN cN nN at *
  rw [e0, e1, e2]
  exact x3
/-- what is left may have changed: the survey is old -/
theorem kS' {k : Nat} {σ τ μ ν : St} (h : rlS k σ μ) (s : τ 7 16 = σ 7 16 + 1) (s21 : τ 21 = σ 21) : rlS (k + 1) τ ν := by
  obtain ⟨x, x1, x2, x3⟩ := h
  refine ⟨x + 1, by rw [s, x1, nI_1], by omega, ?_⟩
  rw [s21]
  rcases x3 with q | ⟨y, y1, y2, -⟩
  · exact Or.inl q
  · exact Or.inr ⟨y, by omega, y2, fun z => by omega⟩
theorem kF {σ τ : St} (h : rlF σ) (e : ∀ a, 26 ≤ a → a ≤ 45 → τ a = σ a) : rlF τ := ⟨h.1.eq (fun a h1 h2 => e a (by omega) (by omega)), h.2.eq (fun a h1 h2 => e a (by omega) (by omega))⟩
theorem kT {σ τ μ ν : St} (h : rlT σ μ) (e : ∀ a, 46 ≤ a → a ≤ 51 → τ a = σ a) (e33 : ν 0 33 = μ 0 33) (c : ∀ a, 21 ≤ a → a ≤ 25 → ν a = μ a) : rlT τ ν := by
  unfold rlT at *
  rw [e 46 (by decide) (by decide), e 47 (by decide) (by decide), e 48 (by decide) (by decide), e 49 (by decide) (by decide), e 50 (by decide) (by decide), e 51 (by decide) (by decide), e33, c 21 (by decide) (by decide), c 22 (by decide) (by decide), c 23 (by decide) (by decide), c 24 (by decide) (by decide), c 25 (by decide) (by decide)]
  exact h
theorem kR {σ τ μ ν : St} (h : plR σ μ) (e8 : τ 52 8 = σ 52 8) (e9 : τ 52 9 = σ 52 9) (e : ∀ a, 53 ≤ a → a ≤ 58 → τ a = σ a) (e43 : ν 0 43 = μ 0 43) (c30 : ν 30 = μ 30) (c31 : ν 31 = μ 31) (c32 : ν 32 = μ 32) : plR τ ν := by
  have hd : dpt ν 40 = dpt μ 40 := funext (fun n => dpt_c c30 40 n)
  have hch : chN ν = chN μ := by funext n a; unfold chN chP plN; rw [e43, c30, c31]
  unfold plR plm plt lg at *
  rw [hd, hch, e8, e9, e 53 (by decide) (by decide), e 54 (by decide) (by decide), e 55 (by decide) (by decide), e 56 (by decide) (by decide), e 57 (by decide) (by decide), e 58 (by decide) (by decide)]
  unfold plN at *
  rw [e43, c30, c31, c32]
  exact h
theorem kV {σ τ μ ν : St} (h : rlV σ μ) (e : ∀ a, 62 ≤ a → a ≤ 73 → τ a = σ a) (c : ∀ a, 34 ≤ a → a ≤ 37 → ν a = μ a) : rlV τ ν := by
  intro d hd
  have := h d hd
  rw [e (62 + 2 * d) (by omega) (by omega), e (63 + 2 * d) (by omega) (by omega), c 34 (by decide) (by decide), c 35 (by decide) (by decide), c 36 (by decide) (by decide), c 37 (by decide) (by decide)]
  exact this
theorem muP_t0 (μ : St) : muP μ (t0 μ) := ⟨⟨by simp [up_eq], by simp [up_eq], by simp [up_eq]⟩, by simp [up_eq], by simp [up_eq], by simp [up_eq], by simp [up_eq], by simp [up_eq], up_o 1 (by decide), up_o 3 (by decide), up_o 4 (by decide)⟩
/-- the class's store changes in what among remembers, in a forest, or in the tree alone -/
theorem Rel.mk1 {k : Nat} {σ τ μ : St} (h : Rel k σ μ) (e : ∀ a, ¬ (19 ≤ a ∧ a ≤ 51) → τ a = σ a) (hS : rlS k τ μ) (hF : rlF τ) (hT : rlT τ μ) : Rel k τ μ := by
  obtain ⟨⟨m, hb, hP, hQ, hH, -, -, -, hR, hV⟩, hN⟩ := h
  refine ⟨⟨m, hb.eq (e 1 (by decide)) (e 2 (by decide)) (e 3 (by decide)) (e 4 (by decide)), ?_, ?_, ?_, hS, hF, hT, ?_, ?_⟩, by rw [e 0 (by decide)]; exact hN⟩
  · exact kP hP ⟨⟨rfl, rfl, rfl⟩, rfl, rfl, rfl, rfl, rfl, rfl, rfl, rfl⟩ (fun i _ _ => by rw [e 7 (by decide)]) (e 11 (by decide)) (e 12 (by decide)) (e 13 (by decide)) (e 14 (by decide)) (e 15 (by decide)) (e 16 (by decide))
  · exact kQ hQ (by rw [e 7 (by decide)]) rfl rfl
  · exact kH hH ⟨rfl, rfl, rfl⟩ (e 17 (by decide)) (e 18 (by decide)) rfl
  · exact kR hR (by rw [e 52 (by decide)]) (by rw [e 52 (by decide)]) (fun a _ _ => e a (by omega)) rfl rfl rfl rfl
  · exact kV hV (fun a _ _ => e a (by omega)) (fun _ _ _ => rfl)
theorem rlS.eq {k : Nat} {σ τ μ : St} (h : rlS k σ μ) (s : τ 7 = σ 7) (s21 : τ 21 = σ 21) : rlS k τ μ := by unfold rlS svF at *; rw [s, s21]; exact h
theorem C11_among {k : Nat} {σ μ : St} (h : Rel k σ μ) (hk : k ≤ 1000) (w : Int32) : Mt YC mX11_among 70 [.ref 0, .int w] σ (fun r τ => r = some (.int (sp_among μ w).1) ∧ Rel (k + 1) τ (sp_among μ w).2) := by
  obtain ⟨⟨f1, f2, f3, f4⟩, ⟨e1, e2, e3, e4⟩, ⟨g1, g2, g3⟩, -⟩ := h.f
  obtain ⟨l1, l2, l3⟩ := id h.L
  have hlm := lm_le μ
  have hR : Rel (k + 1) σ (t0 μ) := h.t
  obtain ⟨x, x1, x2, x3⟩ := h.1.2.2.2.2.2.1
  have hmul : nN μ * lm μ ≤ 4096 * 4096 := Nat.mul_le_mul e2 (by omega)
  have e2p : (sp_among μ w).2 = t0 μ := rfl
  rw [e2p]
  refine Mt.ofA [some (.ref 0), some (.int w)] (by decide) (fun _ => Nat.le_of_ble_eq_true rfl) (fun _ => rfl) (fun g hc => ?_)
  refine st_iload_n hc dX11_among_0 rfl rfl ?_
  refine st_if_lt (tgt := 9) hc dX11_among_1 (by decide) (fun h1 => ?_) (fun h1 => ?_)
  · have hw : ¬ (0 ≤ w ∧ w ≤ 3) := fun q => absurd h1 (Int32.not_lt.mpr q.1)
    refine st_iconst (v := (-1)) hc dX11_among_9 (by decide) ?_
    refine st_iret (st := []) hc dX11_among_10 rfl ?_
    refine ⟨?_, hR⟩
    unfold sp_among
    rw [if_pos hw]
  · have h1 := Int32.not_lt.mp h1
    refine st_iload_n hc dX11_among_4 rfl rfl ?_
    refine st_iconst (v := 3) hc dX11_among_5 (by decide) ?_
    refine st_icmp_le (tgt := 11) hc dX11_among_6 (by decide) (fun h6 => ?_) (fun h6 => ?_)
    · have hw : ¬ ¬ (0 ≤ w ∧ w ≤ 3) := fun q => q ⟨h1, h6⟩
      refine st_aload_n hc dX11_among_11 rfl rfl ?_
      refine st_getr hc dX11_among_12 flX11_21 rfl rfl ?_
      refine st_getE hc dX11_among_15 flX11_182 rfl rfl (l1) ?_
      refine st_if_ne (tgt := 32) hc dX11_among_18 (by decide) (fun h18 => ?_) (fun h18 => ?_)
      · have h18 : ¬ lm μ = 0 := fun q => h18 (by rw [q]; rfl)
        refine st_aload_n hc dX11_among_32 rfl rfl ?_
        refine st_getr hc dX11_among_33 flX11_12 rfl rfl ?_
        refine st_getE hc dX11_among_36 flX11_94 rfl rfl (g3) ?_
        refine st_aload_n hc dX11_among_39 rfl rfl ?_
        refine st_getr hc dX11_among_40 flX11_21 rfl rfl ?_
        refine st_getE hc dX11_among_43 flX11_182 rfl rfl (l1) ?_
        refine st_imul hc dX11_among_46 ?_
        rw [pk_mul]
        refine st_ldc hc dX11_among_47 kcX11_245 ?_
        refine st_icmp_le (tgt := 55) hc dX11_among_49 (by decide) (fun h49 => ?_) (fun h49 => ?_)
        · have h49 : ¬ 200000 < nN μ * lm μ := fun q => by have := (nI_leI (b := 200000) (by omega) (by decide)).mp h49; omega
          have hlk := C8_look 60 σ h.1.2.1 (by rw [← e1]; exact h.L) (by omega) (fun q => by
            rcases x3 with z | ⟨y, y1, y2, y3⟩
            · rw [z, x1] at q; exact absurd q (nI_neg1 (by omega))
            · rw [y2, x1] at q
              have := y3 (nI_inj (by omega) (by omega) q)
              rw [e1] at this
              exact this)
          refine st_aload_n hc dX11_among_55 rfl rfl ?_
          refine st_getr hc dX11_among_56 flX11_42 rfl rfl ?_
          refine st_aload_n hc dX11_among_59 rfl rfl ?_
          refine st_getr hc dX11_among_60 flX11_21 rfl rfl ?_
          refine st_aload_n hc dX11_among_63 rfl rfl ?_
          refine st_getr hc dX11_among_64 flX11_35 rfl rfl ?_
          refine st_callVn hc dX11_among_67 (hlk) mvX11_246 (by omega) rfl rfl rfl (Nat.le_of_ble_eq_true rfl) ?_
          rintro τ1 ⟨d1, d2, d3⟩
          rw [← e1] at d3
          have hR1 : Rel (k + 1) τ1 (t0 μ) := by
            refine hR.mk1 (fun a ha => d1 a (by omega)) ⟨x, by rw [d1 7 (by omega)]; exact x1, by omega, Or.inr ⟨x, Nat.le_refl _, by rw [d2]; exact x1, fun _ => ?_⟩⟩ (kF hR.1.2.2.2.2.2.2.1 (fun a h1 h2 => d1 a (by omega))) (kT hR.1.2.2.2.2.2.2.2.1 (fun a h1 h2 => d1 a (by omega)) rfl (fun _ _ _ => rfl))
            obtain ⟨q1, q2, q3⟩ := muP_l (muP_t0 μ)
            rw [q2, q3]
            exact d3
          obtain ⟨v1, v2, v3, v4⟩ := d3
          refine st_iload_n hc dX11_among_70 rfl rfl ?_
          rcases sw_c 3 (by decide) w with hsw | ⟨ksw, hksw, esw⟩
          · refine st_tableOut (tgt := 120) hc dX11_among_71 (by rcases hsw with q | q; exact Or.inl (by omega); exact Or.inr (by omega)) (by decide) ?_
            have hne : ∀ n, n < 3 → ¬ w = nI n := fun n hn e => by
              rw [e, nI_toInt (by omega)] at hsw
              omega
            refine st_aload_n hc dX11_among_120 rfl rfl ?_
            refine st_getr hc dX11_among_121 flX11_42 rfl rfl ?_
            refine st_getE hc dX11_among_124 flX11_259 rfl rfl (v4) ?_
            refine st_iret (st := []) hc dX11_among_127 rfl ?_
            exact ⟨(by unfold sp_among; rw [if_neg hw, if_neg h18, if_neg h49, if_neg (show ¬ w = 0 from hne 0 (by decide)), if_neg (show ¬ w = 1 from hne 1 (by decide)), if_neg (show ¬ w = 2 from hne 2 (by decide))]), hR1⟩
          · rcases (show ksw = 0 ∨ ksw = 1 ∨ ksw = 2 by omega) with rfl | rfl | rfl
            · subst esw
              refine st_tableIn (off := 25) (tgt := 96) hc dX11_among_71 (by decide) (by decide) (by decide) (by decide) ?_
              refine st_aload_n hc dX11_among_96 rfl rfl ?_
              refine st_getr hc dX11_among_97 flX11_42 rfl rfl ?_
              refine st_getE hc dX11_among_100 flX11_250 rfl rfl (v1) ?_
              refine st_iret (st := []) hc dX11_among_103 rfl ?_
              exact ⟨(by unfold sp_among; rw [if_neg hw, if_neg h18, if_neg h49, if_pos (by rfl)]), hR1⟩
            · subst esw
              refine st_tableIn (off := 33) (tgt := 104) hc dX11_among_71 (by decide) (by decide) (by decide) (by decide) ?_
              refine st_aload_n hc dX11_among_104 rfl rfl ?_
              refine st_getr hc dX11_among_105 flX11_42 rfl rfl ?_
              refine st_getE hc dX11_among_108 flX11_253 rfl rfl (v2) ?_
              refine st_iret (st := []) hc dX11_among_111 rfl ?_
              exact ⟨(by unfold sp_among; rw [if_neg hw, if_neg h18, if_neg h49, if_neg (by decide), if_pos (by rfl)]), hR1⟩
            · subst esw
              refine st_tableIn (off := 41) (tgt := 112) hc dX11_among_71 (by decide) (by decide) (by decide) (by decide) ?_
              refine st_aload_n hc dX11_among_112 rfl rfl ?_
              refine st_getr hc dX11_among_113 flX11_42 rfl rfl ?_
              refine st_getE hc dX11_among_116 flX11_256 rfl rfl (v3) ?_
              refine st_iret (st := []) hc dX11_among_119 rfl ?_
              exact ⟨(by unfold sp_among; rw [if_neg hw, if_neg h18, if_neg h49, if_neg (by decide), if_neg (by decide), if_pos (by rfl)]), hR1⟩
        · have h49 : 200000 < nN μ * lm μ := Nat.lt_of_not_le (fun q => h49 (nI_le (b := 200000) q (by decide)))
          refine st_bipush (v := (-5)) hc dX11_among_52 (by decide) ?_
          refine st_iret (st := []) hc dX11_among_54 rfl ?_
          refine ⟨?_, hR⟩
          unfold sp_among
          rw [if_neg hw, if_neg h18, if_pos h49]
      · have h18 : lm μ = 0 := nI_inj (b := 0) (by omega) (by decide) h18
        refine st_iload_n hc dX11_among_21 rfl rfl ?_
        refine st_iconst (v := 2) hc dX11_among_22 (by decide) ?_
        refine st_t_icmp_ge (a := 0) (b := (-1)) hc dX11_among_23 dX11_among_26 dX11_among_27 dX11_among_30 (by decide) (by decide) ?_
        refine st_iret (st := []) hc dX11_among_31 rfl ?_
        refine ⟨?_, hR⟩
        unfold sp_among
        rw [if_neg hw, if_pos h18]
        by_cases q : w < 2
        · rw [if_pos q, if_neg (Int32.not_le.mpr q)]
        · rw [if_neg q, if_pos (Int32.not_lt.mp q)]
    · have hw : ¬ (0 ≤ w ∧ w ≤ 3) := fun q => h6 q.2
      refine st_iconst (v := (-1)) hc dX11_among_9 (by decide) ?_
      refine st_iret (st := []) hc dX11_among_10 rfl ?_
      refine ⟨?_, hR⟩
      unfold sp_among
      rw [if_pos hw]
theorem C11_like {k : Nat} {σ μ : St} (h : Rel k σ μ) (a b : Int32) : Mt YC mX11_like 70 [.ref 0, .int a, .int b] σ (fun r τ => r = some (.int (sp_like μ a b).1) ∧ Rel (k + 1) τ (sp_like μ a b).2) := by
  obtain ⟨⟨f1, f2, f3, f4⟩, ⟨e1, e2, e3, e4⟩, ⟨g1, g2, g3⟩, -⟩ := h.f
  have hR : Rel (k + 1) σ (t0 μ) := h.t
  have e2p : (sp_like μ a b).2 = t0 μ := rfl
  rw [e2p]
  refine Mt.ofA [some (.ref 0), some (.int a), some (.int b)] (by decide) (fun _ => Nat.le_of_ble_eq_true rfl) (fun _ => rfl) (fun g hc => ?_)
  refine st_aload_n hc dX11_like_0 rfl rfl ?_
  refine st_getr hc dX11_like_1 flX11_12 rfl rfl ?_
  refine st_iload_n hc dX11_like_4 rfl rfl ?_
  refine st_callVp hc dX11_like_5 (C0_has 60 σ g3 e2 a) mvX11_128 (by omega) rfl rfl rfl (Nat.le_of_ble_eq_true rfl) ?_
  refine st_if_eq (tgt := 22) hc dX11_like_8 (by decide) (fun h8 => ?_) (fun h8 => ?_)
  · have hno : ¬ ((0 ≤ a ∧ nat a < nN μ) ∧ (0 ≤ b ∧ nat b < nN μ)) := fun q => of_decide_eq_false (bI_0.mp h8) q.1
    refine st_iconst (v := (-1)) hc dX11_like_22 (by decide) ?_
    refine st_iret (st := []) hc dX11_like_23 rfl ?_
    refine ⟨?_, hR⟩
    unfold sp_like
    rw [if_pos hno]
  · have q1 := of_decide_eq_true (bI_t h8)
    refine st_aload_n hc dX11_like_11 rfl rfl ?_
    refine st_getr hc dX11_like_12 flX11_12 rfl rfl ?_
    refine st_iload_n hc dX11_like_15 rfl rfl ?_
    refine st_callVp hc dX11_like_16 (C0_has 60 σ g3 e2 b) mvX11_128 (by omega) rfl rfl rfl (Nat.le_of_ble_eq_true rfl) ?_
    refine st_if_ne (tgt := 24) hc dX11_like_19 (by decide) (fun h19 => ?_) (fun h19 => ?_)
    · have q2 := of_decide_eq_true (bI_t h19)
      have hok : ¬ ¬ ((0 ≤ a ∧ nat a < nN μ) ∧ (0 ≤ b ∧ nat b < nN μ)) := fun q => q ⟨q1, q2⟩
      refine st_aload_n hc dX11_like_24 rfl rfl ?_
      refine st_getr hc dX11_like_25 flX11_12 rfl rfl ?_
      refine st_getE hc dX11_like_28 flX11_162 rfl rfl (g1) ?_
      refine st_iconst (v := 4) hc dX11_like_31 (by decide) ?_
      refine st_icmp_gt (tgt := 46) hc dX11_like_32 (by decide) (fun h32 => ?_) (fun h32 => ?_)
      · have hbig : 4 < pN μ ∨ 5 < cN μ := Or.inl ((nI_ltI (a := 4) (by decide) (by omega)).mp h32)
        refine st_bipush (v := (-5)) hc dX11_like_46 (by decide) ?_
        refine st_iret (st := []) hc dX11_like_48 rfl ?_
        refine ⟨?_, hR⟩
        unfold sp_like
        rw [if_neg hok, if_pos hbig]
      · have h32 : ¬ 4 < pN μ := fun q => h32 ((nI_ltI (a := 4) (by decide) (by omega)).mpr q)
        refine st_aload_n hc dX11_like_35 rfl rfl ?_
        refine st_getr hc dX11_like_36 flX11_12 rfl rfl ?_
        refine st_getE hc dX11_like_39 flX11_165 rfl rfl (g2) ?_
        refine st_iconst (v := 5) hc dX11_like_42 (by decide) ?_
        refine st_icmp_le (tgt := 49) hc dX11_like_43 (by decide) (fun h43 => ?_) (fun h43 => ?_)
        · have h43 : cN μ ≤ 5 := (nI_leI (b := 5) (by omega) (by decide)).mp h43
          have hld := C10_leads 60 σ h.1.2.1 (by omega) h43 (by rw [← e1]; exact h.L) (by rw [← e1]; exact h.A) (a := nat a) (b := nat b) (by rw [← e1]; exact q1.2) (by rw [← e1]; exact q2.2)
          rw [nI_nat q1.1, nI_nat q2.1] at hld
          refine st_aload_n hc dX11_like_49 rfl rfl ?_
          refine st_getr hc dX11_like_50 flX11_49 rfl rfl ?_
          refine st_aload_n hc dX11_like_53 rfl rfl ?_
          refine st_getr hc dX11_like_54 flX11_21 rfl rfl ?_
          refine st_iload_n hc dX11_like_57 rfl rfl ?_
          refine st_iload_n hc dX11_like_58 rfl rfl ?_
          refine st_callVq hc dX11_like_59 (hld) mvX11_262 (by omega) rfl rfl rfl (Nat.le_of_ble_eq_true rfl) ?_
          rintro τ1 j1
          refine st_t_if_eq (a := 1) (b := 0) hc dX11_like_62 dX11_like_65 dX11_like_66 dX11_like_69 (by decide) (by decide) ?_
          refine st_iret (st := []) hc dX11_like_70 rfl ?_
          refine ⟨?_, hR.eqC (fun x hx _ => j1 x (fun q => ?_)) (by rw [j1 52 (by decide)]) (by rw [j1 52 (by decide)])⟩
          · unfold sp_like
            rw [if_neg hok, if_neg (show ¬ (4 < pN μ ∨ 5 < cN μ) from fun q => by omega)]
            show _ = some (Value.int (bI (likeB μ (nat a) (nat b))))
            have : likeB μ (nat a) (nat b) = anyN (fct (pN μ)) (fun x => anyN (fct (cN μ)) (goodC (pN μ) (cN μ) (lm μ) (lth μ) (lf (okN μ) (fbN μ) (liN μ)) (nat a) (nat b) x)) := rfl
            rw [this]
            rcases anyN (fct (pN μ)) (fun x => anyN (fct (cN μ)) (goodC (pN μ) (cN μ) (lm μ) (lth μ) (lf (okN μ) (fbN μ) (liN μ)) (nat a) (nat b) x)) with _ | _ <;> rfl
          · rcases (show x = 23 ∨ x = 24 ∨ x = 25 by omega) with rfl | rfl | rfl <;> exact absurd hx (by decide)
        · have hbig : 4 < pN μ ∨ 5 < cN μ := Or.inr (Nat.lt_of_not_le (fun q => h43 (nI_le (b := 5) q (by decide))))
          refine st_bipush (v := (-5)) hc dX11_like_46 (by decide) ?_
          refine st_iret (st := []) hc dX11_like_48 rfl ?_
          refine ⟨?_, hR⟩
          unfold sp_like
          rw [if_neg hok, if_pos hbig]
    · have hno : ¬ ((0 ≤ a ∧ nat a < nN μ) ∧ (0 ≤ b ∧ nat b < nN μ)) := fun q => of_decide_eq_false (bI_0.mp h19) q.2
      refine st_iconst (v := (-1)) hc dX11_like_22 (by decide) ?_
      refine st_iret (st := []) hc dX11_like_23 rfl ?_
      refine ⟨?_, hR⟩
      unfold sp_like
      rw [if_pos hno]

