/-! ===== calls of the class: sorts, parts, counts ===== -/
theorem npA_dup {f : Nat → Nat} (hf : ∀ i, f i < 60) : ∀ n, (npA n f = n ↔ dupN n f = false) ∧ npA n f ≤ n := by
  intro n
  induction n with
  | zero => exact ⟨⟨fun _ => rfl, fun _ => cnt_zero (fun _ _ => rfl)⟩, Nat.le_of_eq (cnt_zero (fun _ _ => rfl))⟩
  | succ n ih =>
    have hs := npA_s (n := n) (f := f) (hf n)
    have hd : dupN (n + 1) f = (dupN n f || anyN n (fun m => f n == f m)) := rfl
    have hz : szA n f (f n) = 0 ↔ anyN n (fun m => f n == f m) = false := by
      constructor
      · intro h
        rcases hy : anyN n (fun m => f n == f m) with _ | _
        · rfl
        · obtain ⟨m, hm, q⟩ := (anyN_iff _ _).mp hy
          have := cnt_lt (p := fun k => f k == f n) hm (by rw [eq_of_beq q]; simp)
          have h : cnt n (fun k => f k == f n) = 0 := h
          omega
      · intro h
        exact cnt_zero (fun i hi => by
          have := anyN_false h i hi
          by_cases e : f i = f n
          · rw [e] at this; simp at this
          · exact beq_false_of_ne e)
    rw [hs, hd]
    by_cases e : szA n f (f n) = 0
    · rw [if_pos e, hz.mp e, Bool.or_false]
      exact ⟨⟨fun q => ih.1.mp (by omega), fun q => by rw [ih.1.mpr q]⟩, by omega⟩
    · rw [if_neg e]
      have : anyN n (fun m => f n == f m) = true := by
        rcases hy : anyN n (fun m => f n == f m) with _ | _
        · exact absurd (hz.mpr hy) e
        · rfl
      rw [this, Bool.or_true]
      exact ⟨⟨fun q => by omega, fun q => absurd q (by decide)⟩, by omega⟩
theorem any_c {n : Nat} {p q : Nat → Bool} (h : ∀ i, i < n → p i = q i) : anyN n p = anyN n q := by
  induction n with
  | zero => rfl
  | succ n ih => rw [anyN_s, anyN_s, ih (fun i hi => h i (by omega)), h n (by omega)]
theorem numH_c {C : Nat} {f h : Nat → Int32} : ∀ n, (∀ i, i < n → f i = h i) → numH C f n = numH C h n := by
  intro n
  induction n with
  | zero => intro _; rfl
  | succ n ih => intro e; unfold numH; rw [ih (fun i hi => e i (by omega)), e n (by omega)]
theorem C11_sortOfHand {k : Nat} {σ μ : St} (h : Rel k σ μ) : Mt YC mX11_sortOfHand 64 [.ref 0] σ (fun r τ => r = some (.int (sortS μ)) ∧ ∀ a, ¬ (a = 19 ∨ a = 20) → τ a = σ a) := by
  obtain ⟨⟨f1, f2, f3, f4⟩, ⟨e1, e2, e3, e4⟩, ⟨g1, g2, g3⟩, -⟩ := h.f
  obtain ⟨H1, H2, H3⟩ := h.1.2.2.2.2.1
  obtain ⟨l1, l2, l3⟩ := id h.L
  have hbl : blankH (pN μ) (σ 18) = blankH (pN μ) (μ 2) := any_c (fun i hi => by rw [H1 i hi])
  have hnu : numH (cN μ) (σ 18) (pN μ) = numH (cN μ) (μ 2) (pN μ) := numH_c _ H1
  have hno := C0_numberOf 60 σ h.1.2.1.1 gs17 h.row
  rw [hbl, hnu] at hno
  have hrow := h.1.1.2.1
  have hA60 : ∀ c, ans (pN μ) (cN μ) (μ 2) c < 60 := fun c => by have := ans_50 f2 (C := cN μ) (μ 2) c; omega
  refine Mt.ofA [some (.ref 0), none] (by decide) (fun _ => Nat.le_of_ble_eq_true rfl) (fun _ => rfl) (fun g hc => ?_)
  refine st_aload_n hc dX11_sortOfHand_0 rfl rfl ?_
  refine st_getr hc dX11_sortOfHand_1 flX11_12 rfl rfl ?_
  refine st_aload_n hc dX11_sortOfHand_4 rfl rfl ?_
  refine st_getr hc dX11_sortOfHand_5 flX11_28 rfl rfl ?_
  refine st_callVp hc dX11_sortOfHand_8 (hno) mvX11_175 (by omega) rfl rfl rfl (Nat.le_of_ble_eq_true rfl) ?_
  refine st_istore_n hc dX11_sortOfHand_11 rfl (by decide) rfl ?_
  refine st_iload_n hc dX11_sortOfHand_12 rfl rfl ?_
  refine st_iconst (v := (-1)) hc dX11_sortOfHand_13 (by decide) ?_
  refine st_icmp_ne (tgt := 19) hc dX11_sortOfHand_14 (by decide) (fun h14 => ?_) (fun h14 => ?_)
  · have hb : ¬ blankH (pN μ) (μ 2) = true := fun q => h14 (by rw [if_pos q])
    rw [if_neg hb]
    have hlt : numH (cN μ) (μ 2) (pN μ) < nN μ := by
      rw [e1]
      refine numH_lt _ (fun j hj => ?_)
      have hz : blankH (pN μ) (μ 2) = false := by simpa using hb
      rcases hrow j hj with q | q
      · have := anyN_false hz j hj; rw [q] at this; exact absurd this (by decide)
      · exact q.2
    refine st_aload_n hc dX11_sortOfHand_19 rfl rfl ?_
    refine st_getr hc dX11_sortOfHand_20 flX11_21 rfl rfl ?_
    refine st_iload_n hc dX11_sortOfHand_23 rfl rfl ?_
    refine st_callVp hc dX11_sortOfHand_24 (C5_isLeftN 60 σ h.A hlt) mvX11_179 (by omega) rfl rfl rfl (Nat.le_of_ble_eq_true rfl) ?_
    refine st_if_ne (tgt := 32) hc dX11_sortOfHand_27 (by decide) (fun h27 => ?_) (fun h27 => ?_)
    · have h27 : ¬ mLs μ (numH (cN μ) (μ 2) (pN μ)) = false := fun q => h27 (bI_0.mpr q)
      refine st_aload_n hc dX11_sortOfHand_32 rfl rfl ?_
      refine st_getr hc dX11_sortOfHand_33 flX11_21 rfl rfl ?_
      refine st_getE hc dX11_sortOfHand_36 flX11_182 rfl rfl (l1) ?_
      refine st_iconst (v := 1) hc dX11_sortOfHand_39 (by decide) ?_
      refine st_icmp_ne (tgt := 45) hc dX11_sortOfHand_40 (by decide) (fun h40 => ?_) (fun h40 => ?_)
      · have h40 : ¬ lm μ = 1 := fun q => h40 (by rw [q]; rfl)
        refine st_aload_n hc dX11_sortOfHand_45 rfl rfl ?_
        refine st_getr hc dX11_sortOfHand_46 flX11_35 rfl rfl ?_
        refine st_aload_n hc dX11_sortOfHand_49 rfl rfl ?_
        refine st_getr hc dX11_sortOfHand_50 flX11_21 rfl rfl ?_
        refine st_aload_n hc dX11_sortOfHand_53 rfl rfl ?_
        refine st_getr hc dX11_sortOfHand_54 flX11_28 rfl rfl ?_
        refine st_getE hc dX11_sortOfHand_57 flX11_185 rfl rfl (H2) ?_
        refine st_aload_n hc dX11_sortOfHand_60 rfl rfl ?_
        refine st_getr hc dX11_sortOfHand_61 flX11_28 rfl rfl ?_
        refine st_getE hc dX11_sortOfHand_64 flX11_188 rfl rfl (H3) ?_
        refine st_callVn hc dX11_sortOfHand_67 (C3_divide 60 σ h.1.2.1 (by rw [← e1]; exact h.L) (μ 2)) mvX11_191 (by omega) rfl rfl rfl (Nat.le_of_ble_eq_true rfl) ?_
        rintro τ1 ⟨d1, d2, d3, d4⟩
        refine st_aload_n hc dX11_sortOfHand_70 rfl rfl ?_
        refine st_getr hc dX11_sortOfHand_71 flX11_35 rfl rfl ?_
        refine st_getE hc dX11_sortOfHand_74 flX11_195 rfl rfl (d2) ?_
        refine st_aload_n hc dX11_sortOfHand_77 rfl rfl ?_
        refine st_getr hc dX11_sortOfHand_78 flX11_21 rfl rfl ?_
        refine st_getE hc dX11_sortOfHand_81 flX11_182 rfl rfl ((by rw [d1 7 (by omega)]; exact l1 : _ = nI (lm μ))) ?_
        refine st_t_icmp_ne (a := 2) (b := 1) hc dX11_sortOfHand_84 dX11_sortOfHand_87 dX11_sortOfHand_88 dX11_sortOfHand_91 (by decide) (by decide) ?_
        refine st_iret (st := []) hc dX11_sortOfHand_92 rfl ?_
        refine ⟨?_, d1⟩
        unfold sortS
        rw [if_neg hb, if_neg h27, if_neg h40]
        obtain ⟨n1, n2⟩ := npA_dup (f := fun k => ans (pN μ) (cN μ) (μ 2) (lth μ k)) (fun i => hA60 _) (lm μ)
        by_cases q : npA (lm μ) (fun k => ans (pN μ) (cN μ) (μ 2) (lth μ k)) = lm μ
        · rw [if_pos (by rw [q]), if_neg (by rw [n1.mp q]; decide)]
        · rw [if_neg (fun z => q (nI_inj (by omega) (by omega) z)), if_pos (by
            rcases hz : dupN (lm μ) (fun k => ans (pN μ) (cN μ) (μ 2) (lth μ k)) with _ | _
            · exact absurd (n1.mpr hz) q
            · rfl)]
      · have h40 : lm μ = 1 := nI_inj (b := 1) (by omega) (by decide) h40
        refine st_iconst (v := 4) hc dX11_sortOfHand_43 (by decide) ?_
        refine st_iret (st := []) hc dX11_sortOfHand_44 rfl ?_
        refine ⟨?_, fun _ _ => rfl⟩
        unfold sortS
        rw [if_neg hb, if_neg h27, if_pos h40]
    · have h27 : mLs μ (numH (cN μ) (μ 2) (pN μ)) = false := bI_0.mp h27
      refine st_iconst (v := 0) hc dX11_sortOfHand_30 (by decide) ?_
      refine st_iret (st := []) hc dX11_sortOfHand_31 rfl ?_
      refine ⟨?_, fun _ _ => rfl⟩
      unfold sortS
      rw [if_neg hb, if_pos h27]
  · have hb : blankH (pN μ) (μ 2) = true := by
      rcases hz : blankH (pN μ) (μ 2) with _ | _
      · rw [hz, if_neg (by decide)] at h14
        have hlt : numH (cN μ) (μ 2) (pN μ) < cN μ ^ pN μ := numH_lt _ (fun j hj => by
          rcases hrow j hj with q | q
          · have := anyN_false hz j hj; rw [q] at this; exact absurd this (by decide)
          · exact q.2)
        exact absurd h14.symm (nI_neg1 (by omega))
      · rfl
    refine st_iconst (v := 3) hc dX11_sortOfHand_17 (by decide) ?_
    refine st_iret (st := []) hc dX11_sortOfHand_18 rfl ?_
    refine ⟨?_, fun _ _ => rfl⟩
    unfold sortS
    rw [if_pos hb]
theorem C11_sort {k : Nat} {σ μ : St} (h : Rel k σ μ) : Mt YC mX11_sort 70 [.ref 0] σ (fun r τ => r = some (.int (sp_sort μ).1) ∧ Rel (k + 1) τ (sp_sort μ).2) := by
  refine Mt.ofA [some (.ref 0)] (by decide) (fun _ => Nat.le_of_ble_eq_true rfl) (fun _ => rfl) (fun g hc => ?_)
  refine st_aload_n hc dX11_sort_0 rfl rfl ?_
  refine st_callVq hc dX11_sort_1 (C11_sortOfHand h) mvX11_171 (by omega) rfl rfl rfl (Nat.le_of_ble_eq_true rfl) ?_
  rintro τ1 e1
  refine st_iret (st := []) hc dX11_sort_4 rfl ?_
  exact ⟨rfl, h.t.eqD e1⟩
theorem C11_partsOfHand {k : Nat} {σ μ : St} (h : Rel k σ μ) : Mt YC mX11_partsOfHand 64 [.ref 0] σ (fun r τ => r = some (.int (nI (npA (lm μ) (hA μ)))) ∧ ∀ a, ¬ (a = 19 ∨ a = 20) → τ a = σ a) := by
  obtain ⟨-, ⟨e1, e2, e3, e4⟩, -, -⟩ := h.f
  obtain ⟨H1, H2, H3⟩ := h.1.2.2.2.2.1
  refine Mt.ofA [some (.ref 0)] (by decide) (fun _ => Nat.le_of_ble_eq_true rfl) (fun _ => rfl) (fun g hc => ?_)
  refine st_aload_n hc dX11_partsOfHand_0 rfl rfl ?_
  refine st_getr hc dX11_partsOfHand_1 flX11_35 rfl rfl ?_
  refine st_aload_n hc dX11_partsOfHand_4 rfl rfl ?_
  refine st_getr hc dX11_partsOfHand_5 flX11_21 rfl rfl ?_
  refine st_aload_n hc dX11_partsOfHand_8 rfl rfl ?_
  refine st_getr hc dX11_partsOfHand_9 flX11_28 rfl rfl ?_
  refine st_getE hc dX11_partsOfHand_12 flX11_185 rfl rfl (H2) ?_
  refine st_aload_n hc dX11_partsOfHand_15 rfl rfl ?_
  refine st_getr hc dX11_partsOfHand_16 flX11_28 rfl rfl ?_
  refine st_getE hc dX11_partsOfHand_19 flX11_188 rfl rfl (H3) ?_
  refine st_callVn hc dX11_partsOfHand_22 (C3_divide 60 σ h.1.2.1 (by rw [← e1]; exact h.L) (μ 2)) mvX11_191 (by omega) rfl rfl rfl (Nat.le_of_ble_eq_true rfl) ?_
  rintro τ1 ⟨d1, d2, d3, d4⟩
  refine st_aload_n hc dX11_partsOfHand_25 rfl rfl ?_
  refine st_getr hc dX11_partsOfHand_26 flX11_35 rfl rfl ?_
  refine st_getE hc dX11_partsOfHand_29 flX11_195 rfl rfl (d2) ?_
  refine st_iret (st := []) hc dX11_partsOfHand_32 rfl ?_
  exact ⟨rfl, d1⟩
theorem C11_count {k : Nat} {σ μ : St} (h : Rel k σ μ) (w : Int32) : Mt YC mX11_count 70 [.ref 0, .int w] σ (fun r τ => r = some (.int (sp_count μ w).1) ∧ Rel (k + 1) τ (sp_count μ w).2) := by
  obtain ⟨-, ⟨e1, e2, e3, e4⟩, ⟨g1, g2, g3⟩, ⟨u0, u1, u9, u5⟩⟩ := h.f
  obtain ⟨p1, p2, p3, p4, p5, p6, p7, p8, p9, -⟩ := h.1.2.2.1
  have hR := h.t
  have hm2 : μ 0 2 = nI (nN μ) := h.1.1.1.1.2.1
  refine Mt.ofA [some (.ref 0), some (.int w)] (by decide) (fun _ => Nat.le_of_ble_eq_true rfl) (fun _ => rfl) (fun g hc => ?_)
  refine st_iload_n hc dX11_count_0 rfl rfl ?_
  rcases sw_c 13 (by decide) w with hsw | ⟨ksw, hksw, esw⟩
  · refine st_tableOut (tgt := 166) hc dX11_count_1 (by rcases hsw with q | q; exact Or.inl (by omega); exact Or.inr (by omega)) (by decide) ?_
    have hne : ∀ n, n < 13 → ¬ w = nI n := fun n hn e => by
      rw [e, nI_toInt (by omega)] at hsw
      omega
    refine st_iconst (v := (-1)) hc dX11_count_166 (by decide) ?_
    refine st_iret (st := []) hc dX11_count_167 rfl ?_
    refine ⟨?_, hR⟩
    unfold sp_count
    rw [if_neg (show ¬ w = 0 from hne 0 (by decide)), if_neg (show ¬ w = 1 from hne 1 (by decide)), if_neg (show ¬ w = 2 from hne 2 (by decide)), if_neg (show ¬ w = 3 from hne 3 (by decide)), if_neg (show ¬ w = 4 from hne 4 (by decide)), if_neg (show ¬ w = 5 from hne 5 (by decide)), if_neg (show ¬ w = 6 from hne 6 (by decide)), if_neg (show ¬ w = 7 from hne 7 (by decide)), if_neg (show ¬ w = 8 from hne 8 (by decide)), if_neg (show ¬ w = 9 from hne 9 (by decide)), if_neg (show ¬ w = 10 from hne 10 (by decide)), if_neg (show ¬ w = 11 from hne 11 (by decide)), if_neg (show ¬ w = 12 from hne 12 (by decide))]
  · rcases (show ksw = 0 ∨ ksw = 1 ∨ ksw = 2 ∨ ksw = 3 ∨ ksw = 4 ∨ ksw = 5 ∨ ksw = 6 ∨ ksw = 7 ∨ ksw = 8 ∨ ksw = 9 ∨ ksw = 10 ∨ ksw = 11 ∨ ksw = 12 by omega) with rfl | rfl | rfl | rfl | rfl | rfl | rfl | rfl | rfl | rfl | rfl | rfl | rfl
    · subst esw
      refine st_tableIn (off := 67) (tgt := 68) hc dX11_count_1 (by decide) (by decide) (by decide) (by decide) ?_
      refine st_aload_n hc dX11_count_68 rfl rfl ?_
      refine st_getr hc dX11_count_69 flX11_12 rfl rfl ?_
      refine st_getE hc dX11_count_72 flX11_162 rfl rfl rfl ?_
      refine st_iret (st := []) hc dX11_count_75 rfl ?_
      exact ⟨(by show some (Value.int (σ 1 0)) = some (Value.int (μ 0 0)); rw [g1, u0]), hR⟩
    · subst esw
      refine st_tableIn (off := 75) (tgt := 76) hc dX11_count_1 (by decide) (by decide) (by decide) (by decide) ?_
      refine st_aload_n hc dX11_count_76 rfl rfl ?_
      refine st_getr hc dX11_count_77 flX11_12 rfl rfl ?_
      refine st_getE hc dX11_count_80 flX11_165 rfl rfl rfl ?_
      refine st_iret (st := []) hc dX11_count_83 rfl ?_
      exact ⟨(by show some (Value.int (σ 1 1)) = some (Value.int (μ 0 1)); rw [g2, u1]), hR⟩
    · subst esw
      refine st_tableIn (off := 83) (tgt := 84) hc dX11_count_1 (by decide) (by decide) (by decide) (by decide) ?_
      refine st_aload_n hc dX11_count_84 rfl rfl ?_
      refine st_getr hc dX11_count_85 flX11_12 rfl rfl ?_
      refine st_getE hc dX11_count_88 flX11_94 rfl rfl rfl ?_
      refine st_iret (st := []) hc dX11_count_91 rfl ?_
      exact ⟨(by show some (Value.int (σ 1 2)) = some (Value.int (μ 0 2)); rw [g3, hm2]), hR⟩
    · subst esw
      refine st_tableIn (off := 91) (tgt := 92) hc dX11_count_1 (by decide) (by decide) (by decide) (by decide) ?_
      refine st_aload_n hc dX11_count_92 rfl rfl ?_
      refine st_getr hc dX11_count_93 flX11_21 rfl rfl ?_
      refine st_getE hc dX11_count_96 flX11_125 rfl rfl rfl ?_
      refine st_iret (st := []) hc dX11_count_99 rfl ?_
      exact ⟨(by show some (Value.int (σ 7 12)) = _; rw [p5]; rfl), hR⟩
    · subst esw
      refine st_tableIn (off := 99) (tgt := 100) hc dX11_count_1 (by decide) (by decide) (by decide) (by decide) ?_
      refine st_aload_n hc dX11_count_100 rfl rfl ?_
      refine st_getr hc dX11_count_101 flX11_21 rfl rfl ?_
      refine st_getE hc dX11_count_104 flX11_182 rfl rfl rfl ?_
      refine st_iret (st := []) hc dX11_count_107 rfl ?_
      exact ⟨(by show some (Value.int (σ 7 13)) = _; rw [p6]; rfl), hR⟩
    · subst esw
      refine st_tableIn (off := 107) (tgt := 108) hc dX11_count_1 (by decide) (by decide) (by decide) (by decide) ?_
      refine st_aload_n hc dX11_count_108 rfl rfl ?_
      refine st_getr hc dX11_count_109 flX11_21 rfl rfl ?_
      refine st_getE hc dX11_count_112 flX11_119 rfl rfl rfl ?_
      refine st_iret (st := []) hc dX11_count_115 rfl ?_
      exact ⟨(by show some (Value.int (σ 7 14)) = _; rw [p7]; rfl), hR⟩
    · subst esw
      refine st_tableIn (off := 115) (tgt := 116) hc dX11_count_1 (by decide) (by decide) (by decide) (by decide) ?_
      refine st_aload_n hc dX11_count_116 rfl rfl ?_
      refine st_callVq hc dX11_count_117 (C11_partsOfHand h) mvX11_398 (by omega) rfl rfl rfl (Nat.le_of_ble_eq_true rfl) ?_
      rintro τ1 e1
      refine st_iret (st := []) hc dX11_count_120 rfl ?_
      exact ⟨rfl, hR.eqD e1⟩
    · subst esw
      refine st_tableIn (off := 120) (tgt := 121) hc dX11_count_1 (by decide) (by decide) (by decide) (by decide) ?_
      refine st_aload_n hc dX11_count_121 rfl rfl ?_
      refine st_getr hc dX11_count_122 flX11_68 rfl rfl ?_
      refine st_getE hc dX11_count_125 flX11_110 rfl rfl rfl ?_
      refine st_iret (st := []) hc dX11_count_128 rfl ?_
      exact ⟨(by show some (Value.int (σ 46 5)) = _; rw [h.1.2.2.2.2.2.2.2.1.1]; rfl), hR⟩
    · subst esw
      refine st_tableIn (off := 128) (tgt := 129) hc dX11_count_1 (by decide) (by decide) (by decide) (by decide) ?_
      refine st_aload_n hc dX11_count_129 rfl rfl ?_
      refine st_getr hc dX11_count_130 flX11_75 rfl rfl ?_
      refine st_getE hc dX11_count_133 flX11_310 rfl rfl rfl ?_
      refine st_iret (st := []) hc dX11_count_136 rfl ?_
      exact ⟨(by show some (Value.int (σ 52 8)) = _; rw [h.1.2.2.2.2.2.2.2.2.1.1]; rfl), hR⟩
    · subst esw
      refine st_tableIn (off := 136) (tgt := 137) hc dX11_count_1 (by decide) (by decide) (by decide) (by decide) ?_
      refine st_aload_n hc dX11_count_137 rfl rfl ?_
      refine st_getr hc dX11_count_138 flX11_21 rfl rfl ?_
      refine st_getE hc dX11_count_141 flX11_142 rfl rfl rfl ?_
      refine st_iret (st := []) hc dX11_count_144 rfl ?_
      exact ⟨(by show some (Value.int (σ 7 10)) = _; rw [p3]; rfl), hR⟩
    · subst esw
      refine st_tableIn (off := 144) (tgt := 145) hc dX11_count_1 (by decide) (by decide) (by decide) (by decide) ?_
      refine st_aload_n hc dX11_count_145 rfl rfl ?_
      refine st_getr hc dX11_count_146 flX11_21 rfl rfl ?_
      refine st_getE hc dX11_count_149 flX11_401 rfl rfl rfl ?_
      refine st_iret (st := []) hc dX11_count_152 rfl ?_
      exact ⟨(by show some (Value.int (σ 7 8)) = _; rw [p1]; rfl), hR⟩
    · subst esw
      refine st_tableIn (off := 152) (tgt := 153) hc dX11_count_1 (by decide) (by decide) (by decide) (by decide) ?_
      refine st_aload_n hc dX11_count_153 rfl rfl ?_
      refine st_getr hc dX11_count_154 flX11_21 rfl rfl ?_
      refine st_getE hc dX11_count_157 flX11_136 rfl rfl rfl ?_
      refine st_iret (st := []) hc dX11_count_160 rfl ?_
      exact ⟨(by show some (Value.int (σ 7 11)) = _; rw [p4]; rfl), hR⟩
    · subst esw
      refine st_tableIn (off := 160) (tgt := 161) hc dX11_count_1 (by decide) (by decide) (by decide) (by decide) ?_
      refine st_aload_n hc dX11_count_161 rfl rfl ?_
      refine st_getE hc dX11_count_162 flX11_116 rfl rfl rfl ?_
      refine st_iret (st := []) hc dX11_count_165 rfl ?_
      exact ⟨(by show some (Value.int (σ 0 11)) = _; rw [h.2]; rfl), hR⟩
theorem w1 {w m : Int32} {P : Nat} (u : m = nI P) (hP : P ≤ 5) (q : 1 ≤ w ∧ w ≤ m) : 0 ≤ w - 1 ∧ nat (w - 1) < P := by
  obtain ⟨e, h1, h5⟩ := in_1n (n := P) u (by omega) q
  rw [e, show (1 : Int32) = nI 1 from rfl, nI_sub h1, nat_nI (by omega)]
  exact ⟨Int32.not_lt.mp (nI_pos (by omega)), by omega⟩
theorem w2 {w m : Int32} {P : Nat} (u : m = nI P) (hP : P ≤ 5) (q : 0 ≤ w - 1 ∧ nat (w - 1) < P) : 1 ≤ w ∧ w ≤ m := by
  have e : w = nI (nat (w - 1) + 1) := by rw [← nI_1, nI_nat q.1, Int32.sub_add_cancel]
  rw [e, u]
  exact ⟨nI_le (a := 1) (by omega) (by omega), nI_le (by omega) (by omega)⟩
theorem C11_turn {k : Nat} {σ μ : St} (h : Rel k σ μ) (t w : Int32) : Mt YC mX11_turn 70 [.ref 0, .int t, .int w] σ (fun r τ => r = some (.int (sp_turn μ t w).1) ∧ Rel (k + 1) τ (sp_turn μ t w).2) := by
  obtain ⟨⟨f1, f2, f3, f4⟩, ⟨e1, e2, e3, e4⟩, ⟨g1, g2, g3⟩, ⟨u0, u1, u9, u5⟩⟩ := h.f
  obtain ⟨p1, p2, p3, p4, p5, p6, p7, p8, p9, p10, -⟩ := h.1.2.2.1
  obtain ⟨l1, l2, l3⟩ := id h.L
  have hR : Rel (k + 1) σ (sp_turn μ t w).2 := h.t
  have htn := nat_lt t
  refine Mt.ofA [some (.ref 0), some (.int t), some (.int w)] (by decide) (fun _ => Nat.le_of_ble_eq_true rfl) (fun _ => rfl) (fun g hc => ?_)
  refine st_iload_n hc dX11_turn_0 rfl rfl ?_
  refine st_if_lt (tgt := 15) hc dX11_turn_1 (by decide) (fun h1 => ?_) (fun h1 => ?_)
  · have hbad : ¬ (0 ≤ t ∧ nat t < tN μ) := fun q => absurd h1 (Int32.not_lt.mpr q.1)
    refine st_iconst (v := (-1)) hc dX11_turn_15 (by decide) ?_
    refine st_iret (st := []) hc dX11_turn_16 rfl ?_
    refine ⟨?_, hR⟩
    unfold sp_turn
    rw [if_pos hbad]
  · have h1 := Int32.not_lt.mp h1
    refine st_iload_n hc dX11_turn_4 rfl rfl ?_
    refine st_aload_n hc dX11_turn_5 rfl rfl ?_
    refine st_getr hc dX11_turn_6 flX11_21 rfl rfl ?_
    refine st_getE hc dX11_turn_9 flX11_119 rfl rfl ((p7.trans u9)) ?_
    refine st_icmp_lt (tgt := 17) hc dX11_turn_12 (by decide) (fun h12 => ?_) (fun h12 => ?_)
    · have ht : nat t < tN μ := by rw [← nI_nat h1] at h12; exact (nI_ltI htn (by omega)).mp h12
      have hok : ¬ ¬ (0 ≤ t ∧ nat t < tN μ) := fun q => q ⟨h1, ht⟩
      refine st_iload_n hc dX11_turn_17 rfl rfl ?_
      refine st_if_ne (tgt := 31) hc dX11_turn_18 (by decide) (fun h18 => ?_) (fun h18 => ?_)
      · refine st_iload_n hc dX11_turn_31 rfl rfl ?_
        refine st_bipush (v := 6) hc dX11_turn_32 (by decide) ?_
        refine st_icmp_ne (tgt := 46) hc dX11_turn_34 (by decide) (fun h34 => ?_) (fun h34 => ?_)
        · refine st_aload_n hc dX11_turn_46 rfl rfl ?_
          refine st_getr hc dX11_turn_47 flX11_12 rfl rfl ?_
          refine st_iload_n hc dX11_turn_50 rfl rfl ?_
          refine st_iconst (v := 1) hc dX11_turn_51 (by decide) ?_
          refine st_isub hc dX11_turn_52 ?_
          refine st_callVp hc dX11_turn_53 (C0_hasPlace 60 σ g1 (by omega) (w - 1)) mvX11_148 (by omega) rfl rfl rfl (Nat.le_of_ble_eq_true rfl) ?_
          refine st_if_eq (tgt := 77) hc dX11_turn_56 (by decide) (fun h56 => ?_) (fun h56 => ?_)
          · have hno : ¬ (1 ≤ w ∧ w ≤ μ 0 0) := fun q => of_decide_eq_false (bI_0.mp h56) (w1 u0 f2 q)
            refine st_iconst (v := (-1)) hc dX11_turn_77 (by decide) ?_
            refine st_iret (st := []) hc dX11_turn_78 rfl ?_
            refine ⟨?_, hR⟩
            unfold sp_turn
            rw [if_neg hok, if_neg h18]
            first
             | (rw [if_pos hyes]; done)
             | (rw [if_neg hno, if_pos h34]; done)
          · have hyes := w2 u0 f2 (of_decide_eq_true (bI_t h56))
            obtain ⟨ew, w1', w5⟩ := in_1n (n := pN μ) u0 (by omega) hyes
            have ewi : t * 5 + w - 1 = nI (5 * nat t + (nat w - 1)) := by
              rw [ew, ← nI_nat h1, show (5 : Int32) = nI 5 from rfl, pk_mul, nI_add, show (1 : Int32) = nI 1 from rfl, nI_sub (by omega), nat_nI htn, nat_nI (by omega)]
              congr 1
              omega
            refine st_aload_n hc dX11_turn_59 rfl rfl ?_
            refine st_getr hc dX11_turn_60 flX11_21 rfl rfl ?_
            refine st_getr hc dX11_turn_63 flX11_232 rfl rfl ?_
            refine st_iload_n hc dX11_turn_66 rfl rfl ?_
            refine st_iconst (v := 5) hc dX11_turn_67 (by decide) ?_
            refine st_imul hc dX11_turn_68 ?_
            refine st_iload_n hc dX11_turn_69 rfl rfl ?_
            refine st_iadd hc dX11_turn_70 ?_
            refine st_iconst (v := 1) hc dX11_turn_71 (by decide) ?_
            refine st_isub hc dX11_turn_72 ?_
            refine st_ialdN (k := 5 * nat t + (nat w - 1)) hc dX11_turn_73 rfl (ewi) (by omega) (by first | decide | omega) ((p10 (nat t) ht).2 (nat w - 1) (by omega)) ?_
            refine st_goto (tgt := 78) hc dX11_turn_74 (by decide) ?_
            refine st_iret (st := []) hc dX11_turn_78 rfl ?_
            refine ⟨?_, hR⟩
            unfold sp_turn
            rw [if_neg hok, if_neg h18]
            first
             | (rw [if_pos hyes]; done)
             | (rw [if_neg hno, if_pos h34]; done)
        · refine st_aload_n hc dX11_turn_37 rfl rfl ?_
          refine st_getr hc dX11_turn_38 flX11_21 rfl rfl ?_
          refine st_iload_n hc dX11_turn_41 rfl rfl ?_
          have hlw := C5_leftWithFalse 60 σ (n := lm μ) (t := nat t) (Lk := lth μ) (fbk := fun k => fbN μ (lth μ k)) l1 l2 (by omega) (fun k hk => ⟨(l3 k hk).1, by have := (l3 k hk).2; omega, (p8 (lth μ k) (l3 k hk).2).2.2, fbN_lt e3 _⟩)
          rw [nI_nat h1] at hlw
          refine st_callVp hc dX11_turn_42 (hlw) mvX11_229 (by omega) rfl rfl rfl (Nat.le_of_ble_eq_true rfl) ?_
          refine st_iret (st := []) hc dX11_turn_45 rfl ?_
          refine ⟨?_, hR⟩
          unfold sp_turn
          have h6 : w = 6 := h34
          rw [if_neg hok, if_neg h18, if_neg (fun q => by
            rw [u0, h6] at q
            have := (nI_leI (a := 6) (by decide) (by omega)).mp q.2
            omega), if_neg (fun q => q h6)]
          congr 3
          refine cnt_congr (fun i hi => ?_)
          show (fbits (tN μ) _).testBit (nat t) = _
          rw [fbits_bit, decide_eq_true ht, Bool.true_and]
      · refine st_aload_n hc dX11_turn_21 rfl rfl ?_
        refine st_getr hc dX11_turn_22 flX11_21 rfl rfl ?_
        refine st_getr hc dX11_turn_25 flX11_226 rfl rfl ?_
        refine st_iload_n hc dX11_turn_28 rfl rfl ?_
        refine st_ialdN (k := nat t) hc dX11_turn_29 rfl ((nI_nat h1).symm) (by omega) (by first | decide | omega) ((p10 (nat t) ht).1) ?_
        refine st_iret (st := []) hc dX11_turn_30 rfl ?_
        refine ⟨?_, hR⟩
        unfold sp_turn
        rw [if_neg hok, if_pos h18]
    · have hbad : ¬ (0 ≤ t ∧ nat t < tN μ) := fun q => h12 (by rw [← nI_nat h1]; exact (nI_ltI htn (by omega)).mpr q.2)
      refine st_iconst (v := (-1)) hc dX11_turn_15 (by decide) ?_
      refine st_iret (st := []) hc dX11_turn_16 rfl ?_
      refine ⟨?_, hR⟩
      unfold sp_turn
      rw [if_pos hbad]
theorem C11_part {k : Nat} {σ μ : St} (h : Rel k σ μ) (i w : Int32) : Mt YC mX11_part 70 [.ref 0, .int i, .int w] σ (fun r τ => r = some (.int (sp_part μ i w).1) ∧ Rel (k + 1) τ (sp_part μ i w).2) := by
  obtain ⟨⟨f1, f2, f3, f4⟩, ⟨e1, e2, e3, e4⟩, -, -⟩ := h.f
  obtain ⟨H1, H2, H3⟩ := h.1.2.2.2.2.1
  have hlm := lm_le μ
  have hsz : ∀ a, szA (lm μ) (hA μ) a ≤ 4096 := fun a => by have := szA_le (lm μ) (hA μ) a; omega
  have h0 : ∀ a, 51 ≤ a → decide (0 < szA (lm μ) (hA μ) a) = false := fun a ha => decide_eq_false (fun q => by
    have : szA (lm μ) (hA μ) a = 0 := cnt_zero (fun k _ => beq_false_of_ne (fun z => by have := ans_50 f2 (C := cN μ) (μ 2) (lth μ k); have z : ans (pN μ) (cN μ) (μ 2) (lth μ k) = a := z; omega))
    omega)
  have hc60 : npA (lm μ) (hA μ) = cnt 51 (fun a => decide (0 < szA (lm μ) (hA μ) a)) := by
    unfold npA
    rw [show (60 : Nat) = 51 + 9 from rfl, cnt_add, cnt_zero (p := fun k => decide (0 < szA (lm μ) (hA μ) (51 + k))) (fun k _ => h0 _ (by omega)), Nat.add_zero]
  have hnth : ∀ j, j < cnt 51 (fun a => decide (0 < szA (lm μ) (hA μ) a)) → nthT 60 (fun a => decide (0 < szA (lm μ) (hA μ) a)) j = nthT 51 (fun a => decide (0 < szA (lm μ) (hA μ) a)) j := fun j hj => by
    obtain ⟨a1, a2, a3⟩ := nthT_ok hj
    exact nthT_eq (by omega) a2 a3
  have hR := h.t
  have e2p : (sp_part μ i w).2 = t0 μ := by unfold sp_part; split <;> rfl
  rw [e2p]
  refine Mt.ofA [some (.ref 0), some (.int i), some (.int w), none] (by decide) (fun _ => Nat.le_of_ble_eq_true rfl) (fun _ => rfl) (fun g hc => ?_)
  have k11 : (0 ≤ w ∧ w ≤ 1) → aW g YC 4 (fun r τ => r = some (.int (sp_part μ i w).1) ∧ Rel (k + 1) τ (t0 μ)) 11 [some (.ref 0), some (.int i), some (.int w), none] [] σ := by
    intro hw
    refine st_aload_n hc dX11_part_11 rfl rfl ?_
    refine st_getr hc dX11_part_12 flX11_35 rfl rfl ?_
    refine st_aload_n hc dX11_part_15 rfl rfl ?_
    refine st_getr hc dX11_part_16 flX11_21 rfl rfl ?_
    refine st_aload_n hc dX11_part_19 rfl rfl ?_
    refine st_getr hc dX11_part_20 flX11_28 rfl rfl ?_
    refine st_getE hc dX11_part_23 flX11_185 rfl rfl (H2) ?_
    refine st_aload_n hc dX11_part_26 rfl rfl ?_
    refine st_getr hc dX11_part_27 flX11_28 rfl rfl ?_
    refine st_getE hc dX11_part_30 flX11_188 rfl rfl (H3) ?_
    refine st_callVn hc dX11_part_33 (C3_divide 60 σ h.1.2.1 (by rw [← e1]; exact h.L) (μ 2)) mvX11_191 (by omega) rfl rfl rfl (Nat.le_of_ble_eq_true rfl) ?_
    rintro τ1 ⟨d1, d2, d3, d4⟩
    have d4' : ∀ a, a < 51 → τ1 20 a = nI (szA (lm μ) (hA μ) a) ∧ szA (lm μ) (hA μ) a ≤ 4096 := fun a ha => ⟨d4 a ha, hsz a⟩
    refine st_aload_n hc dX11_part_36 rfl rfl ?_
    refine st_getr hc dX11_part_37 flX11_35 rfl rfl ?_
    refine st_iload_n hc dX11_part_40 rfl rfl ?_
    refine st_callVp hc dX11_part_41 (C3_answerOfPart 60 τ1 d4' i) mvX11_239 (by omega) rfl rfl rfl (Nat.le_of_ble_eq_true rfl) ?_
    refine st_istore_n hc dX11_part_44 rfl (by decide) rfl ?_
    refine st_iload_n hc dX11_part_45 rfl rfl ?_
    refine st_iconst (v := (-1)) hc dX11_part_46 (by decide) ?_
    refine st_icmp_ne (tgt := 52) hc dX11_part_47 (by decide) (fun h47 => ?_) (fun h47 => ?_)
    · have hyes : 0 ≤ i ∧ nat i < cnt 51 (fun a => decide (0 < szA (lm μ) (hA μ) a)) := by
        by_cases q : 0 ≤ i ∧ nat i < cnt 51 (fun a => decide (0 < szA (lm μ) (hA μ) a))
        · exact q
        · rw [if_neg q] at h47; exact absurd rfl h47
      obtain ⟨a1, a2, a3⟩ := nthT_ok hyes.2
      rw [if_pos hyes]
      refine st_iload_n hc dX11_part_52 rfl rfl ?_
      refine st_if_ne (tgt := 60) hc dX11_part_53 (by decide) (fun h53 => ?_) (fun h53 => ?_)
      · refine st_aload_n hc dX11_part_60 rfl rfl ?_
        refine st_getr hc dX11_part_61 flX11_35 rfl rfl ?_
        refine st_getr hc dX11_part_64 flX11_242 rfl rfl ?_
        refine st_iload_n hc dX11_part_67 rfl rfl ?_
        refine st_ialdN (k := nthT 51 (fun a => decide (0 < szA (lm μ) (hA μ) a)) (nat i)) hc dX11_part_68 rfl (rfl) (a1) (by first | decide | omega) (d4 _ a1) ?_
        refine st_iret (st := []) hc dX11_part_69 rfl ?_
        refine ⟨?_, hR.eqD d1⟩
        unfold sp_part
        rw [if_pos ⟨⟨hyes.1, by rw [hc60]; exact hyes.2⟩, hw⟩, hnth _ hyes.2]
        first
         | (rw [if_pos h53]; done)
         | (rw [if_neg h53]; done)
      · refine st_iload_n hc dX11_part_56 rfl rfl ?_
        refine st_goto (tgt := 69) hc dX11_part_57 (by decide) ?_
        refine st_iret (st := []) hc dX11_part_69 rfl ?_
        refine ⟨?_, hR.eqD d1⟩
        unfold sp_part
        rw [if_pos ⟨⟨hyes.1, by rw [hc60]; exact hyes.2⟩, hw⟩, hnth _ hyes.2]
        first
         | (rw [if_pos h53]; done)
         | (rw [if_neg h53]; done)
    · have hno : ¬ (0 ≤ i ∧ nat i < cnt 51 (fun a => decide (0 < szA (lm μ) (hA μ) a))) := fun q => by
        rw [if_pos q] at h47
        have := (nthT_ok q.2).1
        exact absurd h47.symm (nI_neg1 (by omega))
      refine st_iconst (v := (-1)) hc dX11_part_50 (by decide) ?_
      refine st_iret (st := []) hc dX11_part_51 rfl ?_
      refine ⟨?_, hR.eqD d1⟩
      unfold sp_part
      rw [if_neg (fun q => hno (by rw [← hc60]; exact q.1))]
  refine st_iload_n hc dX11_part_0 rfl rfl ?_
  refine st_if_eq (tgt := 11) hc dX11_part_1 (by decide) (fun h1 => ?_) (fun h1 => ?_)
  · have hw : 0 ≤ w ∧ w ≤ 1 := by rw [h1]; decide
    exact k11 hw
  · refine st_iload_n hc dX11_part_4 rfl rfl ?_
    refine st_iconst (v := 1) hc dX11_part_5 (by decide) ?_
    refine st_icmp_eq (tgt := 11) hc dX11_part_6 (by decide) (fun h6 => ?_) (fun h6 => ?_)
    · have hw : 0 ≤ w ∧ w ≤ 1 := by rw [h6]; decide
      exact k11 hw
    · refine st_iconst (v := (-1)) hc dX11_part_9 (by decide) ?_
      refine st_iret (st := []) hc dX11_part_10 rfl ?_
      refine ⟨?_, hR⟩
      unfold sp_part
      rw [if_neg (fun q => by
        have := pool_b q.2
        by_cases z : w = 1
        · exact h6 z
        · rw [decide_eq_false z] at this; exact h1 this)]

