/-! ===== calls of the class: a turn told, both sides ===== -/
theorem Rel.tlA {k : Nat} {σ μ : St} (h : Rel k σ μ) {a : Int32} {v : Nat → Int32} (hT9 : tN μ ≤ 9) (hv : ∀ c, c < nN μ → v c = nI (mkF (pN μ) (cN μ) (tN μ) (μ 2) a (fbN μ) c)) : Rel (k + 1) (acc1 σ (nN μ) (tN μ) a (lf (okN μ) (mkF (pN μ) (cN μ) (tN μ) (μ 2) a (fbN μ)) (liN μ)) v) (tlS μ a) := by
  obtain ⟨⟨f1, f2, f3, f4⟩, ⟨e1, e2, e3, e4⟩, ⟨g1, g2, g3⟩, ⟨u0, u1, u9, u5⟩⟩ := h.f
  obtain ⟨p1, p2, p3, p4, p5, p6, p7, p8, p9, p10, p11, p12⟩ := id h.1.2.2.1
  obtain ⟨H1, -⟩ := id h.1.2.2.2.2.1
  have nz : ∀ i, ¬ (i = 9 ∨ i = 15) → tlS μ a 0 i = μ 0 i := fun i hi => by
    show up (up (va_up (up μ 0 15 0) 3 _) 4 (tN μ) a) 0 9 _ 0 i = μ 0 i
    rw [up_eq, if_neg (fun q => by omega), up_o 0 (by decide), vu_n (by decide), up_eq, if_neg (fun q => by omega)]
  have nc : ∀ x, ¬ x = 0 → ¬ x = 3 → ¬ x = 4 → tlS μ a x = μ x := fun x h0 h3 h4 => by
    show up (up (va_up (up μ 0 15 0) 3 _) 4 (tN μ) a) 0 9 _ x = μ x
    rw [up_o x h0, up_o x h4, vu_n h3, up_o x h0]
  have n9 : tlS μ a 0 9 = nI (tN μ + 1) := by simp [up_eq]
  have n3 : tlS μ a 3 = rng (5 * tN μ) (pN μ) (μ 2) (μ 3) := rfl
  have n4 : tlS μ a 4 = upd (μ 4) (tN μ) a := rfl
  have fbν : ∀ c, fbM (tlS μ a) (pN μ) (cN μ) (tN μ + 1) c = mkF (pN μ) (cN μ) (tN μ) (μ 2) a (fbN μ) c := tl_fb f2 a
  generalize hν : tlS μ a = ν at *
  have hPn : pN ν = pN μ := by unfold pN; rw [nz 0 (by decide)]
  have hCn : cN ν = cN μ := by unfold cN; rw [nz 1 (by decide)]
  have hNn : nN ν = nN μ := by unfold nN; rw [nz 2 (by decide)]
  have hLn : liN ν = liN μ := by unfold liN; rw [nz 5 (by decide)]
  have hTn : tN ν = tN μ + 1 := by unfold tN; rw [n9]; exact nat_nI (by omega)
  have okν : okN ν = okN μ := by unfold okN okM; rw [hPn, hCn, nz 3 (by decide), nz 4 (by decide), nc 1 (by decide) (by decide) (by decide)]
  have fbν : ∀ c, fbN ν c = mkF (pN μ) (cN μ) (tN μ) (μ 2) a (fbN μ) c := fun c => by
    show fbM ν (pN ν) (cN ν) (tN ν) c = _
    rw [hPn, hCn, hTn]; exact fbν c
  have hMI : MI ν := by
    obtain ⟨⟨⟨q1, q2, q3, q4, q5, q6⟩, n2, n3, n4, t1, t2, l1, l2, l3⟩, t9⟩ := id h.1.1.1
    refine ⟨⟨⟨?_, ?_, ?_, ?_, ?_, ?_⟩, ?_, ?_, ?_, ?_, ?_, ?_, ?_, ?_⟩, ?_⟩
    all_goals first | rw [hPn] | skip
    all_goals first | rw [hCn] | skip
    all_goals first | rw [hNn] | skip
    all_goals first | rw [hLn] | skip
    all_goals first | rw [hPn] | skip
    all_goals first | rw [nz 0 (by decide)] | skip
    all_goals first | rw [nz 1 (by decide)] | skip
    all_goals first | rw [nz 2 (by decide)] | skip
    all_goals first | rw [nz 5 (by decide)] | skip
    all_goals first | assumption | skip
    · rw [hTn, n9]
    · rw [hTn]; omega
    · rw [nc 1 (by decide) (by decide) (by decide)]; exact l3
    · rw [hTn]; omega
  show Rel (k + 1) (flS (up (up (va_up (va_up σ 15 v) 11 (rng (5 * tN μ) 5 (fun k => σ 18 (0 + k)) (σ 11))) 12 (tN μ) a) 7 14 (nI (tN μ + 1))) (nN μ) (lf (okN μ) (mkF (pN μ) (cN μ) (tN μ) (μ 2) a (fbN μ)) (liN μ))) ν
  generalize hρ : up (up (va_up (va_up σ 15 v) 11 (rng (5 * tN μ) 5 (fun k => σ 18 (0 + k)) (σ 11))) 12 (tN μ) a) 7 14 (nI (tN μ + 1)) = ρ
  have sl : ∀ x, ¬ x = 7 → ¬ x = 11 → ¬ x = 12 → ¬ x = 15 → ρ x = σ x := fun x h7 h11 h12 h15 => by rw [← hρ, up_o x h7, up_o x h12, vu_n h11, vu_n h15]
  have s7 : ∀ i, ¬ i = 14 → ρ 7 i = σ 7 i := fun i hi => by rw [← hρ]; simp [va_up, up_eq, hi]
  have s14 : ρ 7 14 = nI (tN μ + 1) := by rw [← hρ]; simp [up_eq]
  have s15 : ρ 15 = v := by rw [← hρ, up_o 15 (by decide), up_o 15 (by decide), vu_n (by decide), vu_s]
  have s11 : ρ 11 = rng (5 * tN μ) 5 (fun k => σ 18 (0 + k)) (σ 11) := by rw [← hρ, up_o 11 (by decide), up_o 11 (by decide), vu_s]
  have s12 : ρ 12 = upd (σ 12) (tN μ) a := by rw [← hρ]; funext i; simp [va_up, up_eq, upd]
  show Rel (k + 1) (flS ρ (nN μ) (lf (okN μ) (mkF (pN μ) (cN μ) (tN μ) (μ 2) a (fbN μ)) (liN μ))) ν
  obtain ⟨fe1, fe2, fe3⟩ := fl_e (ρ := ρ) (N := nN μ) (p := lf (okN μ) (mkF (pN μ) (cN μ) (tN μ) (μ 2) a (fbN μ)) (liN μ))
  refine h.py (fun x hx => by rw [fe1 x (by omega) (by omega), sl x (by omega) (by omega) (by omega) (by omega)]) (fun x y h1 h2 => ?_) hMI (kqO h.1.1.2.2.1 (nz 13 (by decide))) (rlP_fl hNn (fun c hc => ?_) ?_ ?_ ?_ ?_ ?_ ?_ (fun c hc => ?_) (fun t ht => ?_) ?_ ?_) (kQ h.1.2.2.2.1 (by rw [fe2, s7 15 (by decide)]) (nz 13 (by decide)) (nc 5 (by decide) (by decide) (by decide))) (kS' h.1.2.2.2.2.2.1 (by rw [fe3, s7 16 (by decide)]) (by rw [fe1 21 (by decide) (by decide), sl 21 (by decide) (by decide) (by decide) (by decide)]))
  · by_cases hx : x = 0
    · subst hx; exact nz y (fun q => h2 ⟨rfl, by omega⟩)
    · rw [nc x hx (by omega) (by omega)]
  · show (okN μ c && decide (ones (mkF (pN μ) (cN μ) (tN μ) (μ 2) a (fbN μ) c) ≤ liN μ)) = (okN ν c && decide (ones (fbN ν c) ≤ liN ν))
    rw [okν, fbν, hLn]
  · rw [nz 3 (by decide), s7 8 (by decide)]; exact p1
  · rw [nz 4 (by decide), s7 9 (by decide)]; exact p2
  · rw [nz 5 (by decide), s7 10 (by decide)]; exact p3
  · rw [nz 7 (by decide), s7 11 (by decide)]; exact p4
  · rw [okν, s7 12 (by decide)]; exact p5
  · rw [n9, s14]
  · rw [sl 13 (by decide) (by decide) (by decide) (by decide), sl 14 (by decide) (by decide) (by decide) (by decide), s15, nc 1 (by decide) (by decide) (by decide), okν, fbν]
    exact ⟨(p8 c hc).1, (p8 c hc).2.1, hv c hc⟩
  · rw [hTn] at ht
    rw [hPn, s12, s11, n4, n3]
    by_cases q : t = tN μ
    · subst q
      refine ⟨by unfold upd; rw [if_pos rfl, if_pos rfl], fun i hi => ?_⟩
      unfold rng
      rw [if_pos (by omega), if_pos (by omega), show 5 * tN μ + i - 5 * tN μ = i by omega]
      show σ 18 (0 + i) = μ 2 i
      rw [Nat.zero_add]
      exact H1 i hi
    · refine ⟨by unfold upd; rw [if_neg q, if_neg q]; exact (p10 t (by omega)).1, fun i hi => ?_⟩
      unfold rng
      rw [if_neg (by omega), if_neg (by omega)]
      exact (p10 t (by omega)).2 i hi
  · rw [nz 3 (by decide)]; exact p11
  · rw [nz 7 (by decide)]; exact p12
theorem Rel.tlB {k : Nat} {σ τ μ : St} (h : Rel k σ μ) {a : Int32} {R : Nat} (hT9 : tN μ ≤ 9) (hR : R < 2 ^ (tN μ + 1)) (ha : acc0 σ (nN μ) R τ) : Rel (k + 1) τ (up (up (va_up (tlS μ a) 5 (qrow (μ 5) (tN μ + 1) (fun t => R.testBit t))) 0 13 (nI (cnt (tN μ + 1) (fun t => R.testBit t)))) 0 9 (nI (tN μ))) := by
  obtain ⟨⟨f1, f2, f3, f4⟩, ⟨e1, e2, e3, e4⟩, ⟨g1, g2, g3⟩, ⟨u0, u1, u9, u5⟩⟩ := h.f
  obtain ⟨p1, p2, p3, p4, p5, p6, p7, p8, p9, p10, p11, p12⟩ := id h.1.2.2.1
  have n5 : (up (up (va_up (tlS μ a) 5 (qrow (μ 5) (tN μ + 1) (fun t => R.testBit t))) 0 13 (nI (cnt (tN μ + 1) (fun t => R.testBit t)))) 0 9 (nI (tN μ))) 5 = qrow (μ 5) (tN μ + 1) (fun t => R.testBit t) := by
    rw [up_o 5 (by decide), up_o 5 (by decide), vu_s]
  have n13 : (up (up (va_up (tlS μ a) 5 (qrow (μ 5) (tN μ + 1) (fun t => R.testBit t))) 0 13 (nI (cnt (tN μ + 1) (fun t => R.testBit t)))) 0 9 (nI (tN μ))) 0 13 = nI (cnt (tN μ + 1) (fun t => R.testBit t)) := by simp [up_eq]
  have nz : ∀ i, ¬ (i = 13 ∨ i = 15) → (up (up (va_up (tlS μ a) 5 (qrow (μ 5) (tN μ + 1) (fun t => R.testBit t))) 0 13 (nI (cnt (tN μ + 1) (fun t => R.testBit t)))) 0 9 (nI (tN μ))) 0 i = μ 0 i := fun i hi => by
    by_cases q : i = 9
    · subst q; rw [u9]; simp [up_eq]
    · rw [up_eq, if_neg (fun q => by omega), up_eq, if_neg (fun q => by omega), vu_n (by decide)]
      show up (up (va_up (up μ 0 15 0) 3 _) 4 (tN μ) a) 0 9 _ 0 i = μ 0 i
      rw [up_eq, if_neg (fun q => by omega), up_o 0 (by decide), vu_n (by decide), up_eq, if_neg (fun q => by omega)]
  have nc : ∀ x, ¬ x = 0 → ¬ x = 3 → ¬ x = 4 → ¬ x = 5 → (up (up (va_up (tlS μ a) 5 (qrow (μ 5) (tN μ + 1) (fun t => R.testBit t))) 0 13 (nI (cnt (tN μ + 1) (fun t => R.testBit t)))) 0 9 (nI (tN μ))) x = μ x := fun x h0 h3 h4 h5 => by
    rw [up_o x h0, up_o x h0, vu_n h5]
    show up (up (va_up (up μ 0 15 0) 3 _) 4 (tN μ) a) 0 9 _ x = μ x
    rw [up_o x h0, up_o x h4, vu_n h3, up_o x h0]
  have n3 : (up (up (va_up (tlS μ a) 5 (qrow (μ 5) (tN μ + 1) (fun t => R.testBit t))) 0 13 (nI (cnt (tN μ + 1) (fun t => R.testBit t)))) 0 9 (nI (tN μ))) 3 = rng (5 * tN μ) (pN μ) (μ 2) (μ 3) := rfl
  have n4 : (up (up (va_up (tlS μ a) 5 (qrow (μ 5) (tN μ + 1) (fun t => R.testBit t))) 0 13 (nI (cnt (tN μ + 1) (fun t => R.testBit t)))) 0 9 (nI (tN μ))) 4 = upd (μ 4) (tN μ) a := rfl
  generalize hν : (up (up (va_up (tlS μ a) 5 (qrow (μ 5) (tN μ + 1) (fun t => R.testBit t))) 0 13 (nI (cnt (tN μ + 1) (fun t => R.testBit t)))) 0 9 (nI (tN μ))) = ν at *
  have hPn : pN ν = pN μ := by unfold pN; rw [nz 0 (by decide)]
  have hCn : cN ν = cN μ := by unfold cN; rw [nz 1 (by decide)]
  have hNn : nN ν = nN μ := by unfold nN; rw [nz 2 (by decide)]
  have hLn : liN ν = liN μ := by unfold liN; rw [nz 5 (by decide)]
  have hTn : tN ν = tN μ := by unfold tN; rw [nz 9 (by decide)]
  have r3 : ∀ t i, t < tN μ → i < pN μ → ν 3 (5 * t + i) = μ 3 (5 * t + i) := fun t i ht hi => by rw [n3]; unfold rng; rw [if_neg (by omega)]
  have r4 : ∀ t, t < tN μ → ν 4 t = μ 4 t := fun t ht => by rw [n4]; unfold upd; rw [if_neg (by omega)]
  have okν : okN ν = okN μ := by unfold okN okM; rw [hPn, hCn, nz 3 (by decide), nz 4 (by decide), nc 1 (by decide) (by decide) (by decide) (by decide)]
  have fbν : fbN ν = fbN μ := by
    funext c
    show fbits (tN ν) (isF (pN ν) (cN ν) (ν 3) (ν 4) c) = fbits (tN μ) (isF (pN μ) (cN μ) (μ 3) (μ 4) c)
    rw [hTn, hPn, hCn]
    refine fbits_congr (fun t ht => ?_)
    unfold isF
    rw [r4 t ht, ans_congr (v := fun i => μ 3 (5 * t + i)) (fun i hi => r3 t i ht hi)]
  have mν : mLs ν = mLs μ := by
    funext x
    show (okN ν x && decide (ones (fbN ν x) ≤ liN ν)) = (okN μ x && decide (ones (fbN μ x) ≤ liN μ))
    rw [okν, fbν, hLn]
  have lν : lm ν = lm μ := by unfold lm; rw [mν, hNn]
  have tν : lth ν = lth μ := by funext j; show nthT (nN ν) (mLs ν) j = nthT (nN μ) (mLs μ) j; rw [mν, hNn]
  obtain ⟨a7, a15, aa⟩ := ha
  have s7 : ∀ i, ¬ i = 15 → τ 7 i = σ 7 i := fun i hi => by rw [a7]; unfold upd; rw [if_neg hi]
  have sl : ∀ x, ¬ (x = 7 ∨ x = 8 ∨ x = 9 ∨ x = 10 ∨ x = 15) → τ x = σ x := aa
  have hb10 : ∀ i, tN μ + 1 ≤ i → R.testBit i = false := fun i hi => Nat.testBit_lt_two_pow (Nat.lt_of_lt_of_le hR (Nat.pow_le_pow_right (by decide) hi))
  have hc10 : cnt 10 (fun t => R.testBit t) = cnt (tN μ + 1) (fun t => R.testBit t) := by
    have := cnt_up (p := fun t => R.testBit t) hb10 (9 - tN μ)
    rw [show tN μ + 1 + (9 - tN μ) = 10 by omega] at this
    exact this
  have ht10 : ∀ j, nthT 10 (fun t => R.testBit t) j = nthT (tN μ + 1) (fun t => R.testBit t) j := fun j => by
    have := nthT_up (p := fun t => R.testBit t) hb10 j (9 - tN μ)
    rw [show tN μ + 1 + (9 - tN μ) = 10 by omega] at this
    exact this
  have hcle := cnt_le (tN μ + 1) (fun t => R.testBit t)
  have hMI : MI ν := by
    obtain ⟨⟨⟨q1, q2, q3, q4, q5, q6⟩, n2, n3, n4, t1, t2, l1, l2, l3⟩, t9⟩ := id h.1.1.1
    refine ⟨⟨⟨?_, ?_, ?_, ?_, ?_, ?_⟩, ?_, ?_, ?_, ?_, ?_, ?_, ?_, ?_⟩, ?_⟩
    all_goals first | rw [hPn] | skip
    all_goals first | rw [hCn] | skip
    all_goals first | rw [hNn] | skip
    all_goals first | rw [hLn] | skip
    all_goals first | rw [hTn] | skip
    all_goals first | rw [hPn] | skip
    all_goals first | rw [nz 0 (by decide)] | skip
    all_goals first | rw [nz 1 (by decide)] | skip
    all_goals first | rw [nz 2 (by decide)] | skip
    all_goals first | rw [nz 5 (by decide)] | skip
    all_goals first | rw [nz 9 (by decide)] | skip
    all_goals first | assumption | skip
    rw [nc 1 (by decide) (by decide) (by decide) (by decide)]; exact l3
  refine h.py (fun x hx => sl x (by omega)) (fun x y h1 h2 => ?_) hMI ?_ ?_ ?_ ?_
  · by_cases hx : x = 0
    · subst hx; exact nz y (fun q => h2 ⟨rfl, by omega⟩)
    · rw [nc x hx (by omega) (by omega) (by omega)]
  · unfold qOK
    rw [n13]
    exact Or.inr ⟨nI_le (a := 0) (Nat.zero_le _) (by omega), by rw [nat_nI (by omega)]; omega⟩
  · unfold rlP
    rw [lν, tν, okν, fbν, hNn, hTn, hPn, s7 8 (by decide), s7 9 (by decide), s7 10 (by decide), s7 11 (by decide), s7 12 (by decide), s7 13 (by decide), s7 14 (by decide), sl 11 (by decide), sl 12 (by decide), sl 13 (by decide), sl 14 (by decide), sl 16 (by decide), nz 3 (by decide), nz 4 (by decide), nz 5 (by decide), nz 7 (by decide), nz 9 (by decide), nc 1 (by decide) (by decide) (by decide) (by decide)]
    refine ⟨p1, p2, p3, p4, p5, p6, p7, fun x hx => ⟨(p8 x hx).1, (p8 x hx).2.1, by rw [a15 x hx]; exact (p8 x hx).2.2⟩, p9, fun t ht => ⟨by rw [r4 t ht]; exact (p10 t ht).1, fun i hi => by rw [r3 t i ht hi]; exact (p10 t ht).2 i hi⟩, p11, p12⟩
  · refine Or.inr ⟨R, ?_, by rw [a7]; unfold upd; rw [if_pos rfl], by rw [n13, hc10], fun j hj => ?_⟩
    · have := pow10 (T := tN μ + 1) (by omega); omega
    · rw [hc10] at hj
      rw [n5, ht10]
      unfold qrow
      rw [if_pos hj]
  · obtain ⟨x, x1, x2, x3⟩ := h.1.2.2.2.2.2.1
    refine ⟨x, by rw [s7 16 (by decide)]; exact x1, by omega, ?_⟩
    unfold svF at *
    rw [sl 21 (by decide), lν, tν, hNn, hPn, hCn]
    exact x3
theorem C11_tell {k : Nat} {σ μ : St} (h : Rel k σ μ) (a : Int32) : Mt YC mX11_tell 70 [.ref 0, .int a] σ (fun r τ => r = some (.int (sp_tell μ a).1) ∧ Rel (k + 1) τ (sp_tell μ a).2) := by
  obtain ⟨⟨f1, f2, f3, f4⟩, ⟨e1, e2, e3, e4⟩, ⟨g1, g2, g3⟩, ⟨u0, u1, u9, u5⟩⟩ := h.f
  obtain ⟨p1, p2, p3, p4, p5, p6, p7, p8, p9, p10, p11, p12⟩ := id h.1.2.2.1
  obtain ⟨H1, H2, H3⟩ := id h.1.2.2.2.2.1
  have hpred : mL (tlS μ a) (pN μ) (cN μ) (tN μ + 1) (liN μ) = lf (okN μ) (mkF (pN μ) (cN μ) (tN μ) (μ 2) a (fbN μ)) (liN μ) := by
    funext c
    show (okN μ c && decide (ones (fbM (tlS μ a) (pN μ) (cN μ) (tN μ + 1) c) ≤ liN μ)) = (okN μ c && decide (ones (mkF (pN μ) (cN μ) (tN μ) (μ 2) a (fbN μ) c) ≤ liN μ))
    rw [tl_fb f2]
  have hlL : tlL μ a = cnt (nN μ) (lf (okN μ) (mkF (pN μ) (cN μ) (tN μ) (μ 2) a (fbN μ)) (liN μ)) := by rw [← hpred]
  refine Mt.ofA [some (.ref 0), some (.int a)] (by decide) (fun _ => Nat.le_of_ble_eq_true rfl) (fun _ => rfl) (fun g hc => ?_)
  refine st_aload_n hc dX11_tell_0 rfl rfl ?_
  refine st_getr hc dX11_tell_1 flX11_12 rfl rfl ?_
  refine st_iload_n hc dX11_tell_4 rfl rfl ?_
  refine st_callVp hc dX11_tell_5 (C0_canBeTold 60 σ g1 f2 a) mvX11_205 (by omega) rfl rfl rfl (Nat.le_of_ble_eq_true rfl) ?_
  refine st_if_ne (tgt := 13) hc dX11_tell_8 (by decide) (fun h8 => ?_) (fun h8 => ?_)
  · have hin := of_decide_eq_true (bI_t h8)
    have hex : ¬ ¬ (0 ≤ a ∧ nat a / 10 + nat a % 10 ≤ pN μ) := fun q => q hin
    refine st_aload_n hc dX11_tell_13 rfl rfl ?_
    refine st_getr hc dX11_tell_14 flX11_21 rfl rfl ?_
    refine st_getE hc dX11_tell_17 flX11_119 rfl rfl ((p7.trans u9)) ?_
    refine st_bipush (v := 10) hc dX11_tell_20 (by decide) ?_
    refine st_icmp_lt (tgt := 28) hc dX11_tell_22 (by decide) (fun h22 => ?_) (fun h22 => ?_)
    · have h22 : tN μ < 10 := (nI_ltI (b := 10) (by omega) (by decide)).mp h22
      have hac := C5_accepts 60 σ (T := tN μ) (L := liN μ) (ok := okN μ) (fb := fbN μ) h.1.2.1 (by rw [← e1]; exact h.A) (by rw [p7, u9]) (by omega) (fun c hc => fbits_lt _ _) (μ 2) H2 H3 a
      rw [← e1] at hac
      refine st_aload_n hc dX11_tell_28 rfl rfl ?_
      refine st_getr hc dX11_tell_29 flX11_21 rfl rfl ?_
      refine st_aload_n hc dX11_tell_32 rfl rfl ?_
      refine st_getr hc dX11_tell_33 flX11_28 rfl rfl ?_
      refine st_iload_n hc dX11_tell_36 rfl rfl ?_
      refine st_callV hc dX11_tell_37 hac mvX11_208 (by omega) rfl rfl rfl (Nat.le_of_ble_eq_true rfl) ?_
      rintro r τ1 hor
      generalize hlf : lf (okN μ) (mkF (pN μ) (cN μ) (tN μ) (μ 2) a (fbN μ)) (liN μ) = pp at *
      obtain ⟨er, hx⟩ : r = some (.int (bI (anyN (nN μ) pp))) ∧ ((anyN (nN μ) pp = false ∧ ∃ R, lqP (qq (knB (okN μ) (mkF (pN μ) (cN μ) (tN μ) (μ 2) a (fbN μ)) (nN μ)) (tN μ + 1) (liN μ)) (2 ^ (tN μ + 1)) R ∧ acc0 σ (nN μ) R τ1) ∨ (anyN (nN μ) pp = true ∧ ∃ v, (∀ c, c < nN μ → v c = nI (mkF (pN μ) (cN μ) (tN μ) (μ 2) a (fbN μ) c)) ∧ τ1 = acc1 σ (nN μ) (tN μ) a pp v)) := by
        rcases hor with ⟨hany, er, hh⟩ | ⟨hany, er, hh⟩
        · exact ⟨by rw [er, hany]; rfl, Or.inl ⟨hany, hh⟩⟩
        · exact ⟨by rw [er, hany]; rfl, Or.inr ⟨hany, hh⟩⟩
      subst er
      show aW g YC 2 _ _ _ (.int (bI (anyN (nN μ) pp)) :: []) τ1
      refine st_if_eq (tgt := 53) hc dX11_tell_40 (by decide) (fun h40 => ?_) (fun h40 => ?_)
      · have hany := bI_0.mp h40
        rcases hx with ⟨-, R, hR, hac0⟩ | ⟨q, -⟩
        rotate_left
        · rw [hany] at q; cases q
        have hz : ¬ 0 < tlL μ a := by
          rw [hlL, cnt_zero (anyN_false hany)]; omega
        have hR2 := lqP_bst (σ := tlS μ a) (P := pN μ) (C := cN μ) (N := nN μ) (L := liN μ) (lqP_c (fun s => by
          rw [qq_qB (fun c hc => mkF_lt (fbits_lt _ _))]
          unfold qB
          congr 1
          refine any_c (fun c hc => ?_)
          show _ = (okN μ c && decide (ones (fbM (tlS μ a) (pN μ) (cN μ) (tN μ + 1) c &&& s) ≤ liN μ))
          rw [tl_fb f2]) hR)
        have hRl : R < 2 ^ (tN μ + 1) := by
          have := Nat.two_pow_pos (tN μ + 1)
          rcases hR with ⟨-, q, -⟩ | ⟨-, q⟩ <;> omega
        have hRel := h.tlB (a := a) (by omega) hRl hac0
        have e : sp_tell μ a = (-4, up (up (va_up (tlS μ a) 5 (qrow (μ 5) (tN μ + 1) (fun t => R.testBit t))) 0 13 (nI (cnt (tN μ + 1) (fun t => R.testBit t)))) 0 9 (nI (tN μ))) := by
          rw [hR2]
          exact (if_neg hex).trans ((if_neg (by omega)).trans (if_neg hz))
        refine st_bipush (v := (-4)) hc dX11_tell_53 (by decide) ?_
        refine st_iret (st := []) hc dX11_tell_55 rfl ?_
        rw [e]
        exact ⟨rfl, hRel⟩
      · have hany := bI_t h40
        rcases hx with ⟨q, -⟩ | ⟨-, v, hv, et⟩
        · rw [hany] at q; cases q
        have hz : 0 < tlL μ a := by
          rw [hlL]
          obtain ⟨i, hi, hp⟩ := (anyN_iff _ _).mp hany
          exact Nat.lt_of_le_of_lt (Nat.zero_le _) (cnt_lt hi hp)
        have e : sp_tell μ a = (nI (tlL μ a), tlS μ a) := (if_neg hex).trans ((if_neg (by omega)).trans (if_pos hz))
        rw [← hlf] at et
        have hRel := h.tlA (by omega) hv
        rw [← et] at hRel
        refine st_aload_n hc dX11_tell_43 rfl rfl ?_
        refine st_getr hc dX11_tell_44 flX11_21 rfl rfl ?_
        refine st_getE hc dX11_tell_47 flX11_182 rfl rfl ((by rw [et, hlL, ← hlf]; simp [va_up, up_eq] : _ = nI (tlL μ a))) ?_
        refine st_goto (tgt := 55) hc dX11_tell_50 (by decide) ?_
        refine st_iret (st := []) hc dX11_tell_55 rfl ?_
        rw [e]
        exact ⟨rfl, hRel⟩
    · have h22 : tN μ = 10 := by
        have hn : ¬ tN μ < 10 := fun q => h22 ((nI_ltI (b := 10) (by omega) (by decide)).mpr q)
        omega
      have e : sp_tell μ a = (-2, t0 μ) := (if_neg hex).trans (if_pos h22)
      refine st_bipush (v := (-2)) hc dX11_tell_25 (by decide) ?_
      refine st_iret (st := []) hc dX11_tell_27 rfl ?_
      rw [e]
      exact ⟨rfl, h.t⟩
  · have hno := of_decide_eq_false (bI_0.mp h8)
    have e : sp_tell μ a = (-1, t0 μ) := if_pos hno
    refine st_iconst (v := (-1)) hc dX11_tell_11 (by decide) ?_
    refine st_iret (st := []) hc dX11_tell_12 rfl ?_
    rw [e]
    exact ⟨rfl, h.t⟩

