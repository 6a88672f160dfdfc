/-! ===== calls of the class: the lies, a turn taken back ===== -/
theorem C11_lies {k : Nat} {σ μ : St} (h : Rel k σ μ) (a : Int32) : Mt YC mX11_lies 70 [.ref 0, .int a] σ (fun r τ => r = some (.int (sp_lies μ a).1) ∧ Rel (k + 1) τ (sp_lies μ a).2) := by
  obtain ⟨⟨f1, f2, f3, f4⟩, ⟨e1, e2, e3, e4⟩, ⟨g1, g2, g3⟩, ⟨u0, u1, u9, u5⟩⟩ := h.f
  obtain ⟨p1, p2, p3, p4, p5, p6, p7, p8, p9, p10, p11, p12⟩ := id h.1.2.2.1
  have hL01 := h.1.1.1.1.2.2.2.2.2.2.2.2
  refine Mt.ofA [some (.ref 0), some (.int a), none] (by decide) (fun _ => Nat.le_of_ble_eq_true rfl) (fun _ => rfl) (fun g hc => ?_)
  refine st_iload_n hc dX11_lies_0 rfl rfl ?_
  refine st_if_lt (tgt := 9) hc dX11_lies_1 (by decide) (fun h1 => ?_) (fun h1 => ?_)
  · have e : sp_lies μ a = (-1, t0 μ) := if_pos (fun q => absurd h1 (Int32.not_lt.mpr q.1))
    refine st_iconst (v := (-1)) hc dX11_lies_9 (by decide) ?_
    refine st_iret (st := []) hc dX11_lies_10 rfl ?_
    rw [e]
    exact ⟨rfl, h.t⟩
  · have h1 := Int32.not_lt.mp h1
    refine st_iload_n hc dX11_lies_4 rfl rfl ?_
    refine st_iconst (v := 2) hc dX11_lies_5 (by decide) ?_
    refine st_icmp_le (tgt := 11) hc dX11_lies_6 (by decide) (fun h6 => ?_) (fun h6 => ?_)
    · refine st_aload_n hc dX11_lies_11 rfl rfl ?_
      refine st_getr hc dX11_lies_12 flX11_21 rfl rfl ?_
      refine st_getE hc dX11_lies_15 flX11_119 rfl rfl ((p7.trans u9)) ?_
      refine st_if_le (tgt := 24) hc dX11_lies_18 (by decide) (fun h18 => ?_) (fun h18 => ?_)
      · have h18 : ¬ 0 < tN μ := fun q => by have := (nI_leI (b := 0) (by omega) (by decide)).mp h18; omega
        have e : sp_lies μ a = (μ 0 5, up (t0 μ) 0 5 a) := (if_neg (fun q => q ⟨h1, h6⟩)).trans (if_neg h18)
        have hal : nat a ≤ 2 := by
          have h6' := h6
          rw [← nI_nat h1] at h6'
          exact (nI_leI (b := 2) (nat_lt a) (by decide)).mp h6'
        have hsl := C5_setLies 60 σ (x := nat a) h.A hal
        rw [nI_nat h1] at hsl
        refine st_aload_n hc dX11_lies_24 rfl rfl ?_
        refine st_getr hc dX11_lies_25 flX11_21 rfl rfl ?_
        refine st_getE hc dX11_lies_28 flX11_142 rfl rfl (p3) ?_
        refine st_istore_n hc dX11_lies_31 rfl (by decide) rfl ?_
        refine st_aload_n hc dX11_lies_32 rfl rfl ?_
        refine st_getr hc dX11_lies_33 flX11_21 rfl rfl ?_
        refine st_iload_n hc dX11_lies_36 rfl rfl ?_
        refine st_callVn hc dX11_lies_37 (hsl) mvX11_145 (by omega) rfl rfl rfl (Nat.le_of_ble_eq_true rfl) ?_
        rintro τ1 ee
        subst ee
        refine st_iload_n hc dX11_lies_40 rfl rfl ?_
        refine st_iret (st := []) hc dX11_lies_41 rfl ?_
        rw [e]
        have nz : ∀ i, ¬ (i = 5 ∨ i = 15) → up (t0 μ) 0 5 a 0 i = μ 0 i := fun i hi => by
          show up (up μ 0 15 0) 0 5 a 0 i = μ 0 i
          rw [up_eq, if_neg (fun q => by omega), up_eq, if_neg (fun q => by omega)]
        have nc : ∀ x, ¬ x = 0 → up (t0 μ) 0 5 a x = μ x := fun x hx => by
          show up (up μ 0 15 0) 0 5 a x = μ x
          rw [up_o x hx, up_o x hx]
        have n5 : up (t0 μ) 0 5 a 0 5 = a := by simp [up_eq]
        generalize hν : up (t0 μ) 0 5 a = ν at *
        have hPn : pN ν = pN μ := by unfold pN; rw [nz 0 (by decide)]
        have hCn : cN ν = cN μ := by unfold cN; rw [nz 1 (by decide)]
        have hNn : nN ν = nN μ := by unfold nN; rw [nz 2 (by decide)]
        have hTn : tN ν = tN μ := by unfold tN; rw [nz 9 (by decide)]
        have hLn : liN ν = nat a := by unfold liN; rw [n5]
        have okν : okN ν = okN μ := by unfold okN okM; rw [hPn, hCn, nz 3 (by decide), nz 4 (by decide), nc 1 (by decide)]
        have fbν : fbN ν = fbN μ := by unfold fbN fbM; rw [hPn, hCn, hTn, nc 3 (by decide), nc 4 (by decide)]
        obtain ⟨fe1, fe2, fe3⟩ := fl_e (ρ := up σ 7 10 a) (N := nN μ) (p := lf (okN μ) (fbN μ) (nat a))
        have sl : ∀ x, ¬ x = 7 → up σ 7 10 a x = σ x := fun x h7 => up_o x h7
        have s7 : ∀ i, ¬ i = 10 → up σ 7 10 a 7 i = σ 7 i := fun i hi => by simp [up_eq, hi]
        have hMI : MI ν := by
          obtain ⟨⟨⟨q1, q2, q3, q4, q5, q6⟩, n2, n3, n4, t1, t2, l1, l2, l3⟩, t9⟩ := id h.1.1.1
          refine ⟨⟨⟨?_, ?_, ?_, ?_, ?_, ?_⟩, ?_, ?_, ?_, ?_, ?_, ?_, ?_, ?_⟩, ?_⟩
          all_goals first | rw [hPn] | skip
          all_goals first | rw [hCn] | skip
          all_goals first | rw [hNn] | skip
          all_goals first | rw [hTn] | skip
          all_goals first | rw [hPn] | skip
          all_goals first | rw [nz 0 (by decide)] | skip
          all_goals first | rw [nz 1 (by decide)] | skip
          all_goals first | rw [nz 2 (by decide)] | skip
          all_goals first | rw [nz 9 (by decide)] | skip
          all_goals first | assumption | skip
          · rw [hLn, n5]; exact (nI_nat h1).symm
          · rw [hLn]; exact hal
          · rw [nc 1 (by decide)]; exact l3
        refine ⟨rfl, ?_⟩
        show Rel (k + 1) _ ν
        refine h.py (fun x hx => by rw [fe1 x (by omega) (by omega), sl x (by omega)]) (fun x y h1 h2 => ?_) hMI (kqO h.1.1.2.2.1 (nz 13 (by decide))) (rlP_fl hNn (fun c hc => ?_) ?_ ?_ ?_ ?_ ?_ ?_ (fun c hc => ?_) (fun t ht => ?_) ?_ ?_) (kQ h.1.2.2.2.1 (by rw [fe2, s7 15 (by decide)]) (nz 13 (by decide)) (nc 5 (by decide))) (kS' h.1.2.2.2.2.2.1 (by rw [fe3, s7 16 (by decide)]) (by rw [fe1 21 (by decide) (by decide), sl 21 (by decide)]))
        · by_cases hx : x = 0
          · subst hx; exact nz y (fun q => h2 ⟨rfl, by omega⟩)
          · rw [nc x hx]
        · show (okN μ c && decide (ones (fbN μ c) ≤ nat a)) = (okN ν c && decide (ones (fbN ν c) ≤ liN ν))
          rw [okν, fbν, hLn]
        · rw [nz 3 (by decide), s7 8 (by decide)]; exact p1
        · rw [nz 4 (by decide), s7 9 (by decide)]; exact p2
        · rw [n5]; simp [up_eq]
        · rw [nz 7 (by decide), s7 11 (by decide)]; exact p4
        · rw [okν, s7 12 (by decide)]; exact p5
        · rw [nz 9 (by decide), s7 14 (by decide)]; exact p7
        · rw [sl 13 (by decide), sl 14 (by decide), sl 15 (by decide), nc 1 (by decide), okν, fbν]
          exact p8 c hc
        · rw [sl 12 (by decide), sl 11 (by decide), nc 4 (by decide), nc 3 (by decide)]
          rw [hTn] at ht
          rw [hPn]
          exact p10 t ht
        · rw [nz 3 (by decide)]; exact p11
        · rw [nz 7 (by decide)]; exact p12
      · have h18 : 0 < tN μ := Nat.lt_of_not_le (fun q => h18 (nI_le (b := 0) q (by decide)))
        have e : sp_lies μ a = (-3, t0 μ) := (if_neg (fun q => q ⟨h1, h6⟩)).trans (if_pos h18)
        refine st_bipush (v := (-3)) hc dX11_lies_21 (by decide) ?_
        refine st_iret (st := []) hc dX11_lies_23 rfl ?_
        rw [e]
        exact ⟨rfl, h.t⟩
    · have e : sp_lies μ a = (-1, t0 μ) := if_pos (fun q => h6 q.2)
      refine st_iconst (v := (-1)) hc dX11_lies_9 (by decide) ?_
      refine st_iret (st := []) hc dX11_lies_10 rfl ?_
      rw [e]
      exact ⟨rfl, h.t⟩
theorem fbits_mod (T : Nat) (F : Nat → Bool) : fbits (T + 1) F % 2 ^ T = fbits T F := by
  apply Nat.eq_of_testBit_eq
  intro i
  rw [Nat.testBit_mod_two_pow, fbits_bit, fbits_bit]
  by_cases hi : i < T
  · simp [hi, show i < T + 1 by omega]
  · simp [hi]
theorem C11_undo {k : Nat} {σ μ : St} (h : Rel k σ μ) : Mt YC mX11_undo 70 [.ref 0] σ (fun r τ => r = some (.int (sp_undo μ).1) ∧ Rel (k + 1) τ (sp_undo μ).2) := by
  obtain ⟨⟨f1, f2, f3, f4⟩, ⟨e1, e2, e3, e4⟩, ⟨g1, g2, g3⟩, ⟨u0, u1, u9, u5⟩⟩ := h.f
  obtain ⟨p1, p2, p3, p4, p5, p6, p7, p8, p9, p10, p11, p12⟩ := id h.1.2.2.1
  refine Mt.ofA [some (.ref 0)] (by decide) (fun _ => Nat.le_of_ble_eq_true rfl) (fun _ => rfl) (fun g hc => ?_)
  refine st_aload_n hc dX11_undo_0 rfl rfl ?_
  refine st_getr hc dX11_undo_1 flX11_21 rfl rfl ?_
  refine st_getE hc dX11_undo_4 flX11_119 rfl rfl (p7) ?_
  refine st_if_ne (tgt := 12) hc dX11_undo_7 (by decide) (fun h7 => ?_) (fun h7 => ?_)
  · have e : sp_undo μ = (μ 0 9 - 1, up (t0 μ) 0 9 (μ 0 9 - 1)) := if_neg h7
    obtain ⟨T, hT⟩ : ∃ T, tN μ = T + 1 := ⟨tN μ - 1, by
      rcases Nat.eq_zero_or_pos (tN μ) with q | q
      · exact absurd (by rw [u9, q]; rfl) h7
      · omega⟩
    have hsub : μ 0 9 - 1 = nI T := by rw [u9, hT]; exact nI_sub (a := T + 1) (b := 1) (by omega)
    refine st_aload_n hc dX11_undo_12 rfl rfl ?_
    refine st_getr hc dX11_undo_13 flX11_21 rfl rfl ?_
    refine st_callVn hc dX11_undo_16 (C5_takeBack 60 σ (T := T) h.A (by rw [p7, u9, hT]) (by omega) (fun c hc => by rw [← hT]; exact fbits_lt _ _)) mvX11_212 (by omega) rfl rfl rfl (Nat.le_of_ble_eq_true rfl) ?_
    rintro τ1 ⟨v, hv, ee⟩
    subst ee
    refine st_aload_n hc dX11_undo_19 rfl rfl ?_
    refine st_getr hc dX11_undo_20 flX11_21 rfl rfl ?_
    refine st_getE hc dX11_undo_23 flX11_119 rfl rfl ((by simp [va_up, up_eq] : _ = nI T)) ?_
    refine st_iret (st := []) hc dX11_undo_26 rfl ?_
    rw [e, hsub]
    have nz : ∀ i, ¬ (i = 9 ∨ i = 15) → up (t0 μ) 0 9 (nI T) 0 i = μ 0 i := fun i hi => by
      show up (up μ 0 15 0) 0 9 (nI T) 0 i = μ 0 i
      rw [up_eq, if_neg (fun q => by omega), up_eq, if_neg (fun q => by omega)]
    have nc : ∀ x, ¬ x = 0 → up (t0 μ) 0 9 (nI T) x = μ x := fun x hx => by
      show up (up μ 0 15 0) 0 9 (nI T) x = μ x
      rw [up_o x hx, up_o x hx]
    have n9 : up (t0 μ) 0 9 (nI T) 0 9 = nI T := by simp [up_eq]
    generalize hν : up (t0 μ) 0 9 (nI T) = ν at *
    have hPn : pN ν = pN μ := by unfold pN; rw [nz 0 (by decide)]
    have hCn : cN ν = cN μ := by unfold cN; rw [nz 1 (by decide)]
    have hNn : nN ν = nN μ := by unfold nN; rw [nz 2 (by decide)]
    have hLn : liN ν = liN μ := by unfold liN; rw [nz 5 (by decide)]
    have hTn : tN ν = T := by unfold tN; rw [n9]; exact nat_nI (by omega)
    have okν : okN ν = okN μ := by unfold okN okM; rw [hPn, hCn, nz 3 (by decide), nz 4 (by decide), nc 1 (by decide)]
    have fbν : ∀ c, fbN ν c = fbN μ c % 2 ^ T := fun c => by
      show fbits (tN ν) (isF (pN ν) (cN ν) (ν 3) (ν 4) c) = fbits (tN μ) (isF (pN μ) (cN μ) (μ 3) (μ 4) c) % 2 ^ T
      rw [hTn, hPn, hCn, nc 3 (by decide), nc 4 (by decide), hT]
      exact (fbits_mod T _).symm
    obtain ⟨fe1, fe2, fe3⟩ := fl_e (ρ := va_up (up σ 7 14 (nI T)) 15 v) (N := nN μ) (p := lf (okN μ) (fun c => fbN μ c % 2 ^ T) (liN μ))
    have sl : ∀ x, ¬ x = 7 → ¬ x = 15 → va_up (up σ 7 14 (nI T)) 15 v x = σ x := fun x h7 h15 => by rw [vu_n h15, up_o x h7]
    have s7 : ∀ i, ¬ i = 14 → va_up (up σ 7 14 (nI T)) 15 v 7 i = σ 7 i := fun i hi => by simp [va_up, up_eq, hi]
    have hMI : MI ν := by
      obtain ⟨⟨⟨q1, q2, q3, q4, q5, q6⟩, n2, n3, n4, t1, t2, l1, l2, l3⟩, t9⟩ := id h.1.1.1
      refine ⟨⟨⟨?_, ?_, ?_, ?_, ?_, ?_⟩, ?_, ?_, ?_, ?_, ?_, ?_, ?_, ?_⟩, ?_⟩
      all_goals first | rw [hPn] | skip
      all_goals first | rw [hCn] | skip
      all_goals first | rw [hNn] | skip
      all_goals first | rw [hLn] | skip
      all_goals first | rw [hPn] | skip
      all_goals first | rw [nz 0 (by decide)] | skip
      all_goals first | rw [nz 1 (by decide)] | skip
      all_goals first | rw [nz 2 (by decide)] | skip
      all_goals first | rw [nz 5 (by decide)] | skip
      all_goals first | assumption | skip
      · rw [hTn, n9]
      · rw [hTn]; omega
      · rw [nc 1 (by decide)]; exact l3
      · rw [hTn]; omega
    refine ⟨rfl, ?_⟩
    show Rel (k + 1) _ ν
    refine h.py (fun x hx => by rw [fe1 x (by omega) (by omega), sl x (by omega) (by omega)]) (fun x y h1 h2 => ?_) hMI (kqO h.1.1.2.2.1 (nz 13 (by decide))) (rlP_fl hNn (fun c hc => ?_) ?_ ?_ ?_ ?_ ?_ ?_ (fun c hc => ?_) (fun t ht => ?_) ?_ ?_) (kQ h.1.2.2.2.1 (by rw [fe2, s7 15 (by decide)]) (nz 13 (by decide)) (nc 5 (by decide))) (kS' h.1.2.2.2.2.2.1 (by rw [fe3, s7 16 (by decide)]) (by rw [fe1 21 (by decide) (by decide), sl 21 (by decide) (by decide)]))
    · by_cases hx : x = 0
      · subst hx; exact nz y (fun q => h2 ⟨rfl, by omega⟩)
      · rw [nc x hx]
    · show (okN μ c && decide (ones (fbN μ c % 2 ^ T) ≤ liN μ)) = (okN ν c && decide (ones (fbN ν c) ≤ liN ν))
      rw [okν, fbν, hLn]
    · rw [nz 3 (by decide), s7 8 (by decide)]; exact p1
    · rw [nz 4 (by decide), s7 9 (by decide)]; exact p2
    · rw [nz 5 (by decide), s7 10 (by decide)]; exact p3
    · rw [nz 7 (by decide), s7 11 (by decide)]; exact p4
    · rw [okν, s7 12 (by decide)]; exact p5
    · rw [n9]; simp [va_up, up_eq]
    · rw [sl 13 (by decide) (by decide), sl 14 (by decide) (by decide), vu_s, nc 1 (by decide), okν, fbν]
      exact ⟨(p8 c hc).1, (p8 c hc).2.1, hv c hc⟩
    · rw [sl 12 (by decide) (by decide), sl 11 (by decide) (by decide), nc 4 (by decide), nc 3 (by decide)]
      rw [hTn] at ht
      rw [hPn]
      exact p10 t (by omega)
    · rw [nz 3 (by decide)]; exact p11
    · rw [nz 7 (by decide)]; exact p12
  · have e : sp_undo μ = (-1, t0 μ) := if_pos h7
    refine st_iconst (v := (-1)) hc dX11_undo_10 (by decide) ?_
    refine st_iret (st := []) hc dX11_undo_11 rfl ?_
    rw [e]
    exact ⟨rfl, h.t⟩

