/-! ===== calls of the class: the list ===== -/
theorem Rel.en {k : Nat} {σ τ μ : St} (h : Rel k σ μ) {c m : Nat} (hc : c < nN μ) (h0 : μ 1 c = 0) (um : μ 0 7 = nI m) (hm : m < 300) (e : τ = if μ 0 3 = 3 then flS (up (up (up (up σ 13 c 1) 7 11 (nI (m + 1))) 14 c 1) 7 12 (nI (cnt (nN μ) (okN μ) + 1))) (nN μ) (lf (fun x => if x = c then true else okN μ x) (fbN μ) (liN μ)) else up (up σ 13 c 1) 7 11 (nI (m + 1))) : τ 7 11 = nI (m + 1) ∧ Rel (k + 1) τ (up (up (t0 μ) 1 c 1) 0 7 (nI (m + 1))) := by
  obtain ⟨⟨f1, f2, f3, f4⟩, ⟨e1, e2, e3, e4⟩, ⟨g1, g2, g3⟩, ⟨u0, u1, u9, u5⟩⟩ := h.f
  obtain ⟨p1, p2, p3, p4, p5, p6, p7, p8, p9, p10, p11, -⟩ := id h.1.2.2.1
  have nz : ∀ i, ¬ (i = 7 ∨ i = 15) → up (up (t0 μ) 1 c 1) 0 7 (nI (m + 1)) 0 i = μ 0 i := fun i hi => by
    show up (up (up μ 0 15 0) 1 c 1) 0 7 (nI (m + 1)) 0 i = μ 0 i
    rw [up_eq, if_neg (fun q => by omega), up_o 0 (by decide), up_eq, if_neg (fun q => by omega)]
  have nc : ∀ x, ¬ x = 0 → ¬ x = 1 → up (up (t0 μ) 1 c 1) 0 7 (nI (m + 1)) x = μ x := fun x hx h1 => by
    show up (up (up μ 0 15 0) 1 c 1) 0 7 (nI (m + 1)) x = μ x
    rw [up_o x hx, up_o x h1, up_o x hx]
  have n7 : up (up (t0 μ) 1 c 1) 0 7 (nI (m + 1)) 0 7 = nI (m + 1) := by simp [up_eq]
  have n1 : ∀ x, up (up (t0 μ) 1 c 1) 0 7 (nI (m + 1)) 1 x = if x = c then 1 else μ 1 x := fun x => by
    show up (up (up μ 0 15 0) 1 c 1) 0 7 (nI (m + 1)) 1 x = _
    simp [up_eq]
  generalize hν : up (up (t0 μ) 1 c 1) 0 7 (nI (m + 1)) = ν at *
  have hPn : pN ν = pN μ := by unfold pN; rw [nz 0 (by decide)]
  have hCn : cN ν = cN μ := by unfold cN; rw [nz 1 (by decide)]
  have hNn : nN ν = nN μ := by unfold nN; rw [nz 2 (by decide)]
  have hLn : liN ν = liN μ := by unfold liN; rw [nz 5 (by decide)]
  have hTn : tN ν = tN μ := by unfold tN; rw [nz 9 (by decide)]
  have fbν : fbN ν = fbN μ := by unfold fbN fbM; rw [hPn, hCn, hTn, nc 3 (by decide) (by decide), nc 4 (by decide) (by decide)]
  have hMI : MI ν := by
    obtain ⟨⟨⟨q1, q2, q3, q4, q5, q6⟩, n2, n3, n4, t1, t2, l1, l2, l3⟩, t9⟩ := id h.1.1.1
    refine ⟨⟨⟨?_, ?_, ?_, ?_, ?_, ?_⟩, ?_, ?_, ?_, ?_, ?_, ?_, ?_, ?_⟩, ?_⟩
    all_goals first | rw [hPn] | skip
    all_goals first | rw [hCn] | skip
    all_goals first | rw [hNn] | skip
    all_goals first | rw [hLn] | skip
    all_goals first | rw [hTn] | skip
    all_goals first | rw [hPn] | skip
    all_goals first | rw [nz 0 (by decide)] | skip
    all_goals first | rw [nz 1 (by decide)] | skip
    all_goals first | rw [nz 2 (by decide)] | skip
    all_goals first | rw [nz 5 (by decide)] | skip
    all_goals first | rw [nz 9 (by decide)] | skip
    all_goals first | assumption | skip
    intro x hx
    rw [n1]
    split
    · exact Or.inr rfl
    · exact l3 x hx
  have pf : ∀ x y, ¬ (x = 1 ∨ x = 3 ∨ x = 4 ∨ x = 5) → ¬ (x = 0 ∧ (y = 3 ∨ y = 4 ∨ y = 5 ∨ y = 7 ∨ y = 9 ∨ y = 13 ∨ y = 15)) → ν x y = μ x y := fun x y h1 h2 => by
    by_cases hx : x = 0
    · subst hx; exact nz y (fun q => h2 ⟨rfl, by omega⟩)
    · rw [nc x hx (by omega)]
  by_cases hl : μ 0 3 = 3
  · rw [if_pos hl] at e
    have okμ : ∀ x, okN μ x = !(μ 1 x == 0) := fun x => by
      show okLaw _ _ (μ 0 3) _ _ x = _
      unfold okLaw
      rw [hl, if_neg (by decide), if_pos rfl]
    have okν : okN ν = fun x => if x = c then true else okN μ x := by
      funext x
      show okLaw _ _ (ν 0 3) _ _ x = _
      rw [okμ]
      unfold okLaw
      rw [nz 3 (by decide), hl, if_neg (by decide), if_pos rfl, n1]
      by_cases q : x = c
      · rw [if_pos q, if_pos q]; decide
      · rw [if_neg q, if_neg q]
    have hcn : cnt (nN μ) (okN ν) = cnt (nN μ) (okN μ) + 1 := cnt_upd1 hc (by rw [okμ, h0]; decide) (by rw [okν]; simp) (fun i hi q => by rw [okν]; simp [q])
    subst e
    obtain ⟨fe1, fe2, fe3⟩ := fl_e (ρ := up (up (up (up σ 13 c 1) 7 11 (nI (m + 1))) 14 c 1) 7 12 (nI (cnt (nN μ) (okN μ) + 1))) (N := nN μ) (p := lf (fun x => if x = c then true else okN μ x) (fbN μ) (liN μ))
    have sl : ∀ x, ¬ x = 7 → ¬ x = 13 → ¬ x = 14 → up (up (up (up σ 13 c 1) 7 11 (nI (m + 1))) 14 c 1) 7 12 (nI (cnt (nN μ) (okN μ) + 1)) x = σ x := fun x h7 h13 h14 => by rw [up_o x h7, up_o x h14, up_o x h7, up_o x h13]
    have s7 : ∀ i, ¬ i = 11 → ¬ i = 12 → up (up (up (up σ 13 c 1) 7 11 (nI (m + 1))) 14 c 1) 7 12 (nI (cnt (nN μ) (okN μ) + 1)) 7 i = σ 7 i := fun i h1 h2 => by simp [up_eq, h1, h2]
    refine ⟨by simp [va_up, up_eq], ?_⟩
    refine h.py (fun x hx => by rw [fe1 x (by omega) (by omega), sl x (by omega) (by omega) (by omega)]) pf hMI (kqO h.1.1.2.2.1 (nz 13 (by decide))) (rlP_fl hNn (fun x hx => ?_) ?_ ?_ ?_ ?_ ?_ ?_ (fun x hx => ?_) (fun t ht => ?_) ?_ ?_) (kQ h.1.2.2.2.1 (by rw [fe2, s7 15 (by decide) (by decide)]) (nz 13 (by decide)) (nc 5 (by decide) (by decide))) (kS' h.1.2.2.2.2.2.1 (by rw [fe3, s7 16 (by decide) (by decide)]) (by rw [fe1 21 (by decide) (by decide), sl 21 (by decide) (by decide) (by decide)]))
    · show ((fun x => if x = c then true else okN μ x) x && decide (ones (fbN μ x) ≤ liN μ)) = (okN ν x && decide (ones (fbN ν x) ≤ liN ν))
      rw [okν, fbν, hLn]
    · rw [nz 3 (by decide), s7 8 (by decide) (by decide)]; exact p1
    · rw [nz 4 (by decide), s7 9 (by decide) (by decide)]; exact p2
    · rw [nz 5 (by decide), s7 10 (by decide) (by decide)]; exact p3
    · rw [n7]; simp [up_eq]
    · rw [hcn]; simp [up_eq]
    · rw [nz 9 (by decide), s7 14 (by decide) (by decide)]; exact p7
    · obtain ⟨b1, b2, b3⟩ := p8 x hx
      refine ⟨?_, ?_, ?_⟩
      · rw [n1, ← b1]; simp [up_eq]
      · rw [okν]
        by_cases q : x = c
        · simp [up_eq, q, bI]
        · simp [up_eq, q, b2]
      · rw [fbν, sl 15 (by decide) (by decide) (by decide)]; exact b3
    · rw [sl 12 (by decide) (by decide) (by decide), sl 11 (by decide) (by decide) (by decide), nc 4 (by decide) (by decide), nc 3 (by decide) (by decide)]
      rw [hTn] at ht
      rw [hPn]
      exact p10 t ht
    · rw [nz 3 (by decide)]; exact p11
    · exact ⟨m + 1, by omega, n7⟩
  · rw [if_neg hl] at e
    have okν : okN ν = okN μ := by
      funext x
      show okLaw _ _ (ν 0 3) _ _ x = okLaw _ _ (μ 0 3) _ _ x
      unfold okLaw
      rw [nz 3 (by decide), nz 4 (by decide), if_neg hl, if_neg hl, hPn, hCn]
    have mν : mLs ν = mLs μ := by
      funext x
      show (okN ν x && decide (ones (fbN ν x) ≤ liN ν)) = (okN μ x && decide (ones (fbN μ x) ≤ liN μ))
      rw [okν, fbν, hLn]
    have lν : lm ν = lm μ := by unfold lm; rw [mν, hNn]
    have tν : lth ν = lth μ := by funext j; show nthT (nN ν) (mLs ν) j = nthT (nN μ) (mLs μ) j; rw [mν, hNn]
    subst e
    have sl : ∀ x, ¬ x = 7 → ¬ x = 13 → up (up σ 13 c 1) 7 11 (nI (m + 1)) x = σ x := fun x h7 h13 => by rw [up_o x h7, up_o x h13]
    have s7 : ∀ i, ¬ i = 11 → up (up σ 13 c 1) 7 11 (nI (m + 1)) 7 i = σ 7 i := fun i h1 => by simp [up_eq, h1]
    refine ⟨by simp [up_eq], ?_⟩
    refine h.py (fun x hx => sl x (by omega) (by omega)) pf hMI (kqO h.1.1.2.2.1 (nz 13 (by decide))) ?_ (kQ h.1.2.2.2.1 (s7 15 (by decide)) (nz 13 (by decide)) (nc 5 (by decide) (by decide))) ?_
    · unfold rlP
      rw [lν, tν, okν, fbν, hNn, hTn, hPn, s7 8 (by decide), s7 9 (by decide), s7 10 (by decide), s7 12 (by decide), s7 13 (by decide), s7 14 (by decide), sl 11 (by decide) (by decide), sl 12 (by decide) (by decide), sl 14 (by decide) (by decide), sl 15 (by decide) (by decide), sl 16 (by decide) (by decide), nz 3 (by decide), nz 4 (by decide), nz 5 (by decide), nz 9 (by decide), nc 3 (by decide) (by decide), nc 4 (by decide) (by decide), n7]
      refine ⟨p1, p2, p3, by simp [up_eq], p5, p6, p7, fun x hx => ⟨?_, (p8 x hx).2⟩, p9, p10, p11, m + 1, by omega, rfl⟩
      rw [n1, ← (p8 x hx).1]; simp [up_eq]
    · obtain ⟨x, x1, x2, x3⟩ := h.1.2.2.2.2.2.1
      refine ⟨x, by rw [s7 16 (by decide)]; exact x1, by omega, ?_⟩
      unfold svF at *
      rw [sl 21 (by decide) (by decide), lν, tν, hNn, hPn, hCn]
      exact x3
theorem C11_enlist {k : Nat} {σ μ : St} (h : Rel k σ μ) (a : Int32) : Mt YC mX11_enlist 70 [.ref 0, .int a] σ (fun r τ => r = some (.int (sp_enlist μ a).1) ∧ Rel (k + 1) τ (sp_enlist μ a).2) := by
  obtain ⟨⟨f1, f2, f3, f4⟩, ⟨e1, e2, e3, e4⟩, ⟨g1, g2, g3⟩, ⟨u0, u1, u9, u5⟩⟩ := h.f
  obtain ⟨p1, p2, p3, p4, p5, p6, p7, p8, p9, p10, p11, ⟨m, hm, um⟩⟩ := id h.1.2.2.1
  have hL01 := h.1.1.1.1.2.2.2.2.2.2.2.2
  refine Mt.ofA [some (.ref 0), some (.int a)] (by decide) (fun _ => Nat.le_of_ble_eq_true rfl) (fun _ => rfl) (fun g hc => ?_)
  refine st_aload_n hc dX11_enlist_0 rfl rfl ?_
  refine st_getr hc dX11_enlist_1 flX11_12 rfl rfl ?_
  refine st_iload_n hc dX11_enlist_4 rfl rfl ?_
  refine st_callVp hc dX11_enlist_5 (C0_has 60 σ g3 e2 a) mvX11_128 (by omega) rfl rfl rfl (Nat.le_of_ble_eq_true rfl) ?_
  refine st_if_ne (tgt := 13) hc dX11_enlist_8 (by decide) (fun h8 => ?_) (fun h8 => ?_)
  · have hin := of_decide_eq_true (bI_t h8)
    obtain ⟨ha0, hacn⟩ := id hin
    have hex : ¬ ¬ (0 ≤ a ∧ nat a < nN μ) := fun q => q hin
    refine st_aload_n hc dX11_enlist_13 rfl rfl ?_
    refine st_getr hc dX11_enlist_14 flX11_21 rfl rfl ?_
    refine st_getE hc dX11_enlist_17 flX11_119 rfl rfl ((p7.trans u9)) ?_
    refine st_if_le (tgt := 26) hc dX11_enlist_20 (by decide) (fun h20 => ?_) (fun h20 => ?_)
    · have h20 : ¬ 0 < tN μ := fun q => by have := (nI_leI (b := 0) (by omega) (by decide)).mp h20; omega
      refine st_aload_n hc dX11_enlist_26 rfl rfl ?_
      refine st_getr hc dX11_enlist_27 flX11_21 rfl rfl ?_
      refine st_getr hc dX11_enlist_30 flX11_132 rfl rfl ?_
      refine st_iload_n hc dX11_enlist_33 rfl rfl ?_
      refine st_zaldN (k := nat a) hc dX11_enlist_34 rfl ((nI_nat ha0).symm) (by omega) (by first | decide | omega) ((p8 (nat a) hacn).1) ?_
      refine st_if_ne (tgt := 62) hc dX11_enlist_35 (by decide) (fun h35 => ?_) (fun h35 => ?_)
      · have h35 : ¬ μ 1 (nat a) = 0 := h35
        have e : sp_enlist μ a = (μ 0 7, t0 μ) := (if_neg hex).trans ((if_neg h20).trans (if_pos h35))
        refine st_aload_n hc dX11_enlist_62 rfl rfl ?_
        refine st_getr hc dX11_enlist_63 flX11_21 rfl rfl ?_
        refine st_getE hc dX11_enlist_66 flX11_136 rfl rfl ((by rw [e]; first | exact p4 | exact q1 : _ = (sp_enlist μ a).1)) ?_
        refine st_iret (st := []) hc dX11_enlist_69 rfl ?_
        first
         | (rw [e]; exact ⟨rfl, q2⟩)
         | (rw [e]; exact ⟨rfl, h.t⟩)
      · have h35 : μ 1 (nat a) = 0 := h35
        refine st_aload_n hc dX11_enlist_38 rfl rfl ?_
        refine st_getr hc dX11_enlist_39 flX11_21 rfl rfl ?_
        refine st_getE hc dX11_enlist_42 flX11_136 rfl rfl ((p4.trans um)) ?_
        refine st_sipush (v := 300) hc dX11_enlist_45 (by decide) ?_
        refine st_icmp_lt (tgt := 54) hc dX11_enlist_48 (by decide) (fun h48 => ?_) (fun h48 => ?_)
        · have h48 : m < 300 := (nI_ltI (b := 300) (by omega) (by decide)).mp h48
          have e : sp_enlist μ a = (nI (m + 1), up (up (t0 μ) 1 (nat a) 1) 0 7 (nI (m + 1))) := (if_neg hex).trans ((if_neg h20).trans ((if_neg (fun q => q h35)).trans ((if_neg (fun q => by rw [um] at q; have := nI_inj (b := 300) (by omega) (by decide) q; omega)).trans (by rw [um, nI_1]))))
          have hsl := C5_addToList 60 σ (c := nat a) h.A hacn
          rw [nI_nat ha0, p4, p5, um, nI_1, nI_1] at hsl
          refine st_aload_n hc dX11_enlist_54 rfl rfl ?_
          refine st_getr hc dX11_enlist_55 flX11_21 rfl rfl ?_
          refine st_iload_n hc dX11_enlist_58 rfl rfl ?_
          refine st_callVn hc dX11_enlist_59 (hsl) mvX11_139 (by omega) rfl rfl rfl (Nat.le_of_ble_eq_true rfl) ?_
          rintro τ1 ee
          rw [p1] at ee
          obtain ⟨q1, q2⟩ := h.en hacn h35 um h48 ee
          refine st_aload_n hc dX11_enlist_62 rfl rfl ?_
          refine st_getr hc dX11_enlist_63 flX11_21 rfl rfl ?_
          refine st_getE hc dX11_enlist_66 flX11_136 rfl rfl ((by rw [e]; first | exact p4 | exact q1 : _ = (sp_enlist μ a).1)) ?_
          refine st_iret (st := []) hc dX11_enlist_69 rfl ?_
          first
           | (rw [e]; exact ⟨rfl, q2⟩)
           | (rw [e]; exact ⟨rfl, h.t⟩)
        · have h48 : m = 300 := by
            have hn : ¬ m < 300 := fun q => h48 ((nI_ltI (b := 300) (by omega) (by decide)).mpr q)
            omega
          have e : sp_enlist μ a = (-2, t0 μ) := (if_neg hex).trans ((if_neg h20).trans ((if_neg (fun q => q h35)).trans (if_pos (by rw [um, h48]; rfl))))
          refine st_bipush (v := (-2)) hc dX11_enlist_51 (by decide) ?_
          refine st_iret (st := []) hc dX11_enlist_53 rfl ?_
          rw [e]
          exact ⟨rfl, h.t⟩
    · have h20 : 0 < tN μ := Nat.lt_of_not_le (fun q => h20 (nI_le (b := 0) q (by decide)))
      have e : sp_enlist μ a = (-3, t0 μ) := (if_neg hex).trans (if_pos h20)
      refine st_bipush (v := (-3)) hc dX11_enlist_23 (by decide) ?_
      refine st_iret (st := []) hc dX11_enlist_25 rfl ?_
      rw [e]
      exact ⟨rfl, h.t⟩
  · have hno := of_decide_eq_false (bI_0.mp h8)
    have e : sp_enlist μ a = (-1, t0 μ) := if_pos hno
    refine st_iconst (v := (-1)) hc dX11_enlist_11 (by decide) ?_
    refine st_iret (st := []) hc dX11_enlist_12 rfl ?_
    rw [e]
    exact ⟨rfl, h.t⟩

