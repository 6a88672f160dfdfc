/-! ===== calls of the class: shelves, 3 ===== -/
theorem C11_copy {k : Nat} {σ μ : St} (h : Rel k σ μ) (p i q j n : Int32) : Mt YC mX11_copy 70 [.ref 0, .int p, .int i, .int q, .int j, .int n] σ (fun r τ => r = some (.int (sp_copy μ p i q j n).1) ∧ Rel (k + 1) τ (sp_copy μ p i q j n).2) := by
  have hV : rlV σ μ := h.1.2.2.2.2.2.2.2.2.2
  refine Mt.ofA [some (.ref 0), some (.int p), some (.int i), some (.int q), some (.int j), some (.int n), none, none] (by decide) (fun _ => Nat.le_of_ble_eq_true rfl) (fun _ => rfl) (fun g hc => ?_)
  refine st_iload_n hc dX11_copy_0 rfl rfl ?_
  refine st_callSp hc dX11_copy_1 (C11_isShelf 60 σ p) msX11_331 (by omega) rfl rfl (Nat.le_of_ble_eq_true rfl) ?_
  refine st_if_eq (tgt := 14) hc dX11_copy_4 (by decide) (fun h4 => ?_) (fun h4 => ?_)
  · have e : sp_copy μ p i q j n = (-1, t0 μ) := if_pos (Or.inl (of_decide_eq_false (bI_0.mp h4)))
    refine st_iconst (v := (-1)) hc dX11_copy_14 (by decide) ?_
    refine st_iret (st := []) hc dX11_copy_15 rfl ?_
    rw [e]
    exact ⟨rfl, h.t⟩
  · have hin := of_decide_eq_true (bI_t h4)
    obtain ⟨ep, hD⟩ := sh_n hin
    refine st_iload_n hc dX11_copy_7 rfl rfl ?_
    refine st_callSp hc dX11_copy_8 (C11_isShelf 60 σ q) msX11_331 (by omega) rfl rfl (Nat.le_of_ble_eq_true rfl) ?_
    refine st_if_ne (tgt := 16) hc dX11_copy_11 (by decide) (fun h11 => ?_) (fun h11 => ?_)
    · have hin2 := of_decide_eq_true (bI_t h11)
      obtain ⟨eq, hE⟩ := sh_n hin2
      have hex : ¬ (¬ (0 ≤ p ∧ p ≤ 5) ∨ ¬ (0 ≤ q ∧ q ≤ 5)) := fun z => by
        rcases z with z | z
        · exact z hin
        · exact z hin2
      have hs := shY_d hD
      have hs2 := shY_d hE
      obtain ⟨v1, v2, v3, v4, v5, v6⟩ := hV (nat p) hD
      obtain ⟨w1, w2, w3, w4, w5, w6⟩ := hV (nat q) hE
      obtain ⟨l0, l60⟩ := h.1.1.2.2.2.1 (nat p) hD
      obtain ⟨m0, m60⟩ := h.1.1.2.2.2.1 (nat q) hE
      refine st_aload_n hc dX11_copy_16 rfl rfl ?_
      refine st_getr hc dX11_copy_17 flX11_81 rfl rfl ?_
      refine st_iload_n hc dX11_copy_20 rfl rfl ?_
      refine st_aaldN (k := nat p) hc dX11_copy_21 rfl (ep) (by omega) (by first | decide | omega) (sh_q hD) ?_
      refine st_astore hc dX11_copy_22 (by decide) rfl ?_
      refine st_aload_n hc dX11_copy_24 rfl rfl ?_
      refine st_getr hc dX11_copy_25 flX11_81 rfl rfl ?_
      refine st_iload_n hc dX11_copy_28 rfl rfl ?_
      refine st_aaldN (k := nat q) hc dX11_copy_29 rfl (eq) (by omega) (by first | decide | omega) (sh_q hE) ?_
      refine st_astore hc dX11_copy_30 (by decide) rfl ?_
      refine st_aload hc dX11_copy_32 rfl ?_
      refine st_getE hc dX11_copy_34 flX11_341 hs.1 rfl (v1) ?_
      refine st_if_eq (tgt := 48) hc dX11_copy_37 (by decide) (fun h37 => ?_) (fun h37 => ?_)
      · have e : sp_copy μ p i q j n = (-11, fnd μ) := (if_neg hex).trans (if_pos (Or.inl h37))
        refine st_aload_n hc dX11_copy_48 rfl rfl ?_
        refine st_bipush (v := (-11)) hc dX11_copy_49 (by decide) ?_
        refine st_callVq hc dX11_copy_51 (C11_refused 60 σ (-11)) mvX11_151 (by omega) rfl rfl rfl (Nat.le_of_ble_eq_true rfl) ?_
        rintro τ1 ee
        subst ee
        refine st_iret (st := []) hc dX11_copy_54 rfl ?_
        rw [e]
        exact ⟨rfl, h.fd⟩
      · refine st_aload hc dX11_copy_40 rfl ?_
        refine st_getE hc dX11_copy_42 flX11_341 hs2.1 rfl (w1) ?_
        refine st_if_ne (tgt := 55) hc dX11_copy_45 (by decide) (fun h45 => ?_) (fun h45 => ?_)
        · have hex2 : ¬ (μ 34 (nat p) = 0 ∨ μ 34 (nat q) = 0) := fun z => by
            rcases z with z | z
            · exact h37 z
            · exact h45 z
          refine st_aload hc dX11_copy_55 rfl ?_
          refine st_callVp hc dX11_copy_57 (C7_whyNoRow 60 σ hs) mvX11_344 (by omega) rfl hs.1 rfl (Nat.le_of_ble_eq_true rfl) ?_
          rw [v1, if_neg h37]
          refine st_if_ne (tgt := 76) hc dX11_copy_60 (by decide) (fun h60 => ?_) (fun h60 => ?_)
          · have q4 : μ 34 (nat p) = 4 := by
              by_cases z : μ 34 (nat p) = 4
              · exact z
              · rw [if_neg z] at h60; exact absurd rfl h60
            have e : sp_copy μ p i q j n = (-12, fnd μ) := (if_neg hex).trans ((if_neg hex2).trans (if_pos (Or.inl q4)))
            refine st_aload_n hc dX11_copy_76 rfl rfl ?_
            refine st_bipush (v := (-12)) hc dX11_copy_77 (by decide) ?_
            refine st_callVq hc dX11_copy_79 (C11_refused 60 σ (-12)) mvX11_151 (by omega) rfl rfl rfl (Nat.le_of_ble_eq_true rfl) ?_
            rintro τ1 ee
            subst ee
            refine st_iret (st := []) hc dX11_copy_82 rfl ?_
            rw [e]
            exact ⟨rfl, h.fd⟩
          · have q4 : ¬ μ 34 (nat p) = 4 := fun z => by rw [if_pos z] at h60; cases h60
            refine st_aload hc dX11_copy_63 rfl ?_
            refine st_getE hc dX11_copy_65 flX11_341 hs.1 rfl (v1) ?_
            refine st_aload hc dX11_copy_68 rfl ?_
            refine st_getE hc dX11_copy_70 flX11_341 hs2.1 rfl (w1) ?_
            refine st_icmp_eq (tgt := 83) hc dX11_copy_73 (by decide) (fun h73 => ?_) (fun h73 => ?_)
            · have hex3 : ¬ (μ 34 (nat p) = 4 ∨ ¬ μ 34 (nat p) = μ 34 (nat q)) := fun z => by
                rcases z with z | z
                · exact q4 z
                · exact z h73
              refine st_aload hc dX11_copy_83 rfl ?_
              refine st_iload_n hc dX11_copy_85 rfl rfl ?_
              refine st_iload hc dX11_copy_86 rfl ?_
              refine st_callVp hc dX11_copy_88 (C7_hasCells 60 σ hs (v2.trans (nI_nat l0).symm) l60 i n) mvX11_347 (by omega) rfl hs.1 rfl (Nat.le_of_ble_eq_true rfl) ?_
              refine st_if_eq (tgt := 106) hc dX11_copy_91 (by decide) (fun h91 => ?_) (fun h91 => ?_)
              · have hno := of_decide_eq_false (bI_0.mp h91)
                have e : sp_copy μ p i q j n = (-13, fnd μ) := (if_neg hex).trans ((if_neg hex2).trans ((if_neg hex3).trans (if_pos (by
                  by_cases y1 : n < 0
                  · exact Or.inl y1
                  by_cases y2 : i < 0
                  · exact Or.inr (Or.inl y2)
                  by_cases y3 : nat (μ 35 (nat p)) < nat i + nat n
                  · exact Or.inr (Or.inr (Or.inr (Or.inl y3)))
                  · exact absurd ⟨Int32.not_lt.mp y1, Int32.not_lt.mp y2, Nat.not_lt.mp y3⟩ hno))))
                refine st_aload_n hc dX11_copy_106 rfl rfl ?_
                refine st_bipush (v := (-13)) hc dX11_copy_107 (by decide) ?_
                refine st_callVq hc dX11_copy_109 (C11_refused 60 σ (-13)) mvX11_151 (by omega) rfl rfl rfl (Nat.le_of_ble_eq_true rfl) ?_
                rintro τ1 ee
                subst ee
                refine st_iret (st := []) hc dX11_copy_112 rfl ?_
                rw [e]
                exact ⟨rfl, h.fd⟩
              · obtain ⟨n0, i0, iN⟩ := of_decide_eq_true (bI_t h91)
                refine st_aload hc dX11_copy_94 rfl ?_
                refine st_iload hc dX11_copy_96 rfl ?_
                refine st_iload hc dX11_copy_98 rfl ?_
                refine st_callVp hc dX11_copy_100 (C7_hasCells 60 σ hs2 (w2.trans (nI_nat m0).symm) m60 j n) mvX11_347 (by omega) rfl hs2.1 rfl (Nat.le_of_ble_eq_true rfl) ?_
                refine st_if_ne (tgt := 113) hc dX11_copy_103 (by decide) (fun h103 => ?_) (fun h103 => ?_)
                · obtain ⟨-, j0, jN⟩ := of_decide_eq_true (bI_t h103)
                  have e : sp_copy μ p i q j n = (n, va_up (t0 μ) 36 (rng (60 * nat q + nat j) (nat n) (fun k => μ 36 (60 * nat p + nat i + k)) (μ 36))) := (if_neg hex).trans ((if_neg hex2).trans ((if_neg hex3).trans (if_neg (fun z => by
                    rcases z with z | z | z | z | z
                    · exact absurd z (Int32.not_lt.mpr n0)
                    · exact absurd z (Int32.not_lt.mpr i0)
                    · exact absurd z (Int32.not_lt.mpr j0)
                    · omega
                    · omega))))
                  refine st_aload hc dX11_copy_113 rfl ?_
                  refine st_getr hc dX11_copy_115 flX11_351 hs.1 rfl ?_
                  refine st_iload_n hc dX11_copy_118 rfl rfl ?_
                  refine st_aload hc dX11_copy_119 rfl ?_
                  refine st_getr hc dX11_copy_121 flX11_351 hs2.1 rfl ?_
                  refine st_iload hc dX11_copy_124 rfl ?_
                  refine st_iload hc dX11_copy_126 rfl ?_
                  refine st_acopy (s := nat i) (t := nat j) (m := nat n) hc dX11_copy_128 lkcpy11_371 (by omega) hs.2.1 hs2.2.1 ((nI_nat i0).symm) ((nI_nat j0).symm) ((nI_nat n0).symm) (by omega) (by omega) (by decide) (by decide) (Nat.le_of_ble_eq_true rfl) ?_
                  refine st_iload hc dX11_copy_131 rfl ?_
                  refine st_iret (st := []) hc dX11_copy_133 rfl ?_
                  rw [e]
                  refine ⟨rfl, ?_⟩
                  show Rel (k + 1) _ (va_up (up μ 0 15 0) 36 (rng (60 * nat q + nat j) (nat n) (fun k => μ 36 (60 * nat p + nat i + k)) (μ 36)))
                  refine h.sv (fun a ha => vu_n (by omega)) (fun a b ha hb => ?_) (fun d hd => ?_) (rlV_k (D := nat q) hV (fun a h1 h2 => vu_n h2) (fun d hd => ?_) (fun d hd => ?_) (fun d hd => ?_) (fun d hd x hx => ?_) h.1.1.2.2.2.1 ?_ ?_ ?_ (fun x hx => ?_) ?_ (fun z => ?_) (fun z x hx => ?_))
                  · rw [vu_n (by omega), up_eq, if_neg hb]
                  · rw [vu_n (by decide), up_o 35 (by decide)]; exact h.1.1.2.2.2.1 d hd
                  · rw [vu_n (by decide), up_o 34 (by decide)]
                  · rw [vu_n (by decide), up_o 35 (by decide)]
                  · rw [vu_n (by decide), up_o 37 (by decide)]
                  · rw [vu_s]; unfold rng; rw [if_neg (by omega)]
                  · rw [vu_n (k := 36) (by decide), up_o 34 (by decide), vu_n (by omega)]; exact w1
                  · rw [vu_n (k := 36) (by decide), up_o 35 (by decide), vu_n (by omega)]; exact w2
                  · rw [vu_n (k := 36) (by decide), up_o 37 (by decide), vu_n (by omega)]; exact w3
                  · rw [vu_s, vu_s]
                    unfold rng
                    by_cases y : nat j ≤ x ∧ x < nat j + nat n
                    · rw [if_pos y, if_pos (by omega)]
                      show σ (63 + 2 * nat p) (nat i + (x - nat j)) = μ 36 (60 * nat p + nat i + (60 * nat q + x - (60 * nat q + nat j)))
                      rw [v4 _ (by omega)]
                      congr 1
                      omega
                    · rw [if_neg y, if_neg (by omega)]; exact w4 x hx
                  · rw [vu_n (by decide), up_o 34 (by decide)]; exact w5
                  · exfalso; rw [vu_n (by decide), up_o 34 (by decide), ← h73] at z; exact q4 z
                  · rw [vu_n (by decide), up_o 34 (by decide)] at z
                    rw [vu_s]
                    unfold rng
                    split
                    · show ¬ μ 36 (60 * nat p + nat i + (60 * nat q + x - (60 * nat q + nat j))) = -1
                      rw [show 60 * nat p + nat i + (60 * nat q + x - (60 * nat q + nat j)) = 60 * nat p + (nat i + (60 * nat q + x - (60 * nat q + nat j))) by omega]
                      exact v6.2 (by rw [h73]; exact z) _ (by omega)
                    · exact w6.2 z x hx
                · have hno := of_decide_eq_false (bI_0.mp h103)
                  have e : sp_copy μ p i q j n = (-13, fnd μ) := (if_neg hex).trans ((if_neg hex2).trans ((if_neg hex3).trans (if_pos (by
                    by_cases y2 : j < 0
                    · exact Or.inr (Or.inr (Or.inl y2))
                    by_cases y3 : nat (μ 35 (nat q)) < nat j + nat n
                    · exact Or.inr (Or.inr (Or.inr (Or.inr y3)))
                    · exact absurd ⟨n0, Int32.not_lt.mp y2, Nat.not_lt.mp y3⟩ hno))))
                  refine st_aload_n hc dX11_copy_106 rfl rfl ?_
                  refine st_bipush (v := (-13)) hc dX11_copy_107 (by decide) ?_
                  refine st_callVq hc dX11_copy_109 (C11_refused 60 σ (-13)) mvX11_151 (by omega) rfl rfl rfl (Nat.le_of_ble_eq_true rfl) ?_
                  rintro τ1 ee
                  subst ee
                  refine st_iret (st := []) hc dX11_copy_112 rfl ?_
                  rw [e]
                  exact ⟨rfl, h.fd⟩
            · have e : sp_copy μ p i q j n = (-12, fnd μ) := (if_neg hex).trans ((if_neg hex2).trans (if_pos (Or.inr h73)))
              refine st_aload_n hc dX11_copy_76 rfl rfl ?_
              refine st_bipush (v := (-12)) hc dX11_copy_77 (by decide) ?_
              refine st_callVq hc dX11_copy_79 (C11_refused 60 σ (-12)) mvX11_151 (by omega) rfl rfl rfl (Nat.le_of_ble_eq_true rfl) ?_
              rintro τ1 ee
              subst ee
              refine st_iret (st := []) hc dX11_copy_82 rfl ?_
              rw [e]
              exact ⟨rfl, h.fd⟩
        · have e : sp_copy μ p i q j n = (-11, fnd μ) := (if_neg hex).trans (if_pos (Or.inr h45))
          refine st_aload_n hc dX11_copy_48 rfl rfl ?_
          refine st_bipush (v := (-11)) hc dX11_copy_49 (by decide) ?_
          refine st_callVq hc dX11_copy_51 (C11_refused 60 σ (-11)) mvX11_151 (by omega) rfl rfl rfl (Nat.le_of_ble_eq_true rfl) ?_
          rintro τ1 ee
          subst ee
          refine st_iret (st := []) hc dX11_copy_54 rfl ?_
          rw [e]
          exact ⟨rfl, h.fd⟩
    · have e : sp_copy μ p i q j n = (-1, t0 μ) := if_pos (Or.inr (of_decide_eq_false (bI_0.mp h11)))
      refine st_iconst (v := (-1)) hc dX11_copy_14 (by decide) ?_
      refine st_iret (st := []) hc dX11_copy_15 rfl ?_
      rw [e]
      exact ⟨rfl, h.t⟩
theorem sort_5 (μ : St) : ∃ s, s < 5 ∧ sortS μ = nI s := by
  unfold sortS
  split
  · exact ⟨3, by decide, rfl⟩
  · split
    · exact ⟨0, by decide, rfl⟩
    · split
      · exact ⟨4, by decide, rfl⟩
      · split
        · exact ⟨1, by decide, rfl⟩
        · exact ⟨2, by decide, rfl⟩
theorem C11_keep {k : Nat} {σ μ : St} (h : Rel k σ μ) (p : Int32) : Mt YC mX11_keep 70 [.ref 0, .int p] σ (fun r τ => r = some (.int (sp_keep μ p).1) ∧ Rel (k + 1) τ (sp_keep μ p).2) := by
  obtain ⟨⟨f1, f2, f3, f4⟩, -, ⟨g1, g2, g3⟩, ⟨u0, u1, u9, u5⟩⟩ := h.f
  refine Mt.ofA [some (.ref 0), some (.int p), none] (by decide) (fun _ => Nat.le_of_ble_eq_true rfl) (fun _ => rfl) (fun g hc => ?_)
  refine st_iload_n hc dX11_keep_0 rfl rfl ?_
  refine st_callSp hc dX11_keep_1 (C11_isShelf 60 σ p) msX11_331 (by omega) rfl rfl (Nat.le_of_ble_eq_true rfl) ?_
  refine st_if_ne (tgt := 9) hc dX11_keep_4 (by decide) (fun h4 => ?_) (fun h4 => ?_)
  · have hin := of_decide_eq_true (bI_t h4)
    obtain ⟨ep, hD⟩ := sh_n hin
    have e : sp_keep μ p = (sortS μ, va_up (up (kpS μ (nat p)) 37 (nat p) (sortS μ)) 36 (rng (60 * nat p) (pN μ) (μ 2) (μ 36))) := if_pos hin
    refine st_aload_n hc dX11_keep_9 rfl rfl ?_
    refine st_callVq hc dX11_keep_10 (C11_sortOfHand h) mvX11_171 (by omega) rfl rfl rfl (Nat.le_of_ble_eq_true rfl) ?_
    rintro τ1 e1
    have hR := (h.eqD e1)
    have g1' : τ1 1 0 = nI (pN μ) := by rw [e1 1 (by decide)]; exact g1
    refine st_istore_n hc dX11_keep_13 rfl (by decide) rfl ?_
    refine st_aload_n hc dX11_keep_14 rfl rfl ?_
    refine st_getr hc dX11_keep_15 flX11_81 rfl rfl ?_
    refine st_iload_n hc dX11_keep_18 rfl rfl ?_
    refine st_aaldN (k := nat p) hc dX11_keep_19 rfl (ep) (by omega) (by first | decide | omega) (sh_q hD) ?_
    refine st_aload_n hc dX11_keep_20 rfl rfl ?_
    refine st_getr hc dX11_keep_21 flX11_28 rfl rfl ?_
    refine st_aload_n hc dX11_keep_24 rfl rfl ?_
    refine st_getr hc dX11_keep_25 flX11_12 rfl rfl ?_
    refine st_getE hc dX11_keep_28 flX11_162 rfl rfl (g1') ?_
    refine st_iload_n hc dX11_keep_31 rfl rfl ?_
    refine st_callVn hc dX11_keep_32 (C7_holdGuess 60 τ1 (shY_d hD) f2 (sortS μ)) mvX11_337 (by omega) rfl (shY_d hD).1 rfl (Nat.le_of_ble_eq_true rfl) ?_
    rintro τ2 ee
    subst ee
    refine st_iload_n hc dX11_keep_35 rfl rfl ?_
    refine st_iret (st := []) hc dX11_keep_36 rfl ?_
    rw [e]
    refine ⟨rfl, ?_⟩
    show Rel (k + 1) _ (va_up (up (up (up (up μ 0 15 0) 34 (nat p) 4) 35 (nat p) (μ 0 0)) 37 (nat p) (sortS μ)) 36 (rng (60 * nat p) (pN μ) (μ 2) (μ 36)))
    generalize hν : va_up (up (up (up (up μ 0 15 0) 34 (nat p) 4) 35 (nat p) (μ 0 0)) 37 (nat p) (sortS μ)) 36 (rng (60 * nat p) (pN μ) (μ 2) (μ 36)) = ν
    have hV : rlV τ1 μ := hR.1.2.2.2.2.2.2.2.2.2
    obtain ⟨v1, v2, v3, v4, v5, v6⟩ := hV (nat p) hD
    obtain ⟨H1, -⟩ := hR.1.2.2.2.2.1
    have hho := h.1.1.2.1
    have c : ∀ a, ¬ (34 ≤ a ∧ a ≤ 37) → ¬ a = 0 → ν a = μ a := fun a ha h0 => by rw [← hν, vu_n (by omega), up_o a (by omega), up_o a (by omega), up_o a (by omega), up_o a h0]
    have z : ∀ b, ¬ b = 15 → ν 0 b = μ 0 b := fun b hb => by rw [← hν, vu_n (by decide), up_o 0 (by decide), up_o 0 (by decide), up_o 0 (by decide), up_eq, if_neg (fun q => hb q.2)]
    have c34 : ∀ d, ν 34 d = if d = nat p then 4 else μ 34 d := fun d => by rw [← hν]; simp [va_up, up_eq]
    have c35 : ∀ d, ν 35 d = if d = nat p then nI (pN μ) else μ 35 d := fun d => by rw [← hν, u0]; simp [va_up, up_eq]
    have c37 : ∀ d, ν 37 d = if d = nat p then sortS μ else μ 37 d := fun d => by rw [← hν]; simp [va_up, up_eq]
    have c36 : ν 36 = rng (60 * nat p) (pN μ) (μ 2) (μ 36) := by rw [← hν, vu_s]
    refine hR.sv (fun a ha => by rw [vu_n (by omega), up_o a (by omega), up_o a (by omega), up_o a (by omega)]) (fun a b ha hb => ?_) (fun d hd => ?_) (rlV_k (D := nat p) hV (fun a h1 h2 => by rw [vu_n h2, up_o a h1, up_o a h1, up_o a h1]) (fun d hd => ?_) (fun d hd => ?_) (fun d hd => ?_) (fun d hd i hi => ?_) h.1.1.2.2.2.1 ?_ ?_ ?_ (fun i hi => ?_) ?_ (fun q => ?_) (fun q i hi => ?_))
    · by_cases q : a = 0
      · subst q; exact z b (fun q => hb ⟨rfl, q⟩)
      · rw [c a (by omega) q]
    · rw [c35]
      split
      · exact ⟨nI_le (a := 0) (Nat.zero_le _) (by omega), by rw [nat_nI (by omega)]; omega⟩
      · exact h.1.1.2.2.2.1 d hd
    · rw [c34, if_neg hd]
    · rw [c35, if_neg hd]
    · rw [c37, if_neg hd]
    · rw [c36]; unfold rng; rw [if_neg (by omega)]
    · rw [c34, if_pos rfl, vu_n (by omega)]; simp [up_eq]
    · rw [c35, if_pos rfl, vu_n (by omega)]; simp [up_eq]
    · rw [c37, if_pos rfl, vu_n (by omega)]; simp [up_eq]
    · rw [vu_s, c36]
      unfold rng
      by_cases y : i < pN μ
      · rw [if_pos (by omega), if_pos (by omega)]
        show τ1 18 (0 + (i - 0)) = μ 2 (60 * nat p + i - 60 * nat p)
        rw [show 0 + (i - 0) = i by omega, show 60 * nat p + i - 60 * nat p = i by omega]
        exact H1 i y
      · rw [if_neg (by omega), if_neg (by omega)]; exact v4 i hi
    · exact ⟨4, by decide, by rw [c34, if_pos rfl]; rfl⟩
    · rw [c37, c35, if_pos rfl, if_pos rfl, c36, nat_nI (by omega)]
      refine ⟨sort_5 μ, fun i hi => ?_⟩
      unfold rng
      rw [if_pos (by omega), show 60 * nat p + i - 60 * nat p = i by omega]
      rcases hho i hi with q | q
      · exact Or.inl q
      · exact Or.inr q.1
    · exfalso
      rw [c34, if_pos rfl] at q
      exact absurd q (by decide)
  · have e : sp_keep μ p = (-1, t0 μ) := if_neg (of_decide_eq_false (bI_0.mp h4))
    refine st_iconst (v := (-1)) hc dX11_keep_7 (by decide) ?_
    refine st_iret (st := []) hc dX11_keep_8 rfl ?_
    rw [e]
    exact ⟨rfl, h.t⟩

