/-! ===== calls of the class: the hand ===== -/
theorem spots_c {P C : Nat} {w v : Nat → Int32} (h : ∀ i, i < P → w i = v i) : spotsN P C w = spotsN P C v := fbits_congr (fun j _ => by
  unfold spB
  by_cases q : j < P * C
  · rw [h (j / C) (Nat.div_lt_of_lt_mul (by rw [Nat.mul_comm]; exact q))]
  · simp [q])
theorem shares_c {P C : Nat} {w v : Nat → Int32} (h : ∀ i, i < P → w i = v i) : sharesN P C w = sharesN P C v := fbits_congr (fun j _ => by
  unfold shB
  rw [cnt_congr (fun i hi => by rw [h i hi])])
/-- the hands of both sides change -/
theorem Rel.hd {k : Nat} {σ τ μ ν : St} (h : Rel k σ μ) (e : ∀ a, ¬ (a = 17 ∨ a = 18) → τ a = σ a) (f : ∀ a b, ¬ a = 2 → ¬ (a = 0 ∧ b = 15) → ν a b = μ a b) (ho : hOK ν) (hH : rlH τ ν) : Rel (k + 1) τ ν := by
  obtain ⟨⟨⟨m1, m2, m3, m4, m5, m6⟩, hb, hP, hQ, -, hS, hF, hT, hR, hV⟩, hN⟩ := h
  have c : ∀ a, ¬ a = 2 → ¬ a = 0 → ν a = μ a := fun a h1 h0 => funext (fun b => f a b h1 (fun q => h0 q.1))
  have z : ∀ i, ¬ i = 15 → ν 0 i = μ 0 i := fun i hi => f 0 i (by decide) (fun q => hi q.2)
  have hmu : muP μ ν := ⟨⟨z 0 (by decide), z 1 (by decide), z 2 (by decide)⟩, z 3 (by decide), z 4 (by decide), z 5 (by decide), z 7 (by decide), z 9 (by decide), c 1 (by decide) (by decide), c 3 (by decide) (by decide), c 4 (by decide) (by decide)⟩
  refine ⟨⟨⟨kMI m1 hmu.1 (z 5 (by decide)) (z 9 (by decide)) (c 1 (by decide) (by decide)), ho, kqO m3 (z 13 (by decide)), ksO m4 (c 35 (by decide) (by decide)), kpO m5 hmu.1 (z 43 (by decide)) (c 30 (by decide) (by decide)) (c 31 (by decide) (by decide)) (c 32 (by decide) (by decide)), knO m6 (z 33 (by decide))⟩, kB hb hmu.1 (e 1 (by decide)) (e 2 (by decide)) (e 3 (by decide)) (e 4 (by decide)), kP hP hmu (fun i _ _ => by rw [e 7 (by decide)]) (e 11 (by decide)) (e 12 (by decide)) (e 13 (by decide)) (e 14 (by decide)) (e 15 (by decide)) (e 16 (by decide)), kQ hQ (by rw [e 7 (by decide)]) (z 13 (by decide)) (c 5 (by decide) (by decide)), hH, kS hS hmu (by rw [e 7 (by decide)]) (e 21 (by decide)), kF hF (fun a h1 h2 => e a (by omega)), kT hT (fun a h1 h2 => e a (by omega)) (z 33 (by decide)) (fun a h1 h2 => c a (by omega) (by omega)), kR hR (by rw [e 52 (by decide)]) (by rw [e 52 (by decide)]) (fun a h1 h2 => e a (by omega)) (z 43 (by decide)) (c 30 (by decide) (by decide)) (c 31 (by decide) (by decide)) (c 32 (by decide) (by decide)), kV hV (fun a h1 h2 => e a (by omega)) (fun a h1 h2 => c a (by omega) (by omega))⟩, by rw [e 0 (by decide), z 14 (by decide)]; exact hN⟩
/-- the store behind a hand that was measured -/
theorem rlH_m {ρ ν : St} {P C : Nat} (hP : pN ν = P) (hC : cN ν = C) (h18 : ∀ i, i < P → ρ 18 i = ν 2 i) : rlH (up (up ρ 17 1 (nI (spotsN P C (ρ 18)))) 17 2 (nI (sharesN P C (ρ 18)))) ν := by
  unfold rlH
  rw [hP, hC]
  refine ⟨fun i hi => by rw [up_o 18 (by decide), up_o 18 (by decide)]; exact h18 i hi, ?_, ?_⟩
  · rw [← spots_c h18]; simp [up_eq]
  · rw [← shares_c h18]; simp [up_eq]
theorem C11_peg {k : Nat} {σ μ : St} (h : Rel k σ μ) (i x : Int32) : Mt YC mX11_peg 70 [.ref 0, .int i, .int x] σ (fun r τ => r = some (.int (sp_peg μ i x).1) ∧ Rel (k + 1) τ (sp_peg μ i x).2) := by
  obtain ⟨⟨f1, f2, f3, f4⟩, ⟨e1, e2, e3, e4⟩, ⟨g1, g2, g3⟩, ⟨u0, u1, u9, u5⟩⟩ := h.f
  obtain ⟨H1, H2, H3⟩ := h.1.2.2.2.2.1
  have hz := h.1.2.1.1.1
  have hro := h.row
  have hho := h.1.1.2.1
  have hpm : x ≤ μ 0 1 - 1 ↔ x < nI (cN μ) := by rw [u1]; exact lt_pm f3 (by omega)
  refine Mt.ofA [some (.ref 0), some (.int i), some (.int x), none] (by decide) (fun _ => Nat.le_of_ble_eq_true rfl) (fun _ => rfl) (fun g hc => ?_)
  refine st_aload_n hc dX11_peg_0 rfl rfl ?_
  refine st_getr hc dX11_peg_1 flX11_12 rfl rfl ?_
  refine st_iload_n hc dX11_peg_4 rfl rfl ?_
  refine st_callVp hc dX11_peg_5 (C0_hasPlace 60 σ g1 (by omega) i) mvX11_148 (by omega) rfl rfl rfl (Nat.le_of_ble_eq_true rfl) ?_
  refine st_if_ne (tgt := 18) hc dX11_peg_8 (by decide) (fun h8 => ?_) (fun h8 => ?_)
  · obtain ⟨q1, q2⟩ := of_decide_eq_true (bI_t h8)
    refine st_aload_n hc dX11_peg_18 rfl rfl ?_
    refine st_getr hc dX11_peg_19 flX11_12 rfl rfl ?_
    refine st_iload_n hc dX11_peg_22 rfl rfl ?_
    refine st_callVp hc dX11_peg_23 (C0_isPeg 60 σ g2 x) mvX11_155 (by omega) rfl rfl rfl (Nat.le_of_ble_eq_true rfl) ?_
    refine st_if_ne (tgt := 32) hc dX11_peg_26 (by decide) (fun h26 => ?_) (fun h26 => ?_)
    · have hx := of_decide_eq_true (bI_t h26)
      have e : sp_peg μ i x = (μ 2 (nat i), up (t0 μ) 2 (nat i) x) := (if_neg (fun q => q ⟨q1, q2⟩)).trans (if_neg (fun q => q ⟨hx.1, hpm.mpr hx.2⟩))
      have hxr : x = -1 ∨ (0 ≤ x ∧ nat x < cN μ) := by
        by_cases z : x = -1
        · exact Or.inl z
        · have h0 : 0 ≤ x := by
            have a1 := Int32.le_iff_toInt_le.mp hx.1
            have a2 : (-1 : Int32).toInt = -1 := rfl
            rw [a2] at a1
            refine Int32.le_iff_toInt_le.mpr ?_
            have a3 : (0 : Int32).toInt = 0 := rfl
            rw [a3]
            rcases Int.lt_or_le x.toInt 0 with y | y
            · exact absurd (Int32.toInt_inj.mp (show x.toInt = (-1 : Int32).toInt by rw [a2]; omega)) z
            · exact y
          refine Or.inr ⟨h0, ?_⟩
          have h2 := hx.2
          rw [← nI_nat h0] at h2
          exact (nI_ltI (nat_lt x) (by omega)).mp h2
      refine st_aload_n hc dX11_peg_32 rfl rfl ?_
      refine st_getr hc dX11_peg_33 flX11_28 rfl rfl ?_
      refine st_getr hc dX11_peg_36 flX11_158 rfl rfl ?_
      refine st_iload_n hc dX11_peg_39 rfl rfl ?_
      refine st_ialdN (k := nat i) hc dX11_peg_40 rfl ((nI_nat q1).symm) (by omega) (by first | decide | omega) (H1 (nat i) q2) ?_
      refine st_istore_n hc dX11_peg_41 rfl (by decide) rfl ?_
      refine st_aload_n hc dX11_peg_42 rfl rfl ?_
      refine st_getr hc dX11_peg_43 flX11_28 rfl rfl ?_
      refine st_getr hc dX11_peg_46 flX11_158 rfl rfl ?_
      refine st_iload_n hc dX11_peg_49 rfl rfl ?_
      refine st_iload_n hc dX11_peg_50 rfl rfl ?_
      refine st_iastN (k := nat i) hc dX11_peg_51 rfl ((nI_nat q1).symm) (by omega) (by first | decide | omega)  ?_
      refine st_aload_n hc dX11_peg_52 rfl rfl ?_
      refine st_getr hc dX11_peg_53 flX11_28 rfl rfl ?_
      refine st_aload_n hc dX11_peg_56 rfl rfl ?_
      refine st_getr hc dX11_peg_57 flX11_12 rfl rfl ?_
      refine st_getE hc dX11_peg_60 flX11_162 rfl rfl ((by rw [up_o 1 (by decide)]; exact g1 : _ = nI (pN μ))) ?_
      refine st_aload_n hc dX11_peg_63 rfl rfl ?_
      refine st_getr hc dX11_peg_64 flX11_12 rfl rfl ?_
      refine st_getE hc dX11_peg_67 flX11_165 rfl rfl ((by rw [up_o 1 (by decide)]; exact g2 : _ = nI (cN μ))) ?_
      refine st_callVn hc dX11_peg_70 (C2_measure 60 (up σ 18 (nat i) x) gs17 hz (fun j hj => by
        rw [up_eq]
        by_cases y : j = nat i
        · rw [if_pos ⟨rfl, y⟩]; exact hxr
        · rw [if_neg (fun q => y q.2)]; exact hro j hj)) mvX11_107 (by omega) rfl rfl rfl (Nat.le_of_ble_eq_true rfl) ?_
      rintro τ1 ee
      subst ee
      refine st_iload_n hc dX11_peg_73 rfl rfl ?_
      refine st_iret (st := []) hc dX11_peg_74 rfl ?_
      rw [e]
      refine ⟨rfl, h.hd (fun a ha => by rw [up_o a (by omega), up_o a (by omega), up_o a (by omega)]) (fun a b h1 h2 => ?_) ?_ (rlH_m (by unfold pN; simp [up_eq]) (by unfold cN; simp [up_eq]) (fun j hj => ?_))⟩
      · show up (up μ 0 15 0) 2 (nat i) x a b = μ a b
        rw [up_eq, if_neg (fun q => h1 q.1), up_eq, if_neg h2]
      · intro j hj
        have hP : pN (up (t0 μ) 2 (nat i) x) = pN μ := by unfold pN; simp [up_eq]
        have hC : cN (up (t0 μ) 2 (nat i) x) = cN μ := by unfold cN; simp [up_eq]
        have hj : j < pN (up (t0 μ) 2 (nat i) x) := hj
        rw [hP] at hj
        show up (t0 μ) 2 (nat i) x 2 j = -1 ∨ (0 ≤ up (t0 μ) 2 (nat i) x 2 j ∧ nat (up (t0 μ) 2 (nat i) x 2 j) < cN (up (t0 μ) 2 (nat i) x))
        rw [hC, up_eq]
        by_cases y : j = nat i
        · rw [if_pos ⟨rfl, y⟩]; exact hxr
        · rw [if_neg (fun q => y q.2), show t0 μ 2 = μ 2 from up_o 2 (by decide)]; exact hho j hj
      · show up σ 18 (nat i) x 18 j = up (t0 μ) 2 (nat i) x 2 j
        rw [up_eq, up_eq]
        by_cases y : j = nat i
        · rw [if_pos ⟨rfl, y⟩, if_pos ⟨rfl, y⟩]
        · rw [if_neg (fun q => y q.2), if_neg (fun q => y q.2), show t0 μ 2 = μ 2 from up_o 2 (by decide)]; exact H1 j hj
    · have e : sp_peg μ i x = (-16, t0 μ) := (if_neg (fun q => q ⟨q1, q2⟩)).trans (if_pos (fun q => of_decide_eq_false (bI_0.mp h26) ⟨q.1, hpm.mp q.2⟩))
      refine st_bipush (v := (-16)) hc dX11_peg_29 (by decide) ?_
      refine st_iret (st := []) hc dX11_peg_31 rfl ?_
      rw [e]
      exact ⟨rfl, h.t⟩
  · have e : sp_peg μ i x = (-13, fnd μ) := if_pos (of_decide_eq_false (bI_0.mp h8))
    refine st_aload_n hc dX11_peg_11 rfl rfl ?_
    refine st_bipush (v := (-13)) hc dX11_peg_12 (by decide) ?_
    refine st_callVq hc dX11_peg_14 (C11_refused 60 σ (-13)) mvX11_151 (by omega) rfl rfl rfl (Nat.le_of_ble_eq_true rfl) ?_
    rintro τ1 ee
    subst ee
    refine st_iret (st := []) hc dX11_peg_17 rfl ?_
    rw [e]
    exact ⟨rfl, h.fd⟩
theorem W_show1 {g : Gx} {ρ : St} {Q : Option Value → St → Prop} {d P : Nat} {c : Int32} (hc : cX g YC RX11 cX11_show 3 (some .int) d) (hP : ρ 1 0 = nI P) (hP5 : P ≤ 5) (k : aW g YC 3 Q 50 [some (.ref 0), some (.int c), some (.int (nI P))] [] ρ) : aW g YC 3 Q 15 [some (.ref 0), some (.int c), some (.int (nI P))] [] ρ := by
  refine st_iload_n hc dX11_show_15 rfl rfl ?_
  refine st_aload_n hc dX11_show_16 rfl rfl ?_
  refine st_getr hc dX11_show_17 flX11_12 rfl rfl ?_
  refine st_getE hc dX11_show_20 flX11_162 rfl rfl (hP) ?_
  refine st_icmp_ge (tgt := 50) hc dX11_show_23 (by decide) (fun h23 => ?_) (fun h23 => ?_)
  · exact k
  · exact absurd (nI_le (Nat.le_refl _) (by omega)) h23
theorem W_show2 {g : Gx} {ρ : St} {Q : Option Value → St → Prop} {P C i : Nat} {c : Int32} (hc : cX g YC RX11 cX11_show 3 (some .int) 70) (hb : bkI ρ P C) (hi : i < P) (hcc : nat c < C ^ P) (h0 : 0 ≤ c) (hP5 : P ≤ 5) (k : aW g YC 3 Q 15 [some (.ref 0), some (.int c), some (.int (nI (i + 1)))] [] (up ρ 18 i (nI (pegOf P C (nat c) i)))) : aW g YC 3 Q 15 [some (.ref 0), some (.int c), some (.int (nI i))] [] ρ := by
  have hco := C0_colourAt 60 ρ hb hcc hi
  rw [nI_nat h0] at hco
  refine st_iload_n hc dX11_show_15 rfl rfl ?_
  refine st_aload_n hc dX11_show_16 rfl rfl ?_
  refine st_getr hc dX11_show_17 flX11_12 rfl rfl ?_
  refine st_getE hc dX11_show_20 flX11_162 rfl rfl (hb.1.2.2.1) ?_
  refine st_icmp_ge (tgt := 50) hc dX11_show_23 (by decide) (fun h23 => ?_) (fun h23 => ?_)
  · exact absurd h23 (nI_ge hi (by omega))
  · refine st_aload_n hc dX11_show_26 rfl rfl ?_
    refine st_getr hc dX11_show_27 flX11_28 rfl rfl ?_
    refine st_getr hc dX11_show_30 flX11_158 rfl rfl ?_
    refine st_iload_n hc dX11_show_33 rfl rfl ?_
    refine st_aload_n hc dX11_show_34 rfl rfl ?_
    refine st_getr hc dX11_show_35 flX11_12 rfl rfl ?_
    refine st_iload_n hc dX11_show_38 rfl rfl ?_
    refine st_iload_n hc dX11_show_39 rfl rfl ?_
    refine st_callVp hc dX11_show_40 (hco) mvX11_168 (by omega) rfl rfl rfl (Nat.le_of_ble_eq_true rfl) ?_
    refine st_iastN (k := i) hc dX11_show_43 rfl (rfl) (by omega) (by first | decide | omega)  ?_
    refine st_inc hc dX11_show_44 rfl (by decide) rfl ?_
    rw [nI_1]
    refine st_goto (tgt := 15) hc dX11_show_47 (by decide) ?_
    exact k
theorem C11_show {k : Nat} {σ μ : St} (h : Rel k σ μ) (c : Int32) : Mt YC mX11_show 70 [.ref 0, .int c] σ (fun r τ => r = some (.int (sp_show μ c).1) ∧ Rel (k + 1) τ (sp_show μ c).2) := by
  obtain ⟨⟨f1, f2, f3, f4⟩, ⟨e1, e2, e3, e4⟩, ⟨g1, g2, g3⟩, ⟨u0, u1, u9, u5⟩⟩ := h.f
  have hz := h.1.2.1.1.1
  refine Mt.ofA [some (.ref 0), some (.int c), none] (by decide) (fun _ => Nat.le_of_ble_eq_true rfl) (fun _ => rfl) (fun g hc => ?_)
  have hl : ∀ j, pegOf (pN μ) (cN μ) (nat c) j < cN μ := fun j => pegOf_lt f3 _ j
  have k50 : 0 ≤ c → nat c < nN μ → ∀ ρ, (∀ a, ¬ a = 18 → ρ a = σ a) → (∀ j, j < pN μ → ρ 18 j = nI (pegOf (pN μ) (cN μ) (nat c) j)) → aW g YC 3 (fun r τ => r = some (.int (sp_show μ c).1) ∧ Rel (k + 1) τ (sp_show μ c).2) 50 [some (.ref 0), some (.int c), some (.int (nI (pN μ)))] [] ρ := by
    intro q1 q2 ρ hρ hr
    have e : sp_show μ c = (sortS (shS μ (nat c)), shS μ (nat c)) := if_pos ⟨q1, q2⟩
    have hro : rowOK (pN μ) (cN μ) (ρ 18) := fun j hj => by
      rw [hr j hj]
      exact Or.inr ⟨Int32.not_lt.mp (nI_pos (by have := hl j; omega)), by rw [nat_nI (by have := hl j; omega)]; exact hl j⟩
    have hP : pN (shS μ (nat c)) = pN μ := by unfold pN shS; simp [va_up, up_eq]
    have hC : cN (shS μ (nat c)) = cN μ := by unfold cN shS; simp [va_up, up_eq]
    have h2 : ∀ j, j < pN μ → shS μ (nat c) 2 j = nI (pegOf (pN μ) (cN μ) (nat c) j) := fun j hj => by
      show va_up (t0 μ) 2 _ 2 j = _
      rw [vu_s]
      unfold shw
      rw [if_pos hj]
    have hRel : Rel (k + 1) (up (up ρ 17 1 (nI (spotsN (pN μ) (cN μ) (ρ 18)))) 17 2 (nI (sharesN (pN μ) (cN μ) (ρ 18)))) (shS μ (nat c)) := by
      refine h.hd (fun a ha => by rw [up_o a (by omega), up_o a (by omega)]; exact hρ a (by omega)) (fun a b h1 h2 => ?_) (fun j hj => ?_) (rlH_m hP hC (fun j hj => by rw [hr j hj, h2 j hj]))
      · show va_up (up μ 0 15 0) 2 _ a b = μ a b
        rw [vu_n h1, up_eq, if_neg h2]
      · have hj : j < pN (shS μ (nat c)) := hj
        rw [hP] at hj
        show shS μ (nat c) 2 j = -1 ∨ (0 ≤ shS μ (nat c) 2 j ∧ nat (shS μ (nat c) 2 j) < cN (shS μ (nat c)))
        rw [h2 j hj, hC]
        exact Or.inr ⟨Int32.not_lt.mp (nI_pos (by have := hl j; omega)), by rw [nat_nI (by have := hl j; omega)]; exact hl j⟩
    refine st_aload_n hc dX11_show_50 rfl rfl ?_
    refine st_getr hc dX11_show_51 flX11_28 rfl rfl ?_
    refine st_aload_n hc dX11_show_54 rfl rfl ?_
    refine st_getr hc dX11_show_55 flX11_12 rfl rfl ?_
    refine st_getE hc dX11_show_58 flX11_162 rfl rfl ((by rw [hρ 1 (by decide)]; exact g1 : _ = nI (pN μ))) ?_
    refine st_aload_n hc dX11_show_61 rfl rfl ?_
    refine st_getr hc dX11_show_62 flX11_12 rfl rfl ?_
    refine st_getE hc dX11_show_65 flX11_165 rfl rfl ((by rw [hρ 1 (by decide)]; exact g2 : _ = nI (cN μ))) ?_
    refine st_callVn hc dX11_show_68 (C2_measure 60 ρ gs17 hz hro) mvX11_107 (by omega) rfl rfl rfl (Nat.le_of_ble_eq_true rfl) ?_
    rintro τ1 ee
    subst ee
    refine st_aload_n hc dX11_show_71 rfl rfl ?_
    refine st_callVq hc dX11_show_72 (C11_sortOfHand hRel) mvX11_171 (by omega) rfl rfl rfl (Nat.le_of_ble_eq_true rfl) ?_
    rintro τ2 j2
    refine st_iret (st := []) hc dX11_show_75 rfl ?_
    rw [e]
    exact ⟨rfl, hRel.eqD j2⟩
  refine st_aload_n hc dX11_show_0 rfl rfl ?_
  refine st_getr hc dX11_show_1 flX11_12 rfl rfl ?_
  refine st_iload_n hc dX11_show_4 rfl rfl ?_
  refine st_callVp hc dX11_show_5 (C0_has 60 σ g3 e2 c) mvX11_128 (by omega) rfl rfl rfl (Nat.le_of_ble_eq_true rfl) ?_
  refine st_if_ne (tgt := 13) hc dX11_show_8 (by decide) (fun h8 => ?_) (fun h8 => ?_)
  · obtain ⟨q1, q2⟩ := of_decide_eq_true (bI_t h8)
    refine st_iconst (v := 0) hc dX11_show_13 (by decide) ?_
    refine st_istore_n hc dX11_show_14 rfl (by decide) rfl ?_
    have k15 : ∀ ρ, (∀ a, ¬ a = 18 → ρ a = σ a) → (∀ j, j < 0 → ρ 18 j = nI (pegOf (pN μ) (cN μ) (nat c) j)) → aW g YC 3 (fun r τ => r = some (.int (sp_show μ c).1) ∧ Rel (k + 1) τ (sp_show μ c).2) 15 [some (.ref 0), some (.int c), some (.int (nI 0))] [] ρ := by
      refine lpN (n := pN μ) (F := fun i => ∀ ρ, (∀ a, ¬ a = 18 → ρ a = σ a) → (∀ j, j < i → ρ 18 j = nI (pegOf (pN μ) (cN μ) (nat c) j)) → aW g YC 3 (fun r τ => r = some (.int (sp_show μ c).1) ∧ Rel (k + 1) τ (sp_show μ c).2) 15 [some (.ref 0), some (.int c), some (.int (nI i))] [] ρ) (fun ρ hρ hr => ?_) (fun i hi ih ρ hρ hr => ?_)
      · exact W_show1 hc (by rw [hρ 1 (by decide)]; exact g1) f2 (k50 q1 q2 ρ hρ hr)
      · have hbk : bkI ρ (pN μ) (cN μ) := h.1.2.1.eq (hρ 1 (by decide)) (hρ 2 (by decide)) (hρ 3 (by decide)) (hρ 4 (by decide))
        refine W_show2 hc hbk hi (by rw [← e1]; exact q2) q1 f2 (ih _ (fun a ha => by rw [up_o a ha]; exact hρ a ha) (fun j hj => ?_))
        rw [up_eq]
        by_cases y : j = i
        · rw [if_pos ⟨rfl, y⟩, y]
        · rw [if_neg (fun q => y q.2)]; exact hr j (by omega)
    exact k15 σ (fun _ _ => rfl) (fun j hj => absurd hj (Nat.not_lt_zero j))
  · have e : sp_show μ c = (-1, t0 μ) := if_neg (of_decide_eq_false (bI_0.mp h8))
    refine st_iconst (v := (-1)) hc dX11_show_11 (by decide) ?_
    refine st_iret (st := []) hc dX11_show_12 rfl ?_
    rw [e]
    exact ⟨rfl, h.t⟩

