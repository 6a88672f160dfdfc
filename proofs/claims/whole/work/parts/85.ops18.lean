/-! ===== calls of the class: begin ===== -/
def stA (σ : St) (P C : Nat) (τ : St) : Prop := bkI τ P C ∧ (τ 7 8 = 0 ∧ τ 7 9 = 0 ∧ τ 7 10 = 0 ∧ τ 7 11 = 0 ∧ τ 7 12 = nI (C ^ P) ∧ τ 7 13 = nI (C ^ P) ∧ τ 7 14 = 0 ∧ τ 7 15 = -1 ∧ τ 7 16 = σ 7 16 + 1) ∧ (∀ c, c < C ^ P → τ 13 c = 0 ∧ τ 14 c = 1 ∧ τ 15 c = 0 ∧ τ 16 c = nI c) ∧ ((∀ i, i < 5 → τ 18 i = -1) ∧ τ 17 1 = nI (spotsN P C (fun _ => -1)) ∧ τ 17 2 = nI (sharesN P C (fun _ => -1))) ∧ (τ 46 5 = 0 ∧ τ 52 8 = 0 ∧ τ 52 9 = 0 ∧ τ 0 11 = 0) ∧ ∀ a, ¬ (a = 0 ∨ (1 ≤ a ∧ a ≤ 6) ∨ a = 7 ∨ (13 ≤ a ∧ a ≤ 18) ∨ a = 46 ∨ a = 52) → τ a = σ a
theorem cnt_t {p : Nat → Bool} : ∀ n, (∀ c, c < n → p c = true) → cnt n p = n := by
  intro n
  induction n with
  | zero => intro _; rfl
  | succ n ih => intro h; rw [cnt, ih (fun c hc => h c (by omega))]; simp [h n (by omega)]
theorem C11_startAnew (d : Nat) (σ : St) {P C : Nat} (hz : szOK P C) (hp : C ^ P ≤ 4096) : Mt YC mX11_startAnew (d + 5) [.ref 0, .int (nI P), .int (nI C)] σ (fun r τ => r = none ∧ stA σ P C τ) := by
  refine Mt.ofA [some (.ref 0), some (.int (nI P)), some (.int (nI C))] (by decide) (fun _ => Nat.le_of_ble_eq_true rfl) (fun _ => rfl) (fun g hc => ?_)
  refine st_aload_n hc dX11_startAnew_0 rfl rfl ?_
  refine st_getr hc dX11_startAnew_1 flX11_12 rfl rfl ?_
  refine st_iload_n hc dX11_startAnew_4 rfl rfl ?_
  refine st_iload_n hc dX11_startAnew_5 rfl rfl ?_
  refine st_callVn hc dX11_startAnew_6 (C0_write (d + 2) σ hz hp) mvX11_98 (by omega) rfl rfl rfl (Nat.le_of_ble_eq_true rfl) ?_
  rintro τ1 ⟨hb, hE⟩
  refine st_aload_n hc dX11_startAnew_9 rfl rfl ?_
  refine st_getr hc dX11_startAnew_10 flX11_21 rfl rfl ?_
  refine st_callVn hc dX11_startAnew_13 (C5_startAnew d τ1 hb) mvX11_101 (by omega) rfl rfl rfl (Nat.le_of_ble_eq_true rfl) ?_
  rintro τ2 ⟨v, hv, e2⟩
  have t2 : ∀ a, ¬ (a = 7 ∨ (13 ≤ a ∧ a ≤ 16)) → τ2 a = τ1 a := fun a ha => by
    rw [e2]
    funext b
    have a7 : ¬ a = 7 := by omega
    have a13 : ¬ a = 13 := by omega
    have a14 : ¬ a = 14 := by omega
    have a15 : ¬ a = 15 := by omega
    have a16 : ¬ a = 16 := by omega
    simp [va_up, up_eq, a7, a13, a14, a15, a16]
  have h7 : τ2 7 8 = 0 ∧ τ2 7 9 = 0 ∧ τ2 7 10 = 0 ∧ τ2 7 11 = 0 ∧ τ2 7 12 = nI (C ^ P) ∧ τ2 7 13 = nI (C ^ P) ∧ τ2 7 14 = 0 ∧ τ2 7 15 = -1 ∧ τ2 7 16 = σ 7 16 + 1 := by
    have hct : cnt (C ^ P) (fun _ => true) = C ^ P := cnt_t _ (fun _ _ => rfl)
    have h16 : τ1 7 16 = σ 7 16 := by rw [hE 7 (by decide)]
    rw [e2]
    refine ⟨?_, ?_, ?_, ?_, ?_, ?_, ?_, ?_, ?_⟩
    all_goals simp [va_up, up_eq, hct, h16]
  have hrows : ∀ c, c < C ^ P → τ2 13 c = 0 ∧ τ2 14 c = 1 ∧ τ2 15 c = 0 ∧ τ2 16 c = nI c := fun c hcc => by
    have hct : cnt (C ^ P) (fun _ => true) = C ^ P := cnt_t _ (fun _ _ => rfl)
    rw [e2]
    refine ⟨?_, ?_, ?_, ?_⟩
    · simp [va_up, up_eq, clr, hcc]
    · simp [va_up, up_eq]; exact hv c hcc
    · simp [va_up, up_eq, clr, hcc]
    · show up (va_up _ 16 (qrow _ (C ^ P) (fun _ => true))) 7 16 _ 16 c = nI c
      rw [up_o 16 (by decide), vu_s]
      unfold qrow
      rw [hct, if_pos hcc, nthT_eq hcc rfl (cnt_t _ (fun _ _ => rfl))]
  refine st_aload_n hc dX11_startAnew_16 rfl rfl ?_
  refine st_getr hc dX11_startAnew_17 flX11_28 rfl rfl ?_
  refine st_iconst (v := (-1)) hc dX11_startAnew_20 (by decide) ?_
  refine st_callVn hc dX11_startAnew_21 (C2_fillWith (d + 3) τ2 gs17 (-1)) mvX11_103 (by omega) rfl rfl rfl (Nat.le_of_ble_eq_true rfl) ?_
  rintro τ3 e3
  have h18 : ∀ i, i < 5 → τ3 18 i = -1 := fun i hi => by rw [e3, vu_s]; unfold clr; rw [if_pos hi]
  have t3 : ∀ a, ¬ a = 18 → τ3 a = τ2 a := fun a ha => by rw [e3, vu_n ha]
  clear e3
  refine st_aload_n hc dX11_startAnew_24 rfl rfl ?_
  refine st_getr hc dX11_startAnew_25 flX11_28 rfl rfl ?_
  refine st_iload_n hc dX11_startAnew_28 rfl rfl ?_
  refine st_iload_n hc dX11_startAnew_29 rfl rfl ?_
  refine st_callVn hc dX11_startAnew_30 (C2_measure (d + 4) τ3 gs17 hz (fun j hj => Or.inl (h18 j (by have := hz.2.1; omega)))) mvX11_107 (by omega) rfl rfl rfl (Nat.le_of_ble_eq_true rfl) ?_
  rintro τ4 e4
  have t4 : ∀ a, ¬ a = 17 → τ4 a = τ3 a := fun a ha => by rw [e4, up_o a ha, up_o a ha]
  have q1 : τ4 17 1 = nI (spotsN P C (fun _ => -1)) := by rw [e4, spots_c (w := τ3 18) (v := fun _ => -1) (fun i hi => h18 i (by have := hz.2.1; omega))]; simp [up_eq]
  have q2 : τ4 17 2 = nI (sharesN P C (fun _ => -1)) := by rw [e4, shares_c (w := τ3 18) (v := fun _ => -1) (fun i hi => h18 i (by have := hz.2.1; omega))]; simp [up_eq]
  clear e4
  refine st_aload_n hc dX11_startAnew_33 rfl rfl ?_
  refine st_getr hc dX11_startAnew_34 flX11_68 rfl rfl ?_
  refine st_iconst (v := 0) hc dX11_startAnew_37 (by decide) ?_
  refine st_put hc dX11_startAnew_38 fpX11_110 rfl rfl  ?_
  refine st_aload_n hc dX11_startAnew_41 rfl rfl ?_
  refine st_getr hc dX11_startAnew_42 flX11_75 rfl rfl ?_
  refine st_callVn hc dX11_startAnew_45 (C4_empty (d + 4) (up τ4 46 5 0)) mvX11_113 (by omega) rfl rfl rfl (Nat.le_of_ble_eq_true rfl) ?_
  rintro τ5 e5
  refine st_aload_n hc dX11_startAnew_48 rfl rfl ?_
  refine st_iconst (v := 0) hc dX11_startAnew_49 (by decide) ?_
  refine st_put hc dX11_startAnew_50 fpX11_116 rfl rfl  ?_
  refine st_vret (st := []) hc dX11_startAnew_53 rfl ?_
  refine ⟨rfl, ?_⟩
  have t5 : ∀ a, ¬ (a = 46 ∨ a = 52 ∨ a = 0) → up τ5 0 11 0 a = τ4 a := fun a ha => by rw [up_o a (by omega), e5, up_o a (by omega), up_o a (by omega), up_o a (by omega)]
  have t4' : ∀ a, ¬ (a = 46 ∨ a = 52 ∨ a = 0 ∨ a = 17 ∨ a = 18) → up τ5 0 11 0 a = τ2 a := fun a ha => by rw [t5 a (by omega), t4 a (by omega), t3 a (by omega)]
  have t1' : ∀ a, ¬ (a = 46 ∨ a = 52 ∨ a = 0 ∨ a = 7 ∨ (13 ≤ a ∧ a ≤ 18)) → up τ5 0 11 0 a = τ1 a := fun a ha => by rw [t4' a (by omega), t2 a (by omega)]
  refine ⟨hb.eq (t1' 1 (by decide)) (t1' 2 (by decide)) (t1' 3 (by decide)) (t1' 4 (by decide)), by rw [t4' 7 (by decide)]; exact h7, fun c hc => by rw [t4' 13 (by decide), t4' 14 (by decide), t4' 15 (by decide), t4' 16 (by decide)]; exact hrows c hc, ⟨fun i hi => by rw [t5 18 (by decide), t4 18 (by decide)]; exact h18 i hi, by rw [t5 17 (by decide)]; exact q1, by rw [t5 17 (by decide)]; exact q2⟩, ⟨?_, ?_, ?_, ?_⟩, fun a ha => ?_⟩
  · rw [up_o 46 (by decide), e5]; simp [up_eq]
  · rw [up_o 52 (by decide), e5]; simp [up_eq]
  · rw [up_o 52 (by decide), e5]; simp [up_eq]
  · simp [up_eq]
  · rw [t1' a (by omega), hE a (by omega)]
theorem Rel.bg {k : Nat} {σ τ μ : St} {P C : Nat} (hz : szOK P C) (hp : C ^ P ≤ 4096) (hA : stA σ P C τ) (hS : rlS k σ μ) (hF : rlF σ) (hV : rlV σ μ) (hso : shOK μ) : Rel (k + 1) τ (bgn μ P C (C ^ P)) := by
  obtain ⟨hb, ⟨a8, a9, a10, a11, a12, a13, a14, a15, a16⟩, hr, ⟨h18, h171, h172⟩, ⟨t1, t2, t3, t4⟩, tt⟩ := hA
  obtain ⟨z1, z2, z3, z4⟩ := id hz
  have n0 : bgn μ P C (C ^ P) 0 0 = nI P := by unfold bgn; simp [va_up, up_eq]
  have n1 : bgn μ P C (C ^ P) 0 1 = nI C := by unfold bgn; simp [va_up, up_eq]
  have n2 : bgn μ P C (C ^ P) 0 2 = nI (C ^ P) := by unfold bgn; simp [va_up, up_eq]
  have n3 : bgn μ P C (C ^ P) 0 3 = 0 := by unfold bgn; simp [va_up, up_eq]
  have n4 : bgn μ P C (C ^ P) 0 4 = 0 := by unfold bgn; simp [va_up, up_eq]
  have n5 : bgn μ P C (C ^ P) 0 5 = 0 := by unfold bgn; simp [va_up, up_eq]
  have n7 : bgn μ P C (C ^ P) 0 7 = 0 := by unfold bgn; simp [va_up, up_eq]
  have n9 : bgn μ P C (C ^ P) 0 9 = 0 := by unfold bgn; simp [va_up, up_eq]
  have n13 : bgn μ P C (C ^ P) 0 13 = -1 := by unfold bgn; simp [va_up, up_eq]
  have n14 : bgn μ P C (C ^ P) 0 14 = 0 := by unfold bgn; simp [va_up, up_eq]
  have n33 : bgn μ P C (C ^ P) 0 33 = 0 := by unfold bgn; simp [va_up, up_eq]
  have n43 : bgn μ P C (C ^ P) 0 43 = 0 := by unfold bgn; simp [va_up, up_eq]
  have c1 : ∀ c, c < 4096 → bgn μ P C (C ^ P) 1 c = 0 := fun c hc => by unfold bgn; simp [va_up, up_eq, clr, hc]
  have c2 : ∀ i, i < 5 → bgn μ P C (C ^ P) 2 i = -1 := fun c hc => by unfold bgn; simp [va_up, up_eq, clr, hc]
  have cc : ∀ a, ¬ a = 0 → ¬ a = 1 → ¬ a = 2 → bgn μ P C (C ^ P) a = μ a := fun a h0 h1 h2 => by unfold bgn; funext b; simp [va_up, up_eq, h0, h1, h2]
  generalize hν : bgn μ P C (C ^ P) = ν at *
  have hPn : pN ν = P := by unfold pN; rw [n0]; exact nat_nI (by omega)
  have hCn : cN ν = C := by unfold cN; rw [n1]; exact nat_nI (by omega)
  have hNn : nN ν = C ^ P := by unfold nN; rw [n2]; exact nat_nI (by omega)
  have hTn : tN ν = 0 := by unfold tN; rw [n9]; rfl
  have hLn : liN ν = 0 := by unfold liN; rw [n5]; rfl
  have okν : ∀ c, okN ν c = true := fun c => by
    show okLaw _ _ (ν 0 3) _ _ c = true
    unfold okLaw
    rw [n3, if_pos rfl]
  have fbν : ∀ c, fbN ν c = 0 := fun c => by
    show fbits (tN ν) _ = 0
    rw [hTn]; rfl
  have mν : ∀ c, mLs ν c = true := fun c => by
    show (okN ν c && decide (ones (fbN ν c) ≤ liN ν)) = true
    rw [okν, fbν, hLn]; decide
  have lν : lm ν = C ^ P := by show cnt (nN ν) _ = _; rw [hNn]; exact cnt_t _ (fun c _ => mν c)
  have tν : ∀ j, j < C ^ P → lth ν j = j := fun j hj => by show nthT (nN ν) _ j = _; rw [hNn]; exact nthT_eq hj (mν j) (cnt_t _ (fun c _ => mν c))
  refine ⟨⟨⟨?_, ?_, Or.inl n13, ksO hso (cc 35 (by decide) (by decide) (by decide)), ?_, ?_⟩, ?_, ?_, Or.inl ⟨a15, n13⟩, ?_, kS' hS a16 (tt 21 (by decide)), kF hF (fun a h1 h2 => tt a (by omega)), ?_, ?_, kV hV (fun a h1 h2 => tt a (by omega)) (fun a h1 h2 => cc a (by omega) (by omega) (by omega))⟩, by rw [t4, n14]⟩
  · refine ⟨⟨⟨?_, ?_, ?_, ?_, ?_, ?_⟩, ?_, ?_, ?_, ?_, ?_, ?_, ?_, fun c hc => Or.inl (c1 c hc)⟩, ?_⟩
    all_goals first | rw [hPn] | skip
    all_goals first | rw [hCn] | skip
    all_goals first | rw [hNn] | skip
    all_goals first | rw [hTn] | skip
    all_goals first | rw [hLn] | skip
    all_goals first | rw [hPn] | skip
    all_goals first | assumption | omega | skip
  · intro i hi
    have hi : i < pN ν := hi
    rw [hPn] at hi
    exact Or.inl (c2 i (by omega))
  · unfold plOK plN
    rw [n43]
    exact ⟨by decide, by decide, fun n hn => absurd hn (Nat.not_lt_zero n)⟩
  · unfold ndOK
    rw [n33]
    exact ⟨by decide, by decide⟩
  · rw [hPn, hCn]; exact hb
  · unfold rlP
    rw [lν, hNn, hTn, hPn]
    refine ⟨by rw [a8, n3], by rw [a9, n4], by rw [a10, n5], by rw [a11, n7], by rw [a12, cnt_t _ (fun c _ => okν c)], a13, by rw [a14, n9], fun c hc => ?_, fun j hj => ?_, fun t ht => absurd ht (Nat.not_lt_zero t), ⟨0, by decide, by rw [n3]; rfl⟩, ⟨0, by decide, by rw [n7]; rfl⟩⟩
    · obtain ⟨b1, b2, b3, b4⟩ := hr c hc
      rw [b1, b2, b3, c1 c (by omega), okν, fbν]
      exact ⟨rfl, rfl, rfl⟩
    · rw [(hr j hj).2.2.2, tν j hj]
  · unfold rlH
    rw [hPn, hCn]
    refine ⟨fun i hi => by rw [h18 i (by omega), c2 i (by omega)], ?_, ?_⟩
    · rw [h171, spots_c (w := ν 2) (v := fun _ => -1) (fun i hi => c2 i (by omega))]
    · rw [h172, shares_c (w := ν 2) (v := fun _ => -1) (fun i hi => c2 i (by omega))]
  · unfold rlT
    rw [n33, t1]
    exact ⟨rfl, by decide, fun j hj => absurd hj (Nat.not_lt_zero j)⟩
  · unfold plR plN
    rw [n43, t2, t3]
    exact ⟨rfl, fun j hj => absurd hj (Nat.not_lt_zero j), rfl⟩
theorem sz_of {P C : Nat} (h1 : 1 ≤ P) (h2 : P ≤ 5) (h3 : 1 ≤ C) (h4 : C ≤ 8) (h : C ^ P ≤ 4096) : szOK P C := by
  refine ⟨h1, h2, h3, h4, ?_⟩
  by_cases q : P = 5
  · subst q
    by_cases z : C ≤ 6
    · omega
    · have := Nat.pow_le_pow_left (show 7 ≤ C by omega) 5
      omega
  · have := Nat.mul_le_mul (show P ≤ 4 by omega) h4
    omega
theorem C11_begin {k : Nat} {σ μ : St} (h : Rel k σ μ) (p c : Int32) : Mt YC mX11_begin 70 [.ref 0, .int p, .int c] σ (fun r τ => r = some (.int (sp_begin μ p c).1) ∧ Rel (k + 1) τ (sp_begin μ p c).2) := by
  refine Mt.ofA [some (.ref 0), some (.int p), some (.int c)] (by decide) (fun _ => Nat.le_of_ble_eq_true rfl) (fun _ => rfl) (fun g hc => ?_)
  refine st_iload_n hc dX11_begin_0 rfl rfl ?_
  refine st_iconst (v := 1) hc dX11_begin_1 (by decide) ?_
  refine st_icmp_lt (tgt := 21) hc dX11_begin_2 (by decide) (fun h2 => ?_) (fun h2 => ?_)
  · have e : sp_begin μ p c = (-1, t0 μ) := if_pos (Or.inl (fun q => absurd h2 (Int32.not_lt.mpr q.1)))
    refine st_iconst (v := (-1)) hc dX11_begin_21 (by decide) ?_
    refine st_iret (st := []) hc dX11_begin_22 rfl ?_
    rw [e]
    exact ⟨rfl, h.t⟩
  · have h2 := Int32.not_lt.mp h2
    refine st_iload_n hc dX11_begin_5 rfl rfl ?_
    refine st_iconst (v := 5) hc dX11_begin_6 (by decide) ?_
    refine st_icmp_gt (tgt := 21) hc dX11_begin_7 (by decide) (fun h7 => ?_) (fun h7 => ?_)
    · have e : sp_begin μ p c = (-1, t0 μ) := if_pos (Or.inl (fun q => absurd h7 (Int32.not_lt.mpr q.2)))
      refine st_iconst (v := (-1)) hc dX11_begin_21 (by decide) ?_
      refine st_iret (st := []) hc dX11_begin_22 rfl ?_
      rw [e]
      exact ⟨rfl, h.t⟩
    · have h7 := Int32.not_lt.mp h7
      refine st_iload_n hc dX11_begin_10 rfl rfl ?_
      refine st_iconst (v := 1) hc dX11_begin_11 (by decide) ?_
      refine st_icmp_lt (tgt := 21) hc dX11_begin_12 (by decide) (fun h12 => ?_) (fun h12 => ?_)
      · have e : sp_begin μ p c = (-1, t0 μ) := if_pos (Or.inr (fun q => absurd h12 (Int32.not_lt.mpr q.1)))
        refine st_iconst (v := (-1)) hc dX11_begin_21 (by decide) ?_
        refine st_iret (st := []) hc dX11_begin_22 rfl ?_
        rw [e]
        exact ⟨rfl, h.t⟩
      · have h12 := Int32.not_lt.mp h12
        refine st_iload_n hc dX11_begin_15 rfl rfl ?_
        refine st_bipush (v := 8) hc dX11_begin_16 (by decide) ?_
        refine st_icmp_le (tgt := 23) hc dX11_begin_18 (by decide) (fun h18 => ?_) (fun h18 => ?_)
        · have hex : ¬ (¬ (1 ≤ p ∧ p ≤ 5) ∨ ¬ (1 ≤ c ∧ c ≤ 8)) := fun q => by
            rcases q with q | q
            · exact q ⟨h2, h7⟩
            · exact q ⟨h12, h18⟩
          have p0 : 0 ≤ p := Int32.le_trans (by decide) h2
          have c0 : 0 ≤ c := Int32.le_trans (by decide) h12
          have ep : p = nI (nat p) := (nI_nat p0).symm
          have ec : c = nI (nat c) := (nI_nat c0).symm
          have hp1 : 1 ≤ nat p := (nI_leI (a := 1) (by decide) (nat_lt p)).mp (by rw [← ep]; exact h2)
          have hp5 : nat p ≤ 5 := (nI_leI (b := 5) (nat_lt p) (by decide)).mp (by rw [← ep]; exact h7)
          have hc1 : 1 ≤ nat c := (nI_leI (a := 1) (by decide) (nat_lt c)).mp (by rw [← ec]; exact h12)
          have hc8 : nat c ≤ 8 := (nI_leI (b := 8) (nat_lt c) (by decide)).mp (by rw [← ec]; exact h18)
          have hpow : nat c ^ nat p < 2 ^ 20 := Nat.lt_of_le_of_lt (Nat.pow_le_pow_left hc8 _) (Nat.lt_of_le_of_lt (Nat.pow_le_pow_right (by decide) hp5) (by decide))
          have hco := C0_codesOf 60 σ (P := nat p) (C := nat c) hp5 hc8
          rw [← ep, ← ec] at hco
          refine st_iload_n hc dX11_begin_23 rfl rfl ?_
          refine st_iload_n hc dX11_begin_24 rfl rfl ?_
          refine st_callSp hc dX11_begin_25 (hco) msX11_90 (by omega) rfl rfl (Nat.le_of_ble_eq_true rfl) ?_
          refine st_sipush (v := 4096) hc dX11_begin_28 (by decide) ?_
          refine st_icmp_le (tgt := 37) hc dX11_begin_31 (by decide) (fun h31 => ?_) (fun h31 => ?_)
          · have h31 : nat c ^ nat p ≤ 4096 := (nI_leI (b := 4096) (by omega) (by decide)).mp h31
            have e : sp_begin μ p c = (nI (nat c ^ nat p), bgn μ (nat p) (nat c) (nat c ^ nat p)) := (if_neg hex).trans (if_neg (by omega))
            have hz : szOK (nat p) (nat c) := sz_of hp1 hp5 hc1 hc8 h31
            have hst := C11_startAnew 60 σ hz h31
            rw [← ep, ← ec] at hst
            refine st_aload_n hc dX11_begin_37 rfl rfl ?_
            refine st_iload_n hc dX11_begin_38 rfl rfl ?_
            refine st_iload_n hc dX11_begin_39 rfl rfl ?_
            refine st_callVn hc dX11_begin_40 (hst) mvX11_86 (by omega) rfl rfl rfl (Nat.le_of_ble_eq_true rfl) ?_
            rintro τ1 hA
            have hRel := Rel.bg hz h31 hA h.1.2.2.2.2.2.1 h.1.2.2.2.2.2.2.1 h.1.2.2.2.2.2.2.2.2.2 h.1.1.2.2.2.1
            refine st_aload_n hc dX11_begin_43 rfl rfl ?_
            refine st_getr hc dX11_begin_44 flX11_12 rfl rfl ?_
            refine st_getE hc dX11_begin_47 flX11_94 rfl rfl ((hA.1.1.2.2.2.2 : _ = nI (nat c ^ nat p))) ?_
            refine st_iret (st := []) hc dX11_begin_50 rfl ?_
            rw [e]
            exact ⟨rfl, hRel⟩
          · have h31 : 4096 < nat c ^ nat p := Nat.lt_of_not_le (fun q => h31 (nI_le q (by decide)))
            have e : sp_begin μ p c = (-5, t0 μ) := (if_neg hex).trans (if_pos h31)
            refine st_bipush (v := (-5)) hc dX11_begin_34 (by decide) ?_
            refine st_iret (st := []) hc dX11_begin_36 rfl ?_
            rw [e]
            exact ⟨rfl, h.t⟩
        · have e : sp_begin μ p c = (-1, t0 μ) := if_pos (Or.inr (fun q => h18 q.2))
          refine st_iconst (v := (-1)) hc dX11_begin_21 (by decide) ?_
          refine st_iret (st := []) hc dX11_begin_22 rfl ?_
          rw [e]
          exact ⟨rfl, h.t⟩

