/-! ===== calls of the class: plans ===== -/
/-- the plans of both sides change -/
theorem Rel.pl {k : Nat} {σ τ μ ν : St} (h : Rel k σ μ) (e : ∀ a, ¬ (52 ≤ a ∧ a ≤ 60) → τ a = σ a) (f : ∀ a b, ¬ (a = 30 ∨ a = 31 ∨ a = 32) → ¬ (a = 0 ∧ (b = 43 ∨ b = 15)) → ν a b = μ a b) (hp : plOK ν) (hR : plR τ ν) : Rel (k + 1) τ ν := by
  obtain ⟨⟨⟨m1, m2, m3, m4, m5, m6⟩, hb, hP, hQ, hH, hS, hF, hT, -, hV⟩, hN⟩ := h
  have c : ∀ a, ¬ (a = 30 ∨ a = 31 ∨ a = 32) → ¬ a = 0 → ν a = μ a := fun a h1 h0 => funext (fun b => f a b h1 (fun q => h0 q.1))
  have z : ∀ i, ¬ (i = 43 ∨ i = 15) → ν 0 i = μ 0 i := fun i hi => f 0 i (by decide) (fun q => hi q.2)
  have hmu : muP μ ν := ⟨⟨z 0 (by decide), z 1 (by decide), z 2 (by decide)⟩, z 3 (by decide), z 4 (by decide), z 5 (by decide), z 7 (by decide), z 9 (by decide), c 1 (by decide) (by decide), c 3 (by decide) (by decide), c 4 (by decide) (by decide)⟩
  refine ⟨⟨⟨kMI m1 hmu.1 (z 5 (by decide)) (z 9 (by decide)) (c 1 (by decide) (by decide)), khO m2 hmu.1 (c 2 (by decide) (by decide)), kqO m3 (z 13 (by decide)), ksO m4 (c 35 (by decide) (by decide)), hp, knO m6 (z 33 (by decide))⟩, kB hb hmu.1 (e 1 (by decide)) (e 2 (by decide)) (e 3 (by decide)) (e 4 (by decide)), kP hP hmu (fun i _ _ => by rw [e 7 (by decide)]) (e 11 (by decide)) (e 12 (by decide)) (e 13 (by decide)) (e 14 (by decide)) (e 15 (by decide)) (e 16 (by decide)), kQ hQ (by rw [e 7 (by decide)]) (z 13 (by decide)) (c 5 (by decide) (by decide)), kH hH hmu.1 (e 17 (by decide)) (e 18 (by decide)) (c 2 (by decide) (by decide)), kS hS hmu (by rw [e 7 (by decide)]) (e 21 (by decide)), kF hF (fun a h1 h2 => e a (by omega)), kT hT (fun a h1 h2 => e a (by omega)) (z 33 (by decide)) (fun a h1 h2 => c a (by omega) (by omega)), hR, kV hV (fun a h1 h2 => e a (by omega)) (fun a h1 h2 => c a (by omega) (by omega))⟩, by rw [e 0 (by decide), z 14 (by decide)]; exact hN⟩
theorem C11_drop {k : Nat} {σ μ : St} (h : Rel k σ μ) : Mt YC mX11_drop 70 [.ref 0] σ (fun r τ => r = some (.int (sp_drop μ).1) ∧ Rel (k + 1) τ (sp_drop μ).2) := by
  refine Mt.ofA [some (.ref 0), none] (by decide) (fun _ => Nat.le_of_ble_eq_true rfl) (fun _ => rfl) (fun g hc => ?_)
  have hpn : plN (up (t0 μ) 0 43 0) = 0 := by unfold plN; simp [up_eq]
  refine st_aload_n hc dX11_drop_0 rfl rfl ?_
  refine st_getr hc dX11_drop_1 flX11_75 rfl rfl ?_
  refine st_getE hc dX11_drop_4 flX11_310 rfl rfl (h.1.2.2.2.2.2.2.2.2.1.1) ?_
  refine st_istore_n hc dX11_drop_7 rfl (by decide) rfl ?_
  refine st_aload_n hc dX11_drop_8 rfl rfl ?_
  refine st_getr hc dX11_drop_9 flX11_75 rfl rfl ?_
  refine st_callVn hc dX11_drop_12 (C4_empty 60 σ) mvX11_113 (by omega) rfl rfl rfl (Nat.le_of_ble_eq_true rfl) ?_
  rintro τ1 e1
  subst e1
  refine st_iload_n hc dX11_drop_15 rfl rfl ?_
  refine st_iret (st := []) hc dX11_drop_16 rfl ?_
  refine ⟨rfl, h.pl (fun a ha => by rw [up_o a (by omega), up_o a (by omega)]) (fun a b h1 h2 => ?_) ?_ ?_⟩
  · show up (up μ 0 15 0) 0 43 0 a b = μ a b
    rw [up_eq, if_neg (fun q => h2 ⟨q.1, Or.inl q.2⟩), up_eq, if_neg (fun q => h2 ⟨q.1, Or.inr q.2⟩)]
  · refine ⟨?_, ?_, fun n hn => ?_⟩
    · show 0 ≤ up (t0 μ) 0 43 0 0 43; simp [up_eq]
    · show plN (up (t0 μ) 0 43 0) ≤ 40; rw [hpn]; decide
    · have hn : n < plN (up (t0 μ) 0 43 0) := hn
      rw [hpn] at hn; omega
  · refine ⟨?_, fun n hn => ?_, ?_⟩
    · show up (up σ 52 8 0) 52 9 0 52 8 = up (t0 μ) 0 43 0 0 43; simp [up_eq]
    · have hn : n < plN (up (t0 μ) 0 43 0) := hn
      rw [hpn] at hn; omega
    · show up (up σ 52 8 0) 52 9 0 52 9 = nI (mxN (plN (up (t0 μ) 0 43 0)) _)
      rw [hpn]; simp [up_eq]; rfl
theorem C11_judge0 {k : Nat} {σ ν : St} (h : Rel k σ ν) : Mt YC mX11_judge 68 [.ref 0] σ (fun r τ => r = some (.int (judS ν)) ∧ Rel k τ ν ∧ (0 < judS ν → τ 52 10 = nI (totS ν))) := by
  obtain ⟨-, ⟨e1, e2, e3, e4⟩, -, -⟩ := h.f
  obtain ⟨p1, p2, p3, -⟩ := h.1.2.2.1
  obtain ⟨l1, l2, l3⟩ := id h.L
  have hR := h.1.2.2.2.2.2.2.2.2.1
  have hp := h.1.1.2.2.2.2.1
  have hm := h.1.1.1.1
  have h43 : ν 0 43 = nI (plN ν) := (nI_nat hp.1).symm
  have h40 := hp.2.1
  refine Mt.ofA [some (.ref 0), none] (by decide) (fun _ => Nat.le_of_ble_eq_true rfl) (fun _ => rfl) (fun g hc => ?_)
  have hneg1 : plN ν = 0 ∨ lm ν = 0 → judS ν = -1 := fun q => if_pos q
  refine st_aload_n hc dX11_judge_0 rfl rfl ?_
  refine st_getr hc dX11_judge_1 flX11_75 rfl rfl ?_
  refine st_getE hc dX11_judge_4 flX11_310 rfl rfl (hR.1) ?_
  refine st_if_eq (tgt := 20) hc dX11_judge_7 (by decide) (fun h7 => ?_) (fun h7 => ?_)
  · have hz : plN ν = 0 ∨ lm ν = 0 := Or.inl (nI_inj (b := 0) (by omega) (by decide) (h43.symm.trans h7))
    refine st_iconst (v := (-1)) hc dX11_judge_20 (by decide) ?_
    refine st_iret (st := []) hc dX11_judge_21 rfl ?_
    rw [hneg1 hz]
    exact ⟨rfl, h, fun q => absurd q (by decide)⟩
  · have h7 : ¬ plN ν = 0 := fun q => h7 (by rw [h43, q]; rfl)
    refine st_aload_n hc dX11_judge_10 rfl rfl ?_
    refine st_getr hc dX11_judge_11 flX11_21 rfl rfl ?_
    refine st_getE hc dX11_judge_14 flX11_182 rfl rfl (l1) ?_
    refine st_if_ne (tgt := 22) hc dX11_judge_17 (by decide) (fun h17 => ?_) (fun h17 => ?_)
    · have h17 : ¬ lm ν = 0 := fun q => h17 (by rw [q]; rfl)
      have hz : ¬ (plN ν = 0 ∨ lm ν = 0) := fun q => by rcases q with y | y; exact h7 y; exact h17 y
      refine st_aload_n hc dX11_judge_22 rfl rfl ?_
      refine st_getr hc dX11_judge_23 flX11_21 rfl rfl ?_
      refine st_getE hc dX11_judge_26 flX11_142 rfl rfl (p3) ?_
      refine st_if_eq (tgt := 35) hc dX11_judge_29 (by decide) (fun h29 => ?_) (fun h29 => ?_)
      · refine st_aload_n hc dX11_judge_35 rfl rfl ?_
        refine st_getr hc dX11_judge_36 flX11_75 rfl rfl ?_
        refine st_aload_n hc dX11_judge_39 rfl rfl ?_
        refine st_getr hc dX11_judge_40 flX11_21 rfl rfl ?_
        refine st_callVn hc dX11_judge_43 (C4_follow 55 σ ν h.1.2.1 hR hp e1 (by rw [← e1]; exact h.L)) mvX11_316 (by omega) rfl rfl rfl (Nat.le_of_ble_eq_true rfl) ?_
        rintro τ1 ⟨d1, d2, d3, d4, d5⟩
        have hR1 := hR.fl d1 d2 d3
        have hRel : Rel k τ1 ν := h.eqC (fun a ha h52 => d1 a (fun q => by rcases q with rfl | rfl | rfl; exact h52 rfl; exact absurd ha (by decide); exact absurd ha (by decide))) d2 d3
        have hcl := cnt_le (plN ν) (nw ν)
        refine st_aload_n hc dX11_judge_46 rfl rfl ?_
        refine st_getr hc dX11_judge_47 flX11_75 rfl rfl ?_
        refine st_callVp hc dX11_judge_50 (C4_firstNotWhole 60 τ1 ν hR1 hp (fun j hj => d5 j hj)) mvX11_319 (by omega) rfl rfl rfl (Nat.le_of_ble_eq_true rfl) ?_
        refine st_istore_n hc dX11_judge_53 rfl (by decide) rfl ?_
        refine st_iload_n hc dX11_judge_54 rfl rfl ?_
        refine st_iconst (v := (-1)) hc dX11_judge_55 (by decide) ?_
        refine st_icmp_ne (tgt := 69) hc dX11_judge_56 (by decide) (fun h56 => ?_) (fun h56 => ?_)
        · have hyes : 0 < cnt (plN ν) (nw ν) := by
            by_cases q : 0 < cnt (plN ν) (nw ν)
            · exact q
            · rw [if_neg q] at h56; exact absurd rfl h56
          have ej : judS ν = -20 - nI (nthT (plN ν) (nw ν) 0) := by unfold judS; rw [if_neg hz, if_neg (fun q => q h29), if_pos hyes]
          rw [if_pos hyes]
          refine st_bipush (v := (-20)) hc dX11_judge_69 (by decide) ?_
          refine st_iload_n hc dX11_judge_71 rfl rfl ?_
          refine st_isub hc dX11_judge_72 ?_
          refine st_iret (st := []) hc dX11_judge_73 rfl ?_
          refine ⟨by rw [ej], hRel, fun q => ?_⟩
          rw [d4, tot_eq hm hp q]
        · have hno : ¬ 0 < cnt (plN ν) (nw ν) := fun q => by
            rw [if_pos q] at h56
            have := (nthT_ok q).1
            exact absurd h56.symm (nI_neg1 (by omega))
          have ej : judS ν = nI (mxN (plN ν) (dpt ν 40)) := by unfold judS; rw [if_neg hz, if_neg (fun q => q h29), if_neg hno]
          refine st_aload_n hc dX11_judge_59 rfl rfl ?_
          refine st_getr hc dX11_judge_60 flX11_75 rfl rfl ?_
          refine st_getE hc dX11_judge_63 flX11_322 rfl rfl (hR1.2.2) ?_
          refine st_goto (tgt := 73) hc dX11_judge_66 (by decide) ?_
          refine st_iret (st := []) hc dX11_judge_73 rfl ?_
          refine ⟨by rw [ej], hRel, fun q => ?_⟩
          rw [d4, tot_eq hm hp q]
      · refine st_bipush (v := (-6)) hc dX11_judge_32 (by decide) ?_
        refine st_iret (st := []) hc dX11_judge_34 rfl ?_
        have ej : judS ν = -6 := by unfold judS; rw [if_neg hz, if_pos h29]
        rw [ej]
        exact ⟨rfl, h, fun q => absurd q (by decide)⟩
    · have hz : plN ν = 0 ∨ lm ν = 0 := Or.inr (nI_inj (b := 0) (by omega) (by decide) h17)
      refine st_iconst (v := (-1)) hc dX11_judge_20 (by decide) ?_
      refine st_iret (st := []) hc dX11_judge_21 rfl ?_
      rw [hneg1 hz]
      exact ⟨rfl, h, fun q => absurd q (by decide)⟩
theorem C11_total {k : Nat} {σ μ : St} (h : Rel k σ μ) : Mt YC mX11_total 70 [.ref 0] σ (fun r τ => r = some (.int (sp_total μ).1) ∧ Rel (k + 1) τ (sp_total μ).2) := by
  have h' := h.t
  have e2p : (sp_total μ).2 = t0 μ := rfl
  rw [e2p]
  refine Mt.ofA [some (.ref 0)] (by decide) (fun _ => Nat.le_of_ble_eq_true rfl) (fun _ => rfl) (fun g hc => ?_)
  unfold sp_total
  generalize t0 μ = ν at *
  refine st_aload_n hc dX11_total_0 rfl rfl ?_
  refine st_callVq hc dX11_total_1 (C11_judge0 h') mvX11_325 (by omega) rfl rfl rfl (Nat.le_of_ble_eq_true rfl) ?_
  rintro τ1 ⟨j1, j2⟩
  refine st_if_le (tgt := 17) hc dX11_total_4 (by decide) (fun h4 => ?_) (fun h4 => ?_)
  · have hno : ¬ 0 < judS ν := Int32.not_lt.mpr h4
    refine st_iconst (v := (-1)) hc dX11_total_17 (by decide) ?_
    refine st_iret (st := []) hc dX11_total_18 rfl ?_
    refine ⟨?_, j1⟩
    simp only
    first
     | (rw [if_pos hyes]; done)
     | (rw [if_neg hno]; done)
  · have hyes : 0 < judS ν := Int32.not_le.mp h4
    refine st_aload_n hc dX11_total_7 rfl rfl ?_
    refine st_getr hc dX11_total_8 flX11_75 rfl rfl ?_
    refine st_getE hc dX11_total_11 flX11_328 rfl rfl (j2 hyes) ?_
    refine st_goto (tgt := 18) hc dX11_total_14 (by decide) ?_
    refine st_iret (st := []) hc dX11_total_18 rfl ?_
    refine ⟨?_, j1⟩
    simp only
    first
     | (rw [if_pos hyes]; done)
     | (rw [if_neg hno]; done)
theorem dpt_fuel {μ : St} (hp : plOK μ) : ∀ f f' n, n < plN μ → n ≤ f → n ≤ f' → dpt μ f n = dpt μ f' n := by
  intro f
  induction f with
  | zero =>
    intro f' n _ h1 _
    have : n = 0 := by omega
    subst this
    cases f' <;> rfl
  | succ f ih =>
    intro f' n hn h1 h2
    by_cases e : n = 0
    · subst e; cases f' <;> rfl
    · cases f' with
      | zero => omega
      | succ f' =>
        show (if n = 0 then 1 else dpt μ f (pf μ n) + 1) = (if n = 0 then 1 else dpt μ f' (pf μ n) + 1)
        have hq := ((hp.2.2 n hn).2 (by omega)).1.2
        rw [if_neg e, if_neg e, ih f' (pf μ n) (by omega) (by omega) (by omega)]
theorem dpt_ext {μ ν : St} (hp : plOK μ) {N : Nat} (hN : N ≤ plN μ) (e : ∀ m, m < N → ν 30 m = μ 30 m) : ∀ f n, n < N → dpt ν f n = dpt μ f n := by
  intro f
  induction f with
  | zero => intro n _; rfl
  | succ f ih =>
    intro n hn
    show (if n = 0 then 1 else dpt ν f (pf ν n) + 1) = (if n = 0 then 1 else dpt μ f (pf μ n) + 1)
    by_cases e0 : n = 0
    · rw [if_pos e0, if_pos e0]
    · have hq := ((hp.2.2 n (by omega)).2 (by omega)).1.2
      rw [if_neg e0, if_neg e0, show pf ν n = pf μ n by unfold pf; rw [e n hn], ih (pf μ n) (by omega)]
abbrev plS (μ : St) (p a c : Int32) : St := up (up (up (up (t0 μ) 30 (plN μ) p) 31 (plN μ) a) 32 (plN μ) c) 0 43 (μ 0 43 + 1)
theorem plS_n {μ : St} {p a c : Int32} (hp : plOK μ) (h40 : plN μ < 40) : plN (plS μ p a c) = plN μ + 1 ∧ plS μ p a c 0 43 = nI (plN μ + 1) := by
  have e : plS μ p a c 0 43 = nI (plN μ + 1) := by
    show up _ 0 43 (μ 0 43 + 1) 0 43 = _
    rw [up_eq, if_pos ⟨rfl, rfl⟩, ← nI_1, nI_nat hp.1]
  exact ⟨by unfold plN; rw [e, nat_nI (by omega)], e⟩
theorem plS_c {μ : St} {p a c : Int32} (m : Nat) : (¬ m = plN μ → plS μ p a c 30 m = μ 30 m ∧ plS μ p a c 31 m = μ 31 m ∧ plS μ p a c 32 m = μ 32 m) ∧ plS μ p a c 30 (plN μ) = p ∧ plS μ p a c 31 (plN μ) = a ∧ plS μ p a c 32 (plN μ) = c := by
  refine ⟨fun h => ?_, by simp [up_eq], by simp [up_eq], by simp [up_eq]⟩
  simp [up_eq, h]
theorem plS_f {μ : St} {p a c : Int32} : ∀ x b, ¬ (x = 30 ∨ x = 31 ∨ x = 32) → ¬ (x = 0 ∧ (b = 43 ∨ b = 15)) → plS μ p a c x b = μ x b := fun x b h1 h2 => by
  show up (up (up (up (up μ 0 15 0) 30 (plN μ) p) 31 (plN μ) a) 32 (plN μ) c) 0 43 (μ 0 43 + 1) x b = μ x b
  rw [up_eq, if_neg (fun q => h2 ⟨q.1, Or.inl q.2⟩), up_eq, if_neg (fun q => by omega), up_eq, if_neg (fun q => by omega), up_eq, if_neg (fun q => by omega), up_eq, if_neg (fun q => h2 ⟨q.1, Or.inr q.2⟩)]
theorem plS_ok {μ : St} {p a c : Int32} (hp : plOK μ) (h40 : plN μ < 40) (hc : 0 ≤ c ∧ nat c < nN μ) (hpa : 0 < plN μ → (0 ≤ p ∧ nat p < plN μ) ∧ (0 ≤ a ∧ nat a / 10 + nat a % 10 ≤ pN μ)) : plOK (plS μ p a c) := by
  obtain ⟨n1, n2⟩ := plS_n (p := p) (a := a) (c := c) hp h40
  have hnN : nN (plS μ p a c) = nN μ := by unfold nN; rw [plS_f 0 2 (by decide) (by decide)]
  have hpN : pN (plS μ p a c) = pN μ := by unfold pN; rw [plS_f 0 0 (by decide) (by decide)]
  refine ⟨by rw [n2]; exact Int32.not_lt.mp (nI_pos (by omega)), by rw [n1]; omega, fun m hm => ?_⟩
  rw [n1] at hm
  rw [hnN, hpN]
  unfold pg pf
  obtain ⟨c1, c2, c3, c4⟩ := plS_c (μ := μ) (p := p) (a := a) (c := c) m
  by_cases e : m = plN μ
  · subst e
    rw [c2, c3, c4]
    exact ⟨hc, hpa⟩
  · obtain ⟨d1, d2, d3⟩ := c1 e
    rw [d1, d2, d3]
    exact hp.2.2 m (by omega)
theorem chN_S {μ : St} {q x : Nat} {c : Int32} (hp : plOK μ) (h40 : plN μ < 40) (hq : q < plN μ) (hx : x < 60) (j a : Nat) (ha : a < 60) (hj : j ≤ plN μ) : chN (plS μ (nI q) (nI x) c) j a = if j = plN μ then 0 else chN μ j a + (if j = q ∧ a = x then 1 else 0) := by
  obtain ⟨n1, n2⟩ := plS_n (p := nI q) (a := nI x) (c := c) hp h40
  unfold chN
  rw [n1]
  show cnt (plN μ) (chP (plS μ (nI q) (nI x) c) j a) + (if chP (plS μ (nI q) (nI x) c) j a (plN μ) = true then 1 else 0) = _
  have hold : ∀ m, m < plN μ → chP (plS μ (nI q) (nI x) c) j a m = chP μ j a m := fun m hm => by
    obtain ⟨d1, d2, d3⟩ := (plS_c (μ := μ) (p := nI q) (a := nI x) (c := c) m).1 (by omega)
    unfold chP
    rw [d1, d2]
  have hnew : chP (plS μ (nI q) (nI x) c) j a (plN μ) = true ↔ (j = q ∧ a = x) := by
    rw [chP_iff, (plS_c (μ := μ) (p := nI q) (a := nI x) (c := c) 0).2.1, (plS_c (μ := μ) (p := nI q) (a := nI x) (c := c) 0).2.2.1]
    constructor
    · rintro ⟨-, h2, h3⟩; exact ⟨(nI_inj (by omega) (by omega) h2).symm, (nI_inj (by omega) (by omega) h3).symm⟩
    · rintro ⟨h2, h3⟩; exact ⟨by omega, by rw [h2], by rw [h3]⟩
  rw [cnt_congr hold]
  by_cases e : j = plN μ
  · rw [if_pos e]
    have h0 : cnt (plN μ) (chP μ j a) = 0 := cnt_zero (fun m hm => by
      rcases hz : chP μ j a m with _ | _
      · rfl
      · obtain ⟨z1, z2, z3⟩ := chP_iff.mp hz
        obtain ⟨⟨y1, y2⟩, -⟩ := (hp.2.2 m hm).2 z1
        have : μ 30 m = nI (pf μ m) := (nI_nat y1).symm
        rw [this] at z2
        have := nI_inj (by omega) (by omega) z2
        omega)
    rw [h0, if_neg (fun z => by have := (hnew.mp z).1; omega)]
  · rw [if_neg e]
    by_cases z : j = q ∧ a = x
    · rw [if_pos z, if_pos (hnew.mpr z)]
    · rw [if_neg z, if_neg (fun y => z (hnew.mp y))]
theorem mx_max (n : Nat) (f : Nat → Nat) : mxN (n + 1) f = max (mxN n f) (f n) := by
  show (if mxN n f < f n then f n else mxN n f) = _
  by_cases h : mxN n f < f n
  · rw [if_pos h, Nat.max_eq_right (by omega)]
  · rw [if_neg h, Nat.max_eq_left (by omega)]
theorem mxN_c {f h : Nat → Nat} : ∀ n, (∀ i, i < n → f i = h i) → mxN n f = mxN n h := by
  intro n
  induction n with
  | zero => intro _; rfl
  | succ n ih => intro e; rw [mx_max, mx_max, ih (fun i hi => e i (by omega)), e n (by omega)]
theorem told60 {x P : Nat} (h : x / 10 + x % 10 ≤ P) (hP : P ≤ 5) : x ≤ 50 := by omega
abbrev adH (σ μ : St) (p a c : Int32) (τ1 : St) : Prop := (plN μ = 0 ∧ p = -1 ∧ adP σ 0 (-1) a c τ1 ∧ τ1 56 0 = 1 ∧ lg τ1 57 0 = 0 ∧ τ1 58 0 = 0 ∧ τ1 52 9 = 1) ∨ (0 < plN μ ∧ ∃ q x, p = nI q ∧ a = nI x ∧ q < plN μ ∧ x ≤ 50 ∧ 0 ≤ p ∧ 0 ≤ a ∧ nat a / 10 + nat a % 10 ≤ pN μ ∧ adP σ (plN μ) (nI q) (nI x) c τ1 ∧ τ1 56 (plN μ) = nI (dpt μ 40 q + 1) ∧ (∀ k, lg τ1 57 k = if k = q then lN (plm μ q ||| 2 ^ x) else if k = plN μ then 0 else lg σ 57 k) ∧ (∀ k, τ1 58 k = if k = q ∧ (plm μ q).testBit x = true then 1 else if k = plN μ then 0 else σ 58 k) ∧ τ1 52 9 = nI (max (mxN (plN μ) (dpt μ 40)) (dpt μ 40 q + 1)))
theorem Mt_mono {Y : List Sh} {md : Md} {d : Nat} {av : List Value} {σ : St} {P Q : Option Value → St → Prop} (h : ∀ r τ, P r τ → Q r τ) (hM : Mt Y md d av σ P) : Mt Y md d av σ Q := by
  intro l D dA ad p e h1 h2 h3 s m args below h4 h5 h6 h7
  obtain ⟨n, o, a1, a2, a3, ⟨⟨r, τ, b1, b2, b3⟩, b4⟩, L, b5⟩ := hM l D dA ad p e h1 h2 h3 s m args below h4 h5 h6 h7
  exact ⟨n, o, a1, a2, a3, ⟨⟨r, τ, b1, h r τ b2, b3⟩, b4⟩, L, b5⟩
theorem C4_addP {k : Nat} {σ μ : St} (h : Rel k σ μ) (hp : plOK μ) (h40 : plN μ < 40) {p a : Int32} (hb : goodB μ p a = true) (c : Int32) : Mt YC mX4_add 61 [.ref 52, .int p, .int a, .int c] σ (fun r τ => r = none ∧ adH σ μ p a c τ) := by
  obtain ⟨⟨f1, f2, f3, f4⟩, -⟩ := h.f
  have hR := h.1.2.2.2.2.2.2.2.2.1
  have h43 : μ 0 43 = nI (plN μ) := (nI_nat hp.1).symm
  intro l D dA ad
  by_cases h0 : plN μ = 0
  · have hpm : p = -1 := by
      unfold goodB at hb
      rw [if_pos (by rw [h43, h0]; rfl)] at hb
      exact of_decide_eq_true hb
    subst hpm
    have hM := C4_add0 60 σ (by rw [hR.1, h43, h0]) (by rw [hR.2.2, h0]; rfl) a c
    exact Mt_mono (fun r τ hq => ⟨hq.1, Or.inl ⟨h0, rfl, hq.2⟩⟩) hM l D dA ad
  · have hgd : (0 ≤ p ∧ nat p < plN μ) ∧ (0 ≤ a ∧ nat a / 10 + nat a % 10 ≤ pN μ) := by
      unfold goodB at hb
      rw [if_neg (fun z => by rw [h43] at z; have := nI_inj (b := 0) (by omega) (by decide) z; omega)] at hb
      exact of_decide_eq_true hb
    have ha50 := told60 hgd.2.2 f2
    have hdl : ∀ f n, dpt μ f n ≤ f + 1 := dpt_le μ
    have hM := C4_add1 60 σ (n := plN μ) (q := nat p) (x := nat a) (m := plm μ (nat p)) (dq := dpt μ 40 (nat p)) (dd := mxN (plN μ) (dpt μ 40)) h40 hgd.1.2 (by omega) (hR.1.trans h43) hR.2.2 (mxN_le (fun i _ => hdl 40 i)) (hR.2.1 (nat p) hgd.1.2).2.2.2.2.1 (fbits_lt 60 _) (hR.2.1 (nat p) hgd.1.2).2.2.2.1 (hdl 40 _) c
    rw [nI_nat hgd.1.1, nI_nat hgd.2.1] at hM
    refine Mt_mono (fun r τ hq => ⟨hq.1, Or.inr ⟨by omega, nat p, nat a, (nI_nat hgd.1.1).symm, (nI_nat hgd.2.1).symm, hgd.1.2, ha50, hgd.1.1, hgd.2.1, hgd.2.2, ?_, hq.2.2⟩⟩) hM l D dA ad
    rw [nI_nat hgd.1.1, nI_nat hgd.2.1]
    exact hq.2.1
theorem P_add {k : Nat} {σ μ τ1 : St} {p a c : Int32} (h : Rel k σ μ) (hp : plOK μ) (h64 : plN μ < 40) (hcc : 0 ≤ c ∧ nat c < nN μ) (hR : plR σ μ) (hh : adH σ μ p a c τ1) : Rel (k + 1) τ1 (plS μ p a c) ∧ τ1 52 8 = nI (plN μ + 1) := by
  obtain ⟨n1, n2⟩ := plS_n (p := p) (a := a) (c := c) hp h64
  rcases hh with ⟨h0, rfl, ⟨b1, b2, b3, b4, b5, b6⟩, b7, b8, b9, b10⟩ | ⟨h0, q, x, rfl, rfl, hq, hx, hp0, ha0, hat, ⟨b1, b2, b3, b4, b5, b6⟩, b7, b8, b9, b10⟩
  · refine ⟨h.pl b1 plS_f (plS_ok hp h64 hcc (fun z => by omega)) ⟨?_, fun m hm => ?_, ?_⟩, by rw [b2, h0]⟩
    · rw [b2, n2, h0]
    · rw [n1, h0] at hm
      have hm0 : m = 0 := by omega
      subst hm0
      obtain ⟨-, c2, c3, c4⟩ := plS_c (μ := μ) (p := -1) (a := a) (c := c) 0
      rw [h0] at c2 c3 c4
      have hch : ∀ x, chN (plS μ (-1) a c) 0 x = 0 := fun x => by unfold chN; rw [n1, h0]; rfl
      refine ⟨by rw [b4, c2], by rw [b5, c3], by rw [b6, c4], by rw [b7]; rfl, ?_, ?_⟩
      · rw [b8]
        have : plm (plS μ (-1) a c) 0 = 0 := by
          apply Nat.eq_of_testBit_eq
          intro i
          rw [fbits_bit, hch]
          simp
        rw [this]; rfl
      · rw [b9]
        have : plt (plS μ (-1) a c) 0 = false := by
          rcases hz : plt (plS μ (-1) a c) 0 with _ | _
          · rfl
          · obtain ⟨i, hi, z⟩ := (anyN_iff _ _).mp hz
            rw [hch] at z
            exact absurd z (by decide)
        rw [this]; rfl
    · rw [b10, n1, h0]; rfl
  · have hch := fun j a' ha' hj => chN_S (c := c) hp h64 hq (show x < 60 by omega) j a' ha' hj
    have hd : ∀ j, j < plN μ → dpt (plS μ (nI q) (nI x) c) 40 j = dpt μ 40 j := fun j hj => dpt_ext hp (Nat.le_refl _) (fun m hm => ((plS_c (μ := μ) (p := nI q) (a := nI x) (c := c) m).1 (by omega)).1) 40 j hj
    have hdn : dpt (plS μ (nI q) (nI x) c) 40 (plN μ) = dpt μ 40 q + 1 := by
      show (if plN μ = 0 then 1 else dpt (plS μ (nI q) (nI x) c) 39 (pf (plS μ (nI q) (nI x) c) (plN μ)) + 1) = _
      have : pf (plS μ (nI q) (nI x) c) (plN μ) = q := by unfold pf; rw [(plS_c (μ := μ) (p := nI q) (a := nI x) (c := c) 0).2.1, nat_nI (by omega)]
      rw [if_neg (by omega), this, dpt_ext hp (Nat.le_refl _) (fun m hm => ((plS_c (μ := μ) (p := nI q) (a := nI x) (c := c) m).1 (by omega)).1) 39 q hq, dpt_fuel hp 39 40 q hq (by omega) (by omega)]
    have hna : nat (nI x) = x := nat_nI (by omega)
    have hnq : nat (nI q) = q := nat_nI (by omega)
    refine ⟨h.pl b1 plS_f (plS_ok hp h64 hcc (fun _ => ⟨⟨hp0, by rw [hnq]; exact hq⟩, ha0, hat⟩)) ⟨?_, fun m hm => ?_, ?_⟩, b2⟩
    · rw [b2, n2]
    · rw [n1] at hm
      obtain ⟨c1, c2, c3, c4⟩ := plS_c (μ := μ) (p := nI q) (a := nI x) (c := c) m
      have hmask : plm (plS μ (nI q) (nI x) c) m = if m = q then plm μ q ||| 2 ^ x else if m = plN μ then 0 else plm μ m := by
        apply Nat.eq_of_testBit_eq
        intro i
        rw [fbits_bit]
        by_cases hi : i < 60
        · rw [hch m i hi (by omega)]
          by_cases e1 : m = q
          · subst e1
            rw [if_pos rfl, if_neg (by omega), Nat.testBit_or, fbits_bit, Nat.testBit_two_pow]
            by_cases e2 : i = x
            · subst e2; simp [hi]
            · have e3 : ¬ x = i := fun z => e2 z.symm
              simp [hi, e2, e3]
          · rw [if_neg e1]
            by_cases e2 : m = plN μ
            · rw [if_pos e2, if_pos e2]; simp
            · rw [if_neg e2, if_neg e2, fbits_bit]; simp [hi, e1]
        · rw [decide_eq_false hi, Bool.false_and]
          have : ∀ y, y < 2 ^ 60 → y.testBit i = false := fun y hy => Nat.testBit_lt_two_pow (Nat.lt_of_lt_of_le hy (Nat.pow_le_pow_right (by decide) (by omega)))
          rw [this _ (by
            split
            · exact Nat.or_lt_two_pow (fbits_lt 60 _) (Nat.pow_lt_pow_right (by decide) (by omega))
            · split
              · exact Nat.pow_pos (by decide)
              · exact fbits_lt 60 _)]
      have htw : plt (plS μ (nI q) (nI x) c) m = if m = q ∧ (plm μ q).testBit x = true then true else if m = plN μ then false else plt μ m := by
        have hbit : (plm μ q).testBit x = decide (0 < chN μ q x) := by rw [fbits_bit]; simp; omega
        by_cases e1 : m = q ∧ (plm μ q).testBit x = true
        · rw [if_pos e1]
          refine (anyN_iff _ _).mpr ⟨x, by omega, ?_⟩
          rw [hch m x (by omega) (by omega), if_neg (by omega), if_pos ⟨e1.1, rfl⟩, e1.1]
          rw [hbit] at e1
          have := of_decide_eq_true e1.2
          exact decide_eq_true (by omega)
        · rw [if_neg e1]
          by_cases e2 : m = plN μ
          · rw [if_pos e2]
            rcases hz : plt (plS μ (nI q) (nI x) c) m with _ | _
            · rfl
            · obtain ⟨i, hi, z⟩ := (anyN_iff _ _).mp hz
              rw [hch m i hi (by omega), if_pos e2] at z
              exact absurd z (by decide)
          · rw [if_neg e2]
            refine any_c (fun i hi => ?_)
            rw [hch m i hi (by omega), if_neg e2]
            apply decide_eq_decide.mpr
            by_cases e3 : m = q ∧ i = x
            · rw [if_pos e3]
              have hz : ¬ 0 < chN μ q x := fun y => e1 ⟨e3.1, by rw [hbit]; exact decide_eq_true y⟩
              rw [e3.1, e3.2]
              omega
            · rw [if_neg e3, Nat.add_zero]
      by_cases e : m = plN μ
      · subst e
        refine ⟨by rw [b4, c2], by rw [b5, c3], by rw [b6, c4], by rw [b7, hdn], ?_, ?_⟩
        · rw [b8, hmask, if_neg (by omega), if_pos rfl, if_neg (by omega), if_pos rfl]; rfl
        · rw [b9, htw, if_neg (by omega), if_pos rfl, if_neg (by omega), if_pos rfl]; rfl
      · obtain ⟨r1, r2, r3, r4, r5, r6⟩ := hR.2.1 m (by omega)
        obtain ⟨d1, d2, d3, d4⟩ := b3 m e
        obtain ⟨k1, k2, k3⟩ := c1 e
        refine ⟨by rw [d1, k1, r1], by rw [d2, k2, r2], by rw [d3, k3, r3], by rw [d4, hd m (by omega), r4], ?_, ?_⟩
        · rw [b8, hmask]
          by_cases e1 : m = q
          · rw [if_pos e1, if_pos e1]
          · rw [if_neg e1, if_neg e1, if_neg e, if_neg e, r5]
        · rw [b9, htw]
          by_cases e1 : m = q ∧ (plm μ q).testBit x = true
          · rw [if_pos e1, if_pos e1]; rfl
          · rw [if_neg e1, if_neg e1, if_neg e, if_neg e, r6]
    · rw [b10, n1, mx_max, hdn, mxN_c _ hd]
theorem C11_plan {k : Nat} {σ μ : St} (h : Rel k σ μ) (p a c : Int32) : Mt YC mX11_plan 70 [.ref 0, .int p, .int a, .int c] σ (fun r τ => r = some (.int (sp_plan μ p a c).1) ∧ Rel (k + 1) τ (sp_plan μ p a c).2) := by
  obtain ⟨⟨f1, f2, f3, f4⟩, ⟨e1, e2, e3, e4⟩, ⟨g1, g2, g3⟩, -⟩ := h.f
  have hR := h.1.2.2.2.2.2.2.2.2.1
  have hp := h.1.1.2.2.2.2.1
  have h43 : μ 0 43 = nI (plN μ) := (nI_nat hp.1).symm
  have h40 := hp.2.1
  have hRt := h.t
  refine Mt.ofA [some (.ref 0), some (.int p), some (.int a), some (.int c)] (by decide) (fun _ => Nat.le_of_ble_eq_true rfl) (fun _ => rfl) (fun g hc => ?_)
  have kbad : goodB μ p a = false → aW g YC 4 (fun r τ => r = some (.int (sp_plan μ p a c).1) ∧ Rel (k + 1) τ (sp_plan μ p a c).2) 40 [some (.ref 0), some (.int p), some (.int a), some (.int c)] [] σ := by
    intro hb
    have e : sp_plan μ p a c = (-1, t0 μ) := if_pos (Or.inl hb)
    refine st_iconst (v := (-1)) hc dX11_plan_40 (by decide) ?_
    refine st_iret (st := []) hc dX11_plan_41 rfl ?_
    rw [e]
    exact ⟨rfl, hRt⟩
  have k42 : goodB μ p a = true → aW g YC 4 (fun r τ => r = some (.int (sp_plan μ p a c).1) ∧ Rel (k + 1) τ (sp_plan μ p a c).2) 42 [some (.ref 0), some (.int p), some (.int a), some (.int c)] [] σ := by
    intro hb
    refine st_aload_n hc dX11_plan_42 rfl rfl ?_
    refine st_getr hc dX11_plan_43 flX11_12 rfl rfl ?_
    refine st_iload_n hc dX11_plan_46 rfl rfl ?_
    refine st_callVp hc dX11_plan_47 (C0_has 60 σ g3 e2 c) mvX11_128 (by omega) rfl rfl rfl (Nat.le_of_ble_eq_true rfl) ?_
    refine st_if_ne (tgt := 55) hc dX11_plan_50 (by decide) (fun h50 => ?_) (fun h50 => ?_)
    · have hcc := of_decide_eq_true (bI_t h50)
      have hgo : ¬ (goodB μ p a = false ∨ ¬ (0 ≤ c ∧ nat c < nN μ)) := fun q => by
        rcases q with z | z
        · rw [hb] at z; exact absurd z (by decide)
        · exact z hcc
      refine st_aload_n hc dX11_plan_55 rfl rfl ?_
      refine st_getr hc dX11_plan_56 flX11_75 rfl rfl ?_
      refine st_getE hc dX11_plan_59 flX11_310 rfl rfl ((hR.1.trans h43)) ?_
      refine st_bipush (v := 40) hc dX11_plan_62 (by decide) ?_
      refine st_icmp_lt (tgt := 70) hc dX11_plan_64 (by decide) (fun h64 => ?_) (fun h64 => ?_)
      · have h64 : plN μ < 40 := (nI_ltI (b := 40) (by omega) (by decide)).mp h64
        have e : sp_plan μ p a c = (μ 0 43, plS μ p a c) := (if_neg hgo).trans (if_neg (fun q => by rw [h43] at q; have := nI_inj (b := 40) (by omega) (by decide) q; omega))
        rw [e]
        obtain ⟨n1, n2⟩ := plS_n (p := p) (a := a) (c := c) hp h64
        have hadd : ∀ τ1, adH σ μ p a c τ1 → Rel (k + 1) τ1 (plS μ p a c) ∧ τ1 52 8 = nI (plN μ + 1) := fun τ1 hh => P_add h hp h64 hcc hR hh
        refine st_aload_n hc dX11_plan_70 rfl rfl ?_
        refine st_getr hc dX11_plan_71 flX11_75 rfl rfl ?_
        refine st_iload_n hc dX11_plan_74 rfl rfl ?_
        refine st_iload_n hc dX11_plan_75 rfl rfl ?_
        refine st_iload_n hc dX11_plan_76 rfl rfl ?_
        refine st_callV hc dX11_plan_77 (C4_addP h hp h64 hb c) mvX11_312 (by omega) rfl rfl rfl (Nat.le_of_ble_eq_true rfl) ?_
        rintro r τ1 ⟨er, hh⟩
        subst er
        show aW g YC 4 _ _ _ [] τ1
        obtain ⟨w1, w2⟩ := hadd τ1 hh
        refine st_aload_n hc dX11_plan_80 rfl rfl ?_
        refine st_getr hc dX11_plan_81 flX11_75 rfl rfl ?_
        refine st_getE hc dX11_plan_84 flX11_310 rfl rfl (w2) ?_
        refine st_iconst (v := 1) hc dX11_plan_87 (by decide) ?_
        refine st_isub hc dX11_plan_88 ?_
        rw [show (1 : Int32) = nI 1 from rfl, nI_sub (by omega), Nat.add_sub_cancel, ← h43]
        refine st_iret (st := []) hc dX11_plan_89 rfl ?_
        exact ⟨rfl, w1⟩
      · have h64 : μ 0 43 = 40 := by
          have : plN μ = 40 := by
            rcases Nat.lt_or_ge (plN μ) 40 with z | z
            · exact absurd ((nI_ltI (b := 40) (by omega) (by decide)).mpr z) h64
            · omega
          rw [h43, this]; rfl
        have e : sp_plan μ p a c = (-2, t0 μ) := (if_neg hgo).trans (if_pos h64)
        refine st_bipush (v := (-2)) hc dX11_plan_67 (by decide) ?_
        refine st_iret (st := []) hc dX11_plan_69 rfl ?_
        rw [e]
        exact ⟨rfl, hRt⟩
    · have e : sp_plan μ p a c = (-1, t0 μ) := if_pos (Or.inr (of_decide_eq_false (bI_0.mp h50)))
      refine st_iconst (v := (-1)) hc dX11_plan_53 (by decide) ?_
      refine st_iret (st := []) hc dX11_plan_54 rfl ?_
      rw [e]
      exact ⟨rfl, hRt⟩
  have hg0 : plN μ = 0 → goodB μ p a = decide (p = -1) := fun q => by unfold goodB; rw [if_pos (by rw [h43, q]; rfl)]
  have hg1 : ¬ plN μ = 0 → goodB μ p a = decide ((0 ≤ p ∧ nat p < plN μ) ∧ (0 ≤ a ∧ nat a / 10 + nat a % 10 ≤ pN μ)) := fun q => by unfold goodB; rw [if_neg (fun z => by rw [h43] at z; have := nI_inj (b := 0) (by omega) (by decide) z; omega)]
  refine st_aload_n hc dX11_plan_0 rfl rfl ?_
  refine st_getr hc dX11_plan_1 flX11_75 rfl rfl ?_
  refine st_getE hc dX11_plan_4 flX11_310 rfl rfl ((hR.1.trans h43)) ?_
  refine st_if_ne (tgt := 18) hc dX11_plan_7 (by decide) (fun h7 => ?_) (fun h7 => ?_)
  · have h7 : ¬ plN μ = 0 := fun q => h7 (by rw [q]; rfl)
    refine st_aload_n hc dX11_plan_18 rfl rfl ?_
    refine st_getr hc dX11_plan_19 flX11_75 rfl rfl ?_
    refine st_iload_n hc dX11_plan_22 rfl rfl ?_
    refine st_callVp hc dX11_plan_23 (C4_has 60 σ (hR.1.trans h43) (by omega) p) mvX11_311 (by omega) rfl rfl rfl (Nat.le_of_ble_eq_true rfl) ?_
    refine st_if_eq (tgt := 40) hc dX11_plan_26 (by decide) (fun h26 => ?_) (fun h26 => ?_)
    · have hgd : goodB μ p a = false := (hg1 h7).trans (decide_eq_false (fun q => of_decide_eq_false (bI_0.mp h26) q.1))
      exact kbad hgd
    · have h26 := of_decide_eq_true (bI_t h26)
      refine st_aload_n hc dX11_plan_29 rfl rfl ?_
      refine st_getr hc dX11_plan_30 flX11_12 rfl rfl ?_
      refine st_iload_n hc dX11_plan_33 rfl rfl ?_
      refine st_callVp hc dX11_plan_34 (C0_canBeTold 60 σ g1 f2 a) mvX11_205 (by omega) rfl rfl rfl (Nat.le_of_ble_eq_true rfl) ?_
      refine st_if_ne (tgt := 42) hc dX11_plan_37 (by decide) (fun h37 => ?_) (fun h37 => ?_)
      · have hgd : goodB μ p a = true := (hg1 h7).trans (decide_eq_true ⟨h26, of_decide_eq_true (bI_t h37)⟩)
        exact k42 hgd
      · have hgd : goodB μ p a = false := (hg1 h7).trans (decide_eq_false (fun q => of_decide_eq_false (bI_0.mp h37) q.2))
        exact kbad hgd
  · have h7 : plN μ = 0 := nI_inj (b := 0) (by omega) (by decide) h7
    refine st_iload_n hc dX11_plan_10 rfl rfl ?_
    refine st_iconst (v := (-1)) hc dX11_plan_11 (by decide) ?_
    refine st_icmp_eq (tgt := 42) hc dX11_plan_12 (by decide) (fun h12 => ?_) (fun h12 => ?_)
    · have hgd : goodB μ p a = true := (hg0 h7).trans (decide_eq_true h12)
      exact k42 hgd
    · have hgd : goodB μ p a = false := (hg0 h7).trans (decide_eq_false h12)
      refine st_goto (tgt := 40) hc dX11_plan_15 (by decide) ?_
      exact kbad hgd

