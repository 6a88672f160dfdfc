/-! ===== calls of the class: trees, asked ===== -/
theorem Rel.fo {k : Nat} {σ τ ν : St} (h : Rel k σ ν) {p : Int32} {E : Ent} (e : ∀ a, ¬ (poB p ≤ a ∧ a ≤ poB p + 9) → τ a = σ a) (hS : frS τ (poB p) (poR p) (pN ν) (cN ν) (lm ν) (lth ν) (poA p) E) (h4 : τ (poB p) 4 = nI (pN ν)) (h5 : τ (poB p) 5 = nI (cN ν)) : Rel k τ ν := by
  obtain ⟨⟨f1, f2, f3, f4⟩, -⟩ := h.f
  have hb : 26 ≤ poB p ∧ poB p ≤ 36 := ⟨(poY p).2.2.2.2.2.2.2.2.2.2.2.2.1, (poY p).2.2.2.2.2.2.2.2.2.2.2.2.2⟩
  have hD := hS.2.1.2.1
  have hV : frV τ (poB p) (poR p) (poA p) := ⟨by have := hD.1; rw [show tpo (tdC (pN ν) (cN ν) (lm ν) (lth ν) (poA p)) = !poA p from rfl, Bool.not_not] at this; exact this, ⟨lm ν, hD.2.1, hS.2.1.1.1.1⟩, Or.inr ⟨pN ν, cN ν, lm ν, lth ν, E, h4, f2, h5, f4, hS.2.1, hS.2.2⟩⟩
  refine h.mk1 (fun a ha => e a (by omega)) (h.1.2.2.2.2.2.1.eq (e 7 (by omega)) (e 21 (by omega))) ?_ (kT h.1.2.2.2.2.2.2.2.1 (fun a h1 h2 => e a (by omega)) rfl (fun _ _ _ => rfl))
  have hF := h.1.2.2.2.2.2.2.1
  by_cases q : p = 0
  · have eb : poB p = 26 := if_pos q
    have eR : poR p = 1296 := if_pos q
    have eA : poA p = true := decide_eq_true q
    rw [eb, eR, eA] at hV
    rw [eb] at e
    exact ⟨hV, hF.2.eq (fun a h1 h2 => e a (by omega))⟩
  · have eb : poB p = 36 := if_neg q
    have eR : poR p = 10 := if_neg q
    have eA : poA p = false := decide_eq_false q
    rw [eb, eR, eA] at hV
    rw [eb] at e
    exact ⟨hF.1.eq (fun a h1 h2 => e a (by omega)), hV⟩
theorem fm_fo {σ τ υ : St} {b R P C n : Nat} {L : Nat → Nat} {any : Bool} {E : Ent} (hb : 26 ≤ b) (e : ∀ a, ¬ (b ≤ a ∧ a ≤ b + 9) → τ a = σ a) (hS : frS τ b R P C n L any E) (f : fmI τ b (tdC P C n L any) E υ) : (∀ a, ¬ (b ≤ a ∧ a ≤ b + 9) → υ a = σ a) ∧ frS υ b R P C n L any E ∧ υ b 4 = τ b 4 ∧ υ b 5 = τ b 5 := ⟨fun a ha => (f.1 a (by omega)).trans (e a ha), frS.of hb hS f, by rw [f.1 b (by omega)], by rw [f.1 b (by omega)]⟩
theorem md_K {k : Nat} {σ ν : St} (h : Rel k σ ν) {p : Int32} (hp : 0 ≤ p ∧ p ≤ 1) (hw : whyT ν = 0) : ∃ w, md (tdP ν p) (2 ^ lm ν - 1) = some w ∧ md (tdK ν p) (2 ^ lm ν - 1) = some w := by
  obtain ⟨⟨f1, f2, f3, f4⟩, ⟨e1, e2, e3, e4⟩, -, -⟩ := h.f
  obtain ⟨w1, w2, w3, w4⟩ := whyT_0 hw
  have ht : tG (tdK ν p) := tdC_G h.1.2.1.1.1 w2 w3 (fun j hj => by rw [← e1]; exact lth_lt hj) lth_r
  obtain ⟨w, hw⟩ := md_some ht (2 ^ lm ν - 1) (all_pos w2).1 (all_pos w2).2
  exact ⟨w, by rw [md_c (tdE_K e1 hp)]; exact hw, hw⟩
theorem C11_least {k : Nat} {σ μ : St} (h : Rel k σ μ) (p : Int32) : Mt YC mX11_least 70 [.ref 0, .int p] σ (fun r τ => r = some (.int (sp_least μ p).1) ∧ Rel (k + 1) τ (sp_least μ p).2) := by
  have h' := h.t
  have e2p : (sp_least μ p).2 = t0 μ := rfl
  rw [e2p]
  obtain ⟨y0, y1, y2, y3, y4, y5, y6, y7, y8, y9, yR, -, yb1, yb2⟩ := id (poY p)
  refine Mt.ofA [some (.ref 0), some (.int p), none] (by decide) (fun _ => Nat.le_of_ble_eq_true rfl) (fun _ => rfl) (fun g hc => ?_)
  unfold sp_least
  generalize t0 μ = ν at *
  refine st_iload_n hc dX11_least_0 rfl rfl ?_
  refine st_callSp hc dX11_least_1 (C11_isPool 60 σ p) msX11_266 (by omega) rfl rfl (Nat.le_of_ble_eq_true rfl) ?_
  refine st_if_ne (tgt := 9) hc dX11_least_4 (by decide) (fun h4 => ?_) (fun h4 => ?_)
  · have hp := of_decide_eq_true (bI_t h4)
    have e := rfT_w (μ := ν) hp
    rw [e]
    refine st_aload_n hc dX11_least_9 rfl rfl ?_
    refine st_callVp hc dX11_least_10 (C11_whyNoTrees 60 h') mvX11_269 (by omega) rfl rfl rfl (Nat.le_of_ble_eq_true rfl) ?_
    refine st_istore_n hc dX11_least_13 rfl (by decide) rfl ?_
    refine st_iload_n hc dX11_least_14 rfl rfl ?_
    refine st_if_eq (tgt := 22) hc dX11_least_15 (by decide) (fun h15 => ?_) (fun h15 => ?_)
    · obtain ⟨w, hw1, hw2⟩ := md_K h' hp h15
      refine st_aload_n hc dX11_least_22 rfl rfl ?_
      refine st_iload_n hc dX11_least_23 rfl rfl ?_
      refine st_callV hc dX11_least_24 (C11_forestOf h' hp h15) mvX11_272 (by omega) rfl rfl rfl (Nat.le_of_ble_eq_true rfl) ?_
      rintro r τ1 ⟨er, d1, E, d2, d3, d4⟩
      subst er
      show aW g YC 3 _ _ _ (.ref (poB p) :: []) τ1
      refine st_callVq hc dX11_least_27 (C1_leastDepth (poY p) d2.2.1 hw2 d2.fm) mvX11_276 (by omega) rfl y0 rfl (Nat.le_of_ble_eq_true rfl) ?_
      rintro τ2 j2
      refine st_iret (st := []) hc dX11_least_30 rfl ?_
      first
       | (refine ⟨?_, h'⟩; simp only; rw [if_neg h15]; done)
       | (obtain ⟨k1, k2, k3, k4⟩ := fm_fo yb1 d1 d2 j2
          refine ⟨?_, h'.fo k1 k2 (k3.trans d3) (k4.trans d4)⟩
          simp only
          rw [if_pos h15, hw1]
          rfl)
    · have h15 : ¬ whyT ν = 0 := h15
      refine st_iload_n hc dX11_least_18 rfl rfl ?_
      refine st_goto (tgt := 30) hc dX11_least_19 (by decide) ?_
      refine st_iret (st := []) hc dX11_least_30 rfl ?_
      first
       | (refine ⟨?_, h'⟩; simp only; rw [if_neg h15]; done)
       | (obtain ⟨k1, k2, k3, k4⟩ := fm_fo yb1 d1 d2 j2
          refine ⟨?_, h'.fo k1 k2 (k3.trans d3) (k4.trans d4)⟩
          simp only
          rw [if_pos h15, hw1]
          rfl)
  · have hp : ¬ (0 ≤ p ∧ p ≤ 1) := of_decide_eq_false (bI_0.mp h4)
    have e : rfT ν p = -1 := if_pos hp
    refine st_iconst (v := (-1)) hc dX11_least_7 (by decide) ?_
    refine st_iret (st := []) hc dX11_least_8 rfl ?_
    refine ⟨?_, h'⟩
    rw [e]
    rfl
theorem nat20 {x : Int32} (h : 0 ≤ x ∧ x ≤ 20) : x = nI (nat x) ∧ nat x ≤ 20 := by
  have e := (nI_nat h.1).symm
  have hl := nat_lt x
  refine ⟨e, ?_⟩
  have h2 := h.2
  rw [e] at h2
  exact (nI_leI (b := 20) hl (by decide)).mp h2
theorem ms_K {k : Nat} {σ ν : St} (h : Rel k σ ν) {p x : Int32} (hp : 0 ≤ p ∧ p ≤ 1) (hw : whyT ν = 0) : ms (tdP ν p) (rD x) (2 ^ lm ν - 1) = ms (tdK ν p) (bdN (lm ν) (nat x)) (2 ^ lm ν - 1) := by
  obtain ⟨⟨f1, f2, f3, f4⟩, ⟨e1, e2, e3, e4⟩, -, -⟩ := h.f
  obtain ⟨w1, w2, w3, w4⟩ := whyT_0 hw
  have ht : tG (tdK ν p) := tdC_G h.1.2.1.1.1 w2 w3 (fun j hj => by rw [← e1]; exact lth_lt hj) lth_r
  rw [ms_c (tdE_K e1 hp)]
  exact (ms_bd ht).symm
theorem C11_sum {k : Nat} {σ μ : St} (h : Rel k σ μ) (p x : Int32) : Mt YC mX11_sum 70 [.ref 0, .int p, .int x] σ (fun r τ => r = some (.int (sp_sum μ p x).1) ∧ Rel (k + 1) τ (sp_sum μ p x).2) := by
  have h' := h.t
  have e2p : (sp_sum μ p x).2 = t0 μ := rfl
  rw [e2p]
  obtain ⟨y0, y1, y2, y3, y4, y5, y6, y7, y8, y9, yR, -, yb1, yb2⟩ := id (poY p)
  refine Mt.ofA [some (.ref 0), some (.int p), some (.int x), none, none] (by decide) (fun _ => Nat.le_of_ble_eq_true rfl) (fun _ => rfl) (fun g hc => ?_)
  unfold sp_sum msA
  generalize t0 μ = ν at *
  refine st_iload_n hc dX11_sum_0 rfl rfl ?_
  refine st_callSp hc dX11_sum_1 (C11_isPool 60 σ p) msX11_266 (by omega) rfl rfl (Nat.le_of_ble_eq_true rfl) ?_
  refine st_if_eq (tgt := 14) hc dX11_sum_4 (by decide) (fun h4 => ?_) (fun h4 => ?_)
  · have e : askT ν p x = -1 := if_neg (fun q => of_decide_eq_false (bI_0.mp h4) q.1)
    refine st_iconst (v := (-1)) hc dX11_sum_14 (by decide) ?_
    refine st_iret (st := []) hc dX11_sum_15 rfl ?_
    refine ⟨?_, h'⟩
    rw [e]
    rfl
  · have hp := of_decide_eq_true (bI_t h4)
    refine st_iload_n hc dX11_sum_7 rfl rfl ?_
    refine st_callSp hc dX11_sum_8 (C11_isDepth 60 σ x) msX11_279 (by omega) rfl rfl (Nat.le_of_ble_eq_true rfl) ?_
    refine st_if_ne (tgt := 16) hc dX11_sum_11 (by decide) (fun h11 => ?_) (fun h11 => ?_)
    · have hx := of_decide_eq_true (bI_t h11)
      have e : askT ν p x = whyT ν := (if_pos ⟨hp, hx⟩).trans (rfT_w hp)
      obtain ⟨ex, hx20⟩ := nat20 hx
      rw [e]
      refine st_aload_n hc dX11_sum_16 rfl rfl ?_
      refine st_callVp hc dX11_sum_17 (C11_whyNoTrees 60 h') mvX11_269 (by omega) rfl rfl rfl (Nat.le_of_ble_eq_true rfl) ?_
      refine st_istore_n hc dX11_sum_20 rfl (by decide) rfl ?_
      refine st_iload_n hc dX11_sum_21 rfl rfl ?_
      refine st_if_eq (tgt := 27) hc dX11_sum_22 (by decide) (fun h22 => ?_) (fun h22 => ?_)
      · have hmk := ms_K (x := x) h' hp h22
        refine st_aload_n hc dX11_sum_27 rfl rfl ?_
        refine st_iload_n hc dX11_sum_28 rfl rfl ?_
        refine st_callV hc dX11_sum_29 (C11_forestOf h' hp h22) mvX11_272 (by omega) rfl rfl rfl (Nat.le_of_ble_eq_true rfl) ?_
        rintro r τ1 ⟨er, d1, E, d2, d3, d4⟩
        subst er
        show aW g YC 5 _ _ _ (.ref (poB p) :: []) τ1
        have hls := C1_leastSumWithin (poY p) d2.2.1 hx20 d2.fm
        rw [← ex] at hls
        have ht := d2.2.1.1
        refine st_iload_n hc dX11_sum_32 rfl rfl ?_
        refine st_callVq hc dX11_sum_33 (hls) mvX11_282 (by omega) rfl y0 rfl (Nat.le_of_ble_eq_true rfl) ?_
        rintro τ2 j2
        obtain ⟨k1, k2, k3, k4⟩ := fm_fo yb1 d1 d2 j2
        have hRR := h'.fo k1 k2 (k3.trans d3) (k4.trans d4)
        have hv : ∀ q, ms (tdK ν p) (bdN (lm ν) (nat x)) (2 ^ lm ν - 1) = some q → 1 ≤ q.1 ∧ q.1 ≤ 121 := fun q hq => by
          obtain ⟨a1, a2⟩ := all_pos ht.2.1
          have h1 := ms_ge ht _ a1 a2 _ q hq
          have h2 := ms_le ht.1 _ _ _ q (Nat.le_refl _) a2 hq
          have h3 := ones_pos' ht.1.1 a2 a1
          have h4 := ones_le (2 ^ lm ν - 1)
          have h5 : ones (2 ^ lm ν - 1) * ones (2 ^ lm ν - 1) ≤ 11 * 11 := Nat.mul_le_mul h4 h4
          exact ⟨by have h1 : 2 * ones (2 ^ lm ν - 1) - 1 ≤ q.1 := h1; have h3 : 0 < ones (2 ^ lm ν - 1) := h3; omega, by have h2 : q.1 ≤ ones (2 ^ lm ν - 1) * ones (2 ^ lm ν - 1) := h2; omega⟩
        refine st_istore hc dX11_sum_36 (by decide) rfl ?_
        refine st_iload hc dX11_sum_38 rfl ?_
        refine st_if_ne (tgt := 48) hc dX11_sum_40 (by decide) (fun h40 => ?_) (fun h40 => ?_)
        · refine st_iload hc dX11_sum_48 rfl ?_
          refine st_iret (st := []) hc dX11_sum_50 rfl ?_
          refine ⟨?_, hRR⟩
          simp only
          rw [if_pos h22, hmk]
          rcases hz : ms (tdK ν p) (bdN (lm ν) (nat x)) (2 ^ lm ν - 1) with _ | q
          · first
             | rfl
             | (have h40 : ¬ nI (vS (ms (tdK ν p) (bdN (lm ν) (nat x)) (2 ^ lm ν - 1))) = 0 := h40
                rw [hz] at h40; exact absurd rfl h40)
          · first
             | (have h40 : nI (vS (ms (tdK ν p) (bdN (lm ν) (nat x)) (2 ^ lm ν - 1))) = 0 := h40
                rw [hz] at h40
                have := nI_inj (a := q.1) (b := 0) (by have := hv q hz; omega) (by decide) h40
                have := hv q hz
                omega)
             | rfl
        · refine st_bipush (v := (-7)) hc dX11_sum_43 (by decide) ?_
          refine st_goto (tgt := 50) hc dX11_sum_45 (by decide) ?_
          refine st_iret (st := []) hc dX11_sum_50 rfl ?_
          refine ⟨?_, hRR⟩
          simp only
          rw [if_pos h22, hmk]
          rcases hz : ms (tdK ν p) (bdN (lm ν) (nat x)) (2 ^ lm ν - 1) with _ | q
          · first
             | rfl
             | (have h40 : ¬ nI (vS (ms (tdK ν p) (bdN (lm ν) (nat x)) (2 ^ lm ν - 1))) = 0 := h40
                rw [hz] at h40; exact absurd rfl h40)
          · first
             | (have h40 : nI (vS (ms (tdK ν p) (bdN (lm ν) (nat x)) (2 ^ lm ν - 1))) = 0 := h40
                rw [hz] at h40
                have := nI_inj (a := q.1) (b := 0) (by have := hv q hz; omega) (by decide) h40
                have := hv q hz
                omega)
             | rfl
      · have h22 : ¬ whyT ν = 0 := h22
        refine st_iload_n hc dX11_sum_25 rfl rfl ?_
        refine st_iret (st := []) hc dX11_sum_26 rfl ?_
        refine ⟨?_, h'⟩
        simp only
        rw [if_neg h22]
    · have e : askT ν p x = -1 := if_neg (fun q => of_decide_eq_false (bI_0.mp h11) q.2)
      refine st_iconst (v := (-1)) hc dX11_sum_14 (by decide) ?_
      refine st_iret (st := []) hc dX11_sum_15 rfl ?_
      refine ⟨?_, h'⟩
      rw [e]
      rfl

