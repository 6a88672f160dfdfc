/-! ===== calls of the class: trees ===== -/
theorem C11_isPool (d : Nat) (σ : St) (p : Int32) : Mt YC mX11_isPool d [.int p] σ (fun r τ => r = some (.int (bI (decide (0 ≤ p ∧ p ≤ 1)))) ∧ τ = σ) := by
  refine Mt.ofA [some (.int p)] (by decide) (fun _ => Nat.le_of_ble_eq_true rfl) (fun _ => rfl) (fun g hc => ?_)
  have hiff : (0 ≤ p ∧ p ≤ 1) ↔ (p = 0 ∨ p = 1) := by
    constructor
    · intro q
      have := pool_b q
      by_cases z : p = 1
      · exact Or.inr z
      · rw [decide_eq_false z] at this; exact Or.inl this
    · rintro (rfl | rfl) <;> decide
  refine st_iload_n hc dX11_isPool_0 rfl rfl ?_
  refine st_if_eq (tgt := 9) hc dX11_isPool_1 (by decide) (fun h1 => ?_) (fun h1 => ?_)
  · have e : decide (0 ≤ p ∧ p ≤ 1) = true := decide_eq_true (hiff.mpr (Or.inl h1))
    refine st_iconst (v := 1) hc dX11_isPool_9 (by decide) ?_
    refine st_goto (tgt := 14) hc dX11_isPool_10 (by decide) ?_
    refine st_zret (st := []) hc dX11_isPool_14 rfl (by first | exact Or.inr rfl | (split <;> simp)) ?_
    refine ⟨?_, rfl⟩
    first
     | (rw [e]; rfl)
     | (by_cases q : p = 1
        · rw [if_pos q, decide_eq_true (hiff.mpr (Or.inr q))]; rfl
        · rw [if_neg q, decide_eq_false (fun z => by rcases hiff.mp z with y | y; exact h1 y; exact q y)]; rfl)
  · refine st_iload_n hc dX11_isPool_4 rfl rfl ?_
    refine st_iconst (v := 1) hc dX11_isPool_5 (by decide) ?_
    refine st_t_icmp_ne (a := 1) (b := 0) hc dX11_isPool_6 dX11_isPool_9 dX11_isPool_10 dX11_isPool_13 (by decide) (by decide) ?_
    refine st_zret (st := []) hc dX11_isPool_14 rfl (by first | exact Or.inr rfl | (split <;> simp)) ?_
    refine ⟨?_, rfl⟩
    first
     | (rw [e]; rfl)
     | (by_cases q : p = 1
        · rw [if_pos q, decide_eq_true (hiff.mpr (Or.inr q))]; rfl
        · rw [if_neg q, decide_eq_false (fun z => by rcases hiff.mp z with y | y; exact h1 y; exact q y)]; rfl)
theorem C11_isDepth (d : Nat) (σ : St) (p : Int32) : Mt YC mX11_isDepth d [.int p] σ (fun r τ => r = some (.int (bI (decide (0 ≤ p ∧ p ≤ 20)))) ∧ τ = σ) := by
  refine Mt.ofA [some (.int p)] (by decide) (fun _ => Nat.le_of_ble_eq_true rfl) (fun _ => rfl) (fun g hc => ?_)
  refine st_iload_n hc dX11_isDepth_0 rfl rfl ?_
  refine st_if_lt (tgt := 14) hc dX11_isDepth_1 (by decide) (fun h1 => ?_) (fun h1 => ?_)
  · have e : decide (0 ≤ p ∧ p ≤ 20) = false := decide_eq_false (fun q => absurd h1 (Int32.not_lt.mpr q.1))
    refine st_iconst (v := 0) hc dX11_isDepth_14 (by decide) ?_
    refine st_zret (st := []) hc dX11_isDepth_15 rfl (by first | exact Or.inl rfl | (split <;> simp)) ?_
    refine ⟨?_, rfl⟩
    first
     | (rw [e]; rfl)
     | (by_cases q : 20 < p
        · rw [if_pos q, decide_eq_false (fun z => absurd q (Int32.not_lt.mpr z.2))]; rfl
        · rw [if_neg q, decide_eq_true ⟨h1, Int32.not_lt.mp q⟩]; rfl)
  · have h1 := Int32.not_lt.mp h1
    refine st_iload_n hc dX11_isDepth_4 rfl rfl ?_
    refine st_bipush (v := 20) hc dX11_isDepth_5 (by decide) ?_
    refine st_t_icmp_gt (a := 1) (b := 0) hc dX11_isDepth_7 dX11_isDepth_10 dX11_isDepth_11 dX11_isDepth_14 (by decide) (by decide) ?_
    refine st_zret (st := []) hc dX11_isDepth_15 rfl (by first | exact Or.inl rfl | (split <;> simp)) ?_
    refine ⟨?_, rfl⟩
    first
     | (rw [e]; rfl)
     | (by_cases q : 20 < p
        · rw [if_pos q, decide_eq_false (fun z => absurd q (Int32.not_lt.mpr z.2))]; rfl
        · rw [if_neg q, decide_eq_true ⟨h1, Int32.not_lt.mp q⟩]; rfl)
def whyT (μ : St) : Int32 := if ¬ μ 0 5 = 0 then -6 else if lm μ = 0 ∨ 10 < lm μ ∨ 1296 < nN μ then -5 else 0
theorem C11_whyNoTrees (d : Nat) {k : Nat} {σ μ : St} (h : Rel k σ μ) : Mt YC mX11_whyNoTrees d [.ref 0] σ (fun r τ => r = some (.int (whyT μ)) ∧ τ = σ) := by
  obtain ⟨-, ⟨e1, e2, e3, e4⟩, ⟨g1, g2, g3⟩, -⟩ := h.f
  obtain ⟨p1, p2, p3, -⟩ := h.1.2.2.1
  obtain ⟨l1, l2, l3⟩ := id h.L
  refine Mt.ofA [some (.ref 0)] (by decide) (fun _ => Nat.le_of_ble_eq_true rfl) (fun _ => rfl) (fun g hc => ?_)
  refine st_aload_n hc dX11_whyNoTrees_0 rfl rfl ?_
  refine st_getr hc dX11_whyNoTrees_1 flX11_21 rfl rfl ?_
  refine st_getE hc dX11_whyNoTrees_4 flX11_142 rfl rfl (p3) ?_
  refine st_if_eq (tgt := 13) hc dX11_whyNoTrees_7 (by decide) (fun h7 => ?_) (fun h7 => ?_)
  · refine st_aload_n hc dX11_whyNoTrees_13 rfl rfl ?_
    refine st_getr hc dX11_whyNoTrees_14 flX11_21 rfl rfl ?_
    refine st_getE hc dX11_whyNoTrees_17 flX11_182 rfl rfl (l1) ?_
    refine st_if_eq (tgt := 48) hc dX11_whyNoTrees_20 (by decide) (fun h20 => ?_) (fun h20 => ?_)
    · have hbig : lm μ = 0 ∨ 10 < lm μ ∨ 1296 < nN μ := Or.inl (nI_inj (b := 0) (by omega) (by decide) h20)
      refine st_bipush (v := (-5)) hc dX11_whyNoTrees_48 (by decide) ?_
      refine st_iret (st := []) hc dX11_whyNoTrees_50 rfl ?_
      refine ⟨?_, rfl⟩
      unfold whyT
      rw [if_neg (fun q => q h7), if_pos hbig]
    · have h20 : ¬ lm μ = 0 := fun q => h20 (by rw [q]; rfl)
      refine st_aload_n hc dX11_whyNoTrees_23 rfl rfl ?_
      refine st_getr hc dX11_whyNoTrees_24 flX11_21 rfl rfl ?_
      refine st_getE hc dX11_whyNoTrees_27 flX11_182 rfl rfl (l1) ?_
      refine st_bipush (v := 10) hc dX11_whyNoTrees_30 (by decide) ?_
      refine st_icmp_gt (tgt := 48) hc dX11_whyNoTrees_32 (by decide) (fun h32 => ?_) (fun h32 => ?_)
      · have hbig : lm μ = 0 ∨ 10 < lm μ ∨ 1296 < nN μ := Or.inr (Or.inl ((nI_ltI (a := 10) (by decide) (by omega)).mp h32))
        refine st_bipush (v := (-5)) hc dX11_whyNoTrees_48 (by decide) ?_
        refine st_iret (st := []) hc dX11_whyNoTrees_50 rfl ?_
        refine ⟨?_, rfl⟩
        unfold whyT
        rw [if_neg (fun q => q h7), if_pos hbig]
      · have h32 : ¬ 10 < lm μ := fun q => h32 ((nI_ltI (a := 10) (by decide) (by omega)).mpr q)
        refine st_aload_n hc dX11_whyNoTrees_35 rfl rfl ?_
        refine st_getr hc dX11_whyNoTrees_36 flX11_12 rfl rfl ?_
        refine st_getE hc dX11_whyNoTrees_39 flX11_94 rfl rfl (g3) ?_
        refine st_sipush (v := 1296) hc dX11_whyNoTrees_42 (by decide) ?_
        refine st_icmp_le (tgt := 51) hc dX11_whyNoTrees_45 (by decide) (fun h45 => ?_) (fun h45 => ?_)
        · have h45 := (nI_leI (b := 1296) (by omega) (by decide)).mp h45
          refine st_iconst (v := 0) hc dX11_whyNoTrees_51 (by decide) ?_
          refine st_iret (st := []) hc dX11_whyNoTrees_52 rfl ?_
          refine ⟨?_, rfl⟩
          unfold whyT
          rw [if_neg (fun q => q h7), if_neg (by omega)]
        · have hbig : lm μ = 0 ∨ 10 < lm μ ∨ 1296 < nN μ := Or.inr (Or.inr (Nat.lt_of_not_le (fun q => h45 (nI_le (b := 1296) q (by decide)))))
          refine st_bipush (v := (-5)) hc dX11_whyNoTrees_48 (by decide) ?_
          refine st_iret (st := []) hc dX11_whyNoTrees_50 rfl ?_
          refine ⟨?_, rfl⟩
          unfold whyT
          rw [if_neg (fun q => q h7), if_pos hbig]
  · refine st_bipush (v := (-6)) hc dX11_whyNoTrees_10 (by decide) ?_
    refine st_iret (st := []) hc dX11_whyNoTrees_12 rfl ?_
    refine ⟨?_, rfl⟩
    unfold whyT
    rw [if_pos h7]
theorem whyT_0 {μ : St} (h : whyT μ = 0) : μ 0 5 = 0 ∧ 1 ≤ lm μ ∧ lm μ ≤ 10 ∧ nN μ ≤ 1296 := by
  unfold whyT at h
  by_cases q : μ 0 5 = 0
  · rw [if_neg (fun z => z q)] at h
    by_cases y : lm μ = 0 ∨ 10 < lm μ ∨ 1296 < nN μ
    · rw [if_pos y] at h; exact absurd h (by decide)
    · exact ⟨q, by omega, by omega, by omega⟩
  · rw [if_pos q] at h; exact absurd h (by decide)
theorem rfT_w {μ : St} {p : Int32} (h : 0 ≤ p ∧ p ≤ 1) : rfT μ p = whyT μ := by unfold rfT whyT; rw [if_neg (fun q => q h)]
/-- the pool's forest -/
abbrev poB (p : Int32) : Nat := if p = 0 then 26 else 36
abbrev poR (p : Int32) : Nat := if p = 0 then 1296 else 10
abbrev poS (p : Int32) : Nat := if p = 0 then 2048 else 0
abbrev poA (p : Int32) : Bool := decide (p = 0)
theorem poY (p : Int32) : frY (poB p) (poR p) (poS p) := by
  unfold poB poR poS
  by_cases q : p = 0
  · simp only [q, if_true]; exact fr26
  · simp only [q, if_false]; exact fr36
theorem poV {σ : St} {p : Int32} (h : rlF σ) : frV σ (poB p) (poR p) (poA p) := by
  unfold poB poR poA
  by_cases q : p = 0
  · simp only [q, if_true, decide_true]; exact h.1
  · simp only [q, if_false, decide_false]; exact h.2
abbrev tdK (μ : St) (p : Int32) : TD := tdC (pN μ) (cN μ) (lm μ) (lth μ) (poA p)
theorem lth_r {μ : St} : ∀ j k, j < k → k < lm μ → lth μ j < lth μ k := fun j k hj hk => by
  obtain ⟨a1, a2, a3⟩ := nthT_ok (n := nN μ) (p := mLs μ) hk
  obtain ⟨b1, b2, b3⟩ := nthT_ok (n := nN μ) (p := mLs μ) (k := j) (Nat.lt_trans hj hk)
  rcases Nat.lt_or_ge (lth μ j) (lth μ k) with q | q
  · exact q
  · have := cnt_mono (mLs μ) q
    have a3 : cnt (lth μ k) (mLs μ) = k := a3
    have b3 : cnt (lth μ j) (mLs μ) = j := b3
    omega
theorem tdE_K {μ : St} {p : Int32} (hN : nN μ = cN μ ^ pN μ) (hp : 0 ≤ p ∧ p ≤ 1) : tdE (tdK μ p) (tdP μ p) := by
  refine ⟨rfl, hN, rfl, ?_, fun g k hk => ?_, fun k hk => ?_⟩
  · show decide (p = 1) = !decide (p = 0)
    have := pool_b hp
    by_cases q : p = 1
    · rw [q]; decide
    · rw [decide_eq_false q] at this ⊢
      rw [show p = 0 from this]; decide
  · show cA2 μ g (lth μ k) = ans _ _ _ (cutL (lm μ) (lth μ) k); rw [cutL_lt hk]
  · exact (cutL_lt hk).symm
theorem C11_forestOf {k : Nat} {σ μ : St} (h : Rel k σ μ) {p : Int32} (hp : 0 ≤ p ∧ p ≤ 1) (hw : whyT μ = 0) : Mt YC mX11_forestOf 62 [.ref 0, .int p] σ (fun r τ => r = some (.ref (poB p)) ∧ (∀ a, ¬ (poB p ≤ a ∧ a ≤ poB p + 9) → τ a = σ a) ∧ ∃ E, frS τ (poB p) (poR p) (pN μ) (cN μ) (lm μ) (lth μ) (poA p) E ∧ τ (poB p) 4 = nI (pN μ) ∧ τ (poB p) 5 = nI (cN μ)) := by
  obtain ⟨⟨f1, f2, f3, f4⟩, ⟨e1, e2, e3, e4⟩, -, -⟩ := h.f
  obtain ⟨w1, w2, w3, w4⟩ := whyT_0 hw
  obtain ⟨y0, y1, y2, y3, y4, y5, y6, y7, y8, y9, yR, -, yb1, yb2⟩ := id (poY p)
  have hsf := C1_standFor 50 σ (poY p) (P := pN μ) (C := cN μ) (n := lm μ) (L := lth μ) (any := poA p) (fun q => by unfold poS; rw [if_pos (of_decide_eq_true q)]) (by
    unfold poR
    by_cases q : p = 0
    · rw [if_pos (decide_eq_true q), if_pos q, ← e1]; exact w4
    · rw [if_neg (fun z => q (of_decide_eq_true z)), if_neg q]; exact w3) h.1.2.1 (by rw [← e1]; exact h.L) w2 w3 lth_r (poV h.1.2.2.2.2.2.2.1)
  refine Mt.ofA [some (.ref 0), some (.int p), none] (by decide) (fun _ => Nat.le_of_ble_eq_true rfl) (fun _ => rfl) (fun g hc => ?_)
  refine st_iload_n hc dX11_forestOf_0 rfl rfl ?_
  refine st_if_ne (tgt := 11) hc dX11_forestOf_1 (by decide) (fun h1 => ?_) (fun h1 => ?_)
  · have eb : poB p = 36 := if_neg h1
    refine st_aload_n hc dX11_forestOf_11 rfl rfl ?_
    refine st_getr hc dX11_forestOf_12 flX11_62 rfl rfl ?_
    refine st_astore_n hc dX11_forestOf_15 rfl (by decide) rfl ?_
    refine st_aload_n hc dX11_forestOf_16 rfl rfl ?_
    refine st_aload_n hc dX11_forestOf_17 rfl rfl ?_
    refine st_getr hc dX11_forestOf_18 flX11_21 rfl rfl ?_
    refine st_callVn hc dX11_forestOf_21 ((eb ▸ hsf)) mvX11_295 (by omega) rfl rfl rfl (Nat.le_of_ble_eq_true rfl) ?_
    rintro τ1 ⟨d1, d2, d3, E, d4, d5⟩
    refine st_aload_n hc dX11_forestOf_24 rfl rfl ?_
    refine st_aret (st := []) hc dX11_forestOf_25 rfl ?_
    rw [eb]
    refine ⟨rfl, d1, E, ⟨h.1.2.1.eq (d1 1 (by decide)) (d1 2 (by decide)) (d1 3 (by decide)) (d1 4 (by decide)), d4, d5⟩, d2, d3⟩
  · have eb : poB p = 26 := if_pos h1
    refine st_aload_n hc dX11_forestOf_4 rfl rfl ?_
    refine st_getr hc dX11_forestOf_5 flX11_58 rfl rfl ?_
    refine st_goto (tgt := 15) hc dX11_forestOf_8 (by decide) ?_
    refine st_astore_n hc dX11_forestOf_15 rfl (by decide) rfl ?_
    refine st_aload_n hc dX11_forestOf_16 rfl rfl ?_
    refine st_aload_n hc dX11_forestOf_17 rfl rfl ?_
    refine st_getr hc dX11_forestOf_18 flX11_21 rfl rfl ?_
    refine st_callVn hc dX11_forestOf_21 ((eb ▸ hsf)) mvX11_295 (by omega) rfl rfl rfl (Nat.le_of_ble_eq_true rfl) ?_
    rintro τ1 ⟨d1, d2, d3, E, d4, d5⟩
    refine st_aload_n hc dX11_forestOf_24 rfl rfl ?_
    refine st_aret (st := []) hc dX11_forestOf_25 rfl ?_
    rw [eb]
    refine ⟨rfl, d1, E, ⟨h.1.2.1.eq (d1 1 (by decide)) (d1 2 (by decide)) (d1 3 (by decide)) (d1 4 (by decide)), d4, d5⟩, d2, d3⟩

