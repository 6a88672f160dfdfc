theorem xwA : ∀ w ∈ vx_atS RX11 361 "java/lang/IllegalArgumentException" ["java/lang/RuntimeException", "java/lang/Exception"], w ∈ lw_tbl ∧ (goodWord w || isDC w) = true := by decide +kernel
theorem xwS : ∀ w ∈ vx_atS RX11 368 "java/lang/IllegalStateException" ["java/lang/RuntimeException", "java/lang/Exception"], w ∈ lw_tbl ∧ (goodWord w || isDC w) = true := by decide +kernel
/-- what at throws: 1 an IllegalArgumentException, 2 an IllegalStateException -/
def xAt (μ : St) (p i : Int32) (E : String) : Prop := (E = "java/lang/IllegalArgumentException" ∧ thA μ p i = 1) ∨ (E = "java/lang/IllegalStateException" ∧ thA μ p i = 2)
theorem C11_at {k : Nat} {σ μ : St} (h : Rel k σ μ) (p i : Int32) : vMt YC mX11_at 68 1 6 [.ref 0, .int p, .int i] σ (fun r τ => (∃ x, r = some (.int x) ∧ x = μ 36 (60 * nat p + nat i)) ∧ τ = σ ∧ thA μ p i = 0) (xAt μ p i) := by
  have hV : rlV σ μ := h.1.2.2.2.2.2.2.2.2.2
  refine vMt.ofB [some (.ref 0), some (.int p), some (.int i), none] (by decide) (fun _ => Nat.le_of_ble_eq_true rfl) (fun _ => rfl) (fun g hc hg => ?_)
  refine bt_iload_n hc dX11_at_0 rfl rfl ?_
  refine bt_callSp hc ⟨Nat.zero_le _, Nat.zero_le _⟩ dX11_at_1 (C11_isShelf 60 σ p) msX11_331 (by omega) rfl rfl (Nat.le_of_ble_eq_true rfl) ?_
  refine bt_if_ne (tgt := 18) hc dX11_at_4 (by decide) (fun h4 => ?_) (fun h4 => ?_)
  · have hin := of_decide_eq_true (bI_t h4)
    obtain ⟨ep, hD⟩ := sh_n hin
    have hs := shY_d hD
    obtain ⟨v1, v2, v3, v4, v5, v6, v7⟩ := hV (nat p) hD
    obtain ⟨l0, l60⟩ := h.1.1.2.2.2.1 (nat p) hD
    have ethA : thA μ p i = if μ 34 (nat p) = 0 ∨ μ 34 (nat p) = 4 ∨ ¬ (0 ≤ i ∧ nat i < nat (μ 35 (nat p))) then 2 else 0 := if_neg (fun z => z hin)
    refine bt_aload_n hc dX11_at_18 rfl rfl ?_
    refine bt_getr hc dX11_at_19 flX11_81 rfl rfl ?_
    refine bt_iload_n hc dX11_at_22 rfl rfl ?_
    refine bt_aaldN (k := nat p) hc dX11_at_23 rfl ep (by omega) (by decide) (sh_q hD) ?_
    refine bt_astore_n hc dX11_at_24 rfl (by decide) rfl ?_
    refine bt_aload_n hc dX11_at_25 rfl rfl ?_
    refine bt_callVp hc ⟨Nat.zero_le _, Nat.zero_le _⟩ dX11_at_26 (C7_whyNoRow 60 σ hs) mvX11_344 (by omega) rfl hs.1 rfl (Nat.le_of_ble_eq_true rfl) ?_
    rw [v1]
    refine bt_if_eq (tgt := 43) hc dX11_at_29 (by decide) (fun h29 => ?_) (fun h29 => ?_)
    · have q0 : ¬ μ 34 (nat p) = 0 := fun q => by rw [if_pos q] at h29; cases h29
      have q4 : ¬ μ 34 (nat p) = 4 := fun q => by rw [if_neg q0, if_pos q] at h29; cases h29
      refine bt_aload_n hc dX11_at_43 rfl rfl ?_
      refine bt_iload_n hc dX11_at_44 rfl rfl ?_
      refine bt_iconst (v := 1) hc dX11_at_45 (by decide) ?_
      refine bt_callVp hc ⟨Nat.zero_le _, Nat.zero_le _⟩ dX11_at_46 (C7_hasCells 60 σ hs (len := nat (μ 35 (nat p))) (by rw [v2, nI_nat l0]) l60 i 1) mvX11_347 (by omega) rfl hs.1 rfl (Nat.le_of_ble_eq_true rfl) ?_
      refine bt_if_ne (tgt := 63) hc dX11_at_49 (by decide) (fun h49 => ?_) (fun h49 => ?_)
      · obtain ⟨-, i0, hi⟩ := of_decide_eq_true (bI_t h49)
        have n1 : nat 1 = 1 := rfl
        rw [n1] at hi
        refine bt_aload_n hc dX11_at_63 rfl rfl ?_
        refine bt_getr hc dX11_at_64 flX11_351 hs.1 rfl ?_
        refine bt_iload_n hc dX11_at_67 rfl rfl ?_
        refine bt_ialdN (k := nat i) hc dX11_at_68 hs.2.1 (nI_nat i0).symm (by omega) (by decide) (v4 (nat i) (by omega)) ?_
        refine bt_iret hc dX11_at_69 rfl (by decide) (by decide) ?_
        refine ⟨⟨_, rfl, rfl⟩, rfl, ?_⟩
        rw [ethA, if_neg]
        rintro (q | q | q)
        · exact q0 q
        · exact q4 q
        · exact q ⟨i0, by omega⟩
      · have hno : ¬ (0 ≤ i ∧ nat i < nat (μ 35 (nat p))) := fun q => by
          have := of_decide_eq_false (bI_0.mp h49)
          exact this ⟨by decide, q.1, by have n1 : nat 1 = 1 := rfl; omega⟩
        have e2 : thA μ p i = 2 := by rw [ethA, if_pos (Or.inr (Or.inr hno))]
        obtain ⟨pp, l, e, R, s, m, args, below, meth, c, D, dA, ad⟩ := g
        obtain ⟨hx, hb, hml, hr, hlk, hown, hts, hK, hD2, ⟨hR1, hR2⟩, hN⟩ := hc
        obtain ⟨hlt, ⟨-, -, -, ⟨sa, hsa⟩, hU, hV2, hdk⟩, hex, hc1, hc2⟩ := hg
        intro H locs ls hP hS hl2
        refine vx_throwSW (names := ["java/lang/RuntimeException", "java/lang/Exception"]) hx hb hlt hown (by decide) (by decide) (hts _ (gw1 1017 (by decide +kernel) rfl)) (hts _ (gw_in (by decide +kernel) (by decide +kernel))) hsa (fun w hw => hdk.use hts (xwS w hw)) (by decide +kernel) hU hV2 hS (hl2.1.trans hml.symm) dX11_at_52 dX11_at_55 dX11_at_56 dX11_at_59 dX11_at_62 (fun x hx => absurd (hex x hx) (fun z => z)) ?_ ?_ (by omega) (by omega) hlk (fun t hvm hz hk => ⟨Or.inr ⟨rfl, e2⟩, hP.kept (fun k q hq => hk q.1 (vx_lt hP hq)), Nat.le_trans hS.1 hz, fun q h1 h2 => by rw [hk q (Nat.lt_of_lt_of_le h1 hS.1)]; exact hS.2.1 q h1 h2⟩) hS.2.2 (by omega) (by omega)
        · simp only [List.length_cons, List.length_nil]; omega
        · simp only [List.length_cons, List.length_nil, List.map_nil, List.sum_nil]; omega
    · have e2 : thA μ p i = 2 := by
        rw [ethA, if_pos]
        by_cases q0 : μ 34 (nat p) = 0
        · exact Or.inl q0
        · by_cases q4 : μ 34 (nat p) = 4
          · exact Or.inr (Or.inl q4)
          · rw [if_neg q0, if_neg q4] at h29; exact absurd rfl h29
      obtain ⟨pp, l, e, R, s, m, args, below, meth, c, D, dA, ad⟩ := g
      obtain ⟨hx, hb, hml, hr, hlk, hown, hts, hK, hD2, ⟨hR1, hR2⟩, hN⟩ := hc
      obtain ⟨hlt, ⟨-, -, ⟨sa, hsa⟩, -, hU, hV2, hdk⟩, hex, hc1, hc2⟩ := hg
      intro H locs ls hP hS hl2
      refine vx_throwSW (names := ["java/lang/RuntimeException", "java/lang/Exception"]) hx hb hlt hown (by decide) (by decide) (hts _ (gw1 1017 (by decide +kernel) rfl)) (hts _ (gw_in (by decide +kernel) (by decide +kernel))) hsa (fun w hw => hdk.use hts (xwS w hw)) (by decide +kernel) hU hV2 hS (hl2.1.trans hml.symm) dX11_at_32 dX11_at_35 dX11_at_36 dX11_at_39 dX11_at_42 (fun x hx => absurd (hex x hx) (fun z => z)) ?_ ?_ (by omega) (by omega) hlk (fun t hvm hz hk => ⟨Or.inr ⟨rfl, e2⟩, hP.kept (fun k q hq => hk q.1 (vx_lt hP hq)), Nat.le_trans hS.1 hz, fun q h1 h2 => by rw [hk q (Nat.lt_of_lt_of_le h1 hS.1)]; exact hS.2.1 q h1 h2⟩) hS.2.2 (by omega) (by omega)
      · simp only [List.length_cons, List.length_nil]; omega
      · simp only [List.length_cons, List.length_nil, List.map_nil, List.sum_nil]; omega
  · have e1 : thA μ p i = 1 := if_pos (of_decide_eq_false (bI_0.mp h4))
    obtain ⟨pp, l, e, R, s, m, args, below, meth, c, D, dA, ad⟩ := g
    obtain ⟨hx, hb, hml, hr, hlk, hown, hts, hK, hD2, ⟨hR1, hR2⟩, hN⟩ := hc
    obtain ⟨hlt, ⟨-, ⟨sa, hsa⟩, -, -, hU, hV2, hdk⟩, hex, hc1, hc2⟩ := hg
    intro H locs ls hP hS hl2
    refine vx_throwSW (names := ["java/lang/RuntimeException", "java/lang/Exception"]) hx hb hlt hown (by decide) (by decide) (hts _ (gw1 1106 (by decide +kernel) rfl)) (hts _ (gw_in (by decide +kernel) (by decide +kernel))) hsa (fun w hw => hdk.use hts (xwA w hw)) (by decide +kernel) hU hV2 hS (hl2.1.trans hml.symm) dX11_at_7 dX11_at_10 dX11_at_11 dX11_at_14 dX11_at_17 (fun x hx => absurd (hex x hx) (fun z => z)) ?_ ?_ (by omega) (by omega) hlk (fun t hvm hz hk => ⟨Or.inl ⟨rfl, e1⟩, hP.kept (fun k q hq => hk q.1 (vx_lt hP hq)), Nat.le_trans hS.1 hz, fun q h1 h2 => by rw [hk q (Nat.lt_of_lt_of_le h1 hS.1)]; exact hS.2.1 q h1 h2⟩) hS.2.2 (by omega) (by omega)
    · simp only [List.length_cons, List.length_nil]; omega
    · simp only [List.length_cons, List.length_nil, List.map_nil, List.sum_nil]; omega
