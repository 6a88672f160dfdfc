/-! ===== the class: a tree is planted ===== -/
/-- the forest stands, with its book -/
def frS (τ : St) (b R P C n : Nat) (L : Nat → Nat) (any : Bool) (E : Ent) : Prop := bkI τ P C ∧ frF τ b R (tdC P C n L any) E ∧ meO τ b (tdC P C n L any) E
theorem frS.fm {τ : St} {b R P C n : Nat} {L : Nat → Nat} {any : Bool} {E : Ent} (h : frS τ b R P C n L any E) : fmI τ b (tdC P C n L any) E τ := ⟨fun _ _ => rfl, h.2.2⟩
theorem frS.of {σ τ : St} {b R P C n : Nat} {L : Nat → Nat} {any : Bool} {E : Ent} (hb : 26 ≤ b) (h : frS σ b R P C n L any E) (e : fmI σ b (tdC P C n L any) E τ) : frS τ b R P C n L any E := ⟨h.1.eq (e.1 1 (by omega)) (e.1 2 (by omega)) (e.1 3 (by omega)) (e.1 4 (by omega)), ⟨h.2.1.1, h.2.1.2.1.eq e.1, h.2.1.2.2⟩, e.2⟩
theorem frS.eq {σ τ : St} {b R P C n : Nat} {L : Nat → Nat} {any : Bool} {E : Ent} (hb : 26 ≤ b) (hb2 : b ≤ 36) (h : frS σ b R P C n L any E) (e : ∀ a, a ≤ 45 → τ a = σ a) : frS τ b R P C n L any E := by
  obtain ⟨h1, ⟨h2, h3, h4⟩, h5⟩ := h
  refine ⟨h1.eq (e 1 (by omega)) (e 2 (by omega)) (e 3 (by omega)) (e 4 (by omega)), ⟨h2, ?_, h4⟩, ?_⟩
  · unfold frD enR at *
    rw [e b (by omega), e (b + 1) (by omega), e (b + 2) (by omega), e (b + 3) (by omega), e (b + 4) (by omega), e (b + 5) (by omega)]
    exact h3
  · unfold meO at *
    rw [e (b + 9) (by omega)]
    exact h5
theorem C1_withAnswer (d : Nat) (τ : St) {b R SL : Nat} (hY : frY b R SL) {P C n s a gg : Nat} {L : Nat → Nat} {any : Bool} {E : Ent} (hS : frS τ b R P C n L any E) (hg : gg < C ^ P) (hs : s < 2 ^ n) (ha : a < 60) : Mt YC mX1_withAnswer (d + 3) [.ref b, .int (nI gg), .int (nI s), .int (nI a)] τ (fun r τ' => r = some (.int (nI (prt s (tA (tdC P C n L any) gg) n a))) ∧ τ' = τ) := by
  obtain ⟨y0, y1, -⟩ := id hY
  obtain ⟨hb, ⟨ht, hD, -, -⟩, -⟩ := id hS
  have h10 : n ≤ 10 := ht.1.1
  have hn := p2n h10
  have hP5 := hb.1.1.2.1
  refine Mt.ofA [some (.ref b), some (.int (nI gg)), some (.int (nI s)), some (.int (nI a)), none, none] (by decide) (fun _ => Nat.le_of_ble_eq_true rfl) (fun _ => rfl) (fun g hc => ?_)
  have k6 : aW g YC 6 (fun r τ' => r = some (.int (nI (prt s (tA (tdC P C n L any) gg) n a))) ∧ τ' = τ) 6 [some (.ref b), some (.int (nI gg)), some (.int (nI s)), some (.int (nI a)), some (.int (nI (prt s (tA (tdC P C n L any) gg) 0 a))), some (.int (nI 0))] [] τ := by
    refine lpN (n := n) (F := fun i => aW g YC 6 (fun r τ' => r = some (.int (nI (prt s (tA (tdC P C n L any) gg) n a))) ∧ τ' = τ) 6 [some (.ref b), some (.int (nI gg)), some (.int (nI s)), some (.int (nI a)), some (.int (nI (prt s (tA (tdC P C n L any) gg) i a))), some (.int (nI i))] [] τ) ?_ (fun i hi ih => ?_)
    · refine st_iload hc dX1_withAnswer_6 rfl ?_
      refine st_aload_n hc dX1_withAnswer_8 rfl rfl ?_
      refine st_getE hc dX1_withAnswer_9 flX1_74 y0 rfl (hD.2.1) ?_
      refine st_icmp_ge (tgt := 58) hc dX1_withAnswer_12 (by decide) (fun h12 => ?_) (fun h12 => ?_)
      · refine st_iload hc dX1_withAnswer_58 rfl ?_
        refine st_iret (st := []) hc dX1_withAnswer_60 rfl ?_
        exact ⟨rfl, rfl⟩
      · exact absurd (nI_le (Nat.le_refl _) (by show n < 2 ^ 31; omega)) h12
    · have hlk : cutL n L i < C ^ P := ht.2.2.2.1 i hi
      have hal : tA (tdC P C n L any) gg i < 60 := ht.1.2.2 gg i hi
      have hA : ans P C (cw P C gg) (cutL n L i) = tA (tdC P C n L any) gg i := rfl
      refine st_iload hc dX1_withAnswer_6 rfl ?_
      refine st_aload_n hc dX1_withAnswer_8 rfl rfl ?_
      refine st_getE hc dX1_withAnswer_9 flX1_74 y0 rfl (hD.2.1) ?_
      refine st_icmp_ge (tgt := 58) hc dX1_withAnswer_12 (by decide) (fun h12 => ?_) (fun h12 => ?_)
      · exact absurd h12 (nI_ge hi (by show n < 2 ^ 31; omega))
      · refine st_iload_n hc dX1_withAnswer_15 rfl rfl ?_
        refine st_iload hc dX1_withAnswer_16 rfl ?_
        refine st_iushr hc dX1_withAnswer_18 ?_
        refine st_iconst (v := 1) hc dX1_withAnswer_19 (by decide) ?_
        refine st_iand hc dX1_withAnswer_20 ?_
        rw [ubit (by omega) (by omega)]
        refine st_if_eq (tgt := 52) hc dX1_withAnswer_21 (by decide) (fun h21 => ?_) (fun h21 => ?_)
        · have h21 := ubit0.mp h21
          rw [show prt s (tA (tdC P C n L any) gg) (i + 1) a = prt s (tA (tdC P C n L any) gg) i a from fbits_n (by show (s.testBit i && _) = false; rw [h21]; rfl)] at ih
          refine st_inc hc dX1_withAnswer_52 rfl (by decide) rfl ?_
          rw [nI_1]
          refine st_goto (tgt := 6) hc dX1_withAnswer_55 (by decide) ?_
          exact ih
        · have h21 : s.testBit i = true := by
            rcases hz : s.testBit i with _ | _
            · exact absurd (ubit0.mpr hz) h21
            · rfl
          refine st_aload_n hc dX1_withAnswer_24 rfl rfl ?_
          refine st_getr hc dX1_withAnswer_25 flX1_21 y0 rfl ?_
          refine st_iload_n hc dX1_withAnswer_28 rfl rfl ?_
          refine st_aload_n hc dX1_withAnswer_29 rfl rfl ?_
          refine st_getr hc dX1_withAnswer_30 flX1_11 y0 rfl ?_
          refine st_iload hc dX1_withAnswer_33 rfl ?_
          refine st_ialdN (k := i) hc dX1_withAnswer_35 y1 (rfl) (by omega) (by first | decide | omega) ((hD.2.2.2.1 i hi : _ = nI (cutL n L i))) ?_
          refine st_callVp hc dX1_withAnswer_36 (C0_answerOfCodes d τ hb hg hlk) mvX1_118 (by omega) rfl rfl rfl (Nat.le_of_ble_eq_true rfl) ?_
          refine st_iload_n hc dX1_withAnswer_39 rfl rfl ?_
          refine st_icmp_ne (tgt := 52) hc dX1_withAnswer_40 (by decide) (fun h40 => ?_) (fun h40 => ?_)
          · have h40 : ¬ tA (tdC P C n L any) gg i = a := fun q => h40 (congrArg nI q)
            rw [show prt s (tA (tdC P C n L any) gg) (i + 1) a = prt s (tA (tdC P C n L any) gg) i a from fbits_n (by show (s.testBit i && tA (tdC P C n L any) gg i == a) = false; rw [beq_false_of_ne h40, Bool.and_false])] at ih
            refine st_inc hc dX1_withAnswer_52 rfl (by decide) rfl ?_
            rw [nI_1]
            refine st_goto (tgt := 6) hc dX1_withAnswer_55 (by decide) ?_
            exact ih
          · have h40 : tA (tdC P C n L any) gg i = a := nI_inj (a := tA (tdC P C n L any) gg i) (by omega) (by omega) h40
            rw [show prt s (tA (tdC P C n L any) gg) (i + 1) a = prt s (tA (tdC P C n L any) gg) i a ||| 2 ^ i from fbits_p (by show (s.testBit i && tA (tdC P C n L any) gg i == a) = true; rw [h21, h40]; simp)] at ih
            refine st_iload hc dX1_withAnswer_43 rfl ?_
            refine st_iconst (v := 1) hc dX1_withAnswer_45 (by decide) ?_
            refine st_iload hc dX1_withAnswer_46 rfl ?_
            refine st_ishl hc dX1_withAnswer_48 ?_
            rw [nI_shl1 (by omega)]
            refine st_ior hc dX1_withAnswer_49 ?_
            rw [nI_or]
            refine st_istore hc dX1_withAnswer_50 (by decide) rfl ?_
            refine st_inc hc dX1_withAnswer_52 rfl (by decide) rfl ?_
            rw [nI_1]
            refine st_goto (tgt := 6) hc dX1_withAnswer_55 (by decide) ?_
            exact ih
  refine st_iconst (v := 0) hc dX1_withAnswer_0 (by decide) ?_
  refine st_istore hc dX1_withAnswer_1 (by decide) rfl ?_
  refine st_iconst (v := 0) hc dX1_withAnswer_3 (by decide) ?_
  refine st_istore hc dX1_withAnswer_4 (by decide) rfl ?_
  exact k6
abbrev nxP (t : TD) (g s x : Nat) (r : Int32) : Prop := (∃ a, x ≤ a ∧ a < 60 ∧ ¬ pA t g s a = 0 ∧ (∀ a', x ≤ a' → a' < a → pA t g s a' = 0) ∧ r = nI a) ∨ ((∀ a, x ≤ a → a < 60 → pA t g s a = 0) ∧ r = -1)
theorem pA_ex {t : TD} {g s a : Nat} (hs : s < 2 ^ tn t) : ¬ pA t g s a = 0 ↔ ¬ a = tfu t ∧ ∃ k, k < tn t ∧ s.testBit k = true ∧ tA t g k = a := by
  unfold pA
  by_cases e : a = tfu t
  · rw [if_pos e]; exact ⟨fun q => absurd rfl q, fun q => absurd e q.1⟩
  · rw [if_neg e]
    constructor
    · intro h
      refine ⟨e, ?_⟩
      rcases hz : anyN (tn t) (mem s (tA t g) a) with _ | _
      · exact absurd (fbits_z hz) h
      · obtain ⟨k, hk, q⟩ := (anyN_iff _ _).mp hz
        have q : (s.testBit k && tA t g k == a) = true := q
        rw [Bool.and_eq_true] at q
        exact ⟨k, hk, q.1, eq_of_beq q.2⟩
    · rintro ⟨-, k, hk, h1, h2⟩ h
      have := congrArg (fun z => z.testBit k) h
      simp only [mem_bit, Nat.zero_testBit] at this
      rw [decide_eq_true hk, h1, h2] at this
      simp at this
theorem C1_nextAnswer (d : Nat) (τ : St) {b R SL : Nat} (hY : frY b R SL) {P C n s x gg : Nat} {L : Nat → Nat} {any : Bool} {E : Ent} (hS : frS τ b R P C n L any E) (hg : gg < C ^ P) (hs : s < 2 ^ n) (hx : x ≤ 60) : Mt YC mX1_nextAnswer (d + 3) [.ref b, .int (nI gg), .int (nI s), .int (nI x - 1)] τ (fun r τ' => (∃ v, r = some (.int v) ∧ nxP (tdC P C n L any) gg s x v) ∧ τ' = τ) := by
  obtain ⟨y0, y1, -⟩ := id hY
  obtain ⟨hb, ⟨ht, hD, -, -⟩, -⟩ := id hS
  have h10 : n ≤ 10 := ht.1.1
  have hn := p2n h10
  have hP5 := hb.1.1.2.1
  have hfull := fun σ' (h : σ' 1 0 = nI P) => C0_fullAnswer (d + 2) σ' (P := P) h
  have hAle : ∀ k, k < n → tA (tdC P C n L any) gg k ≤ 10 * P := fun k hk => ans_50 hP5 (cw P C gg) (cutL n L k)
  have hmem : ∀ a, ¬ pA (tdC P C n L any) gg s a = 0 ↔ ¬ a = 10 * P ∧ ∃ k, k < n ∧ s.testBit k = true ∧ tA (tdC P C n L any) gg k = a := fun a => pA_ex hs
  generalize hA : tA (tdC P C n L any) gg = A at *
  have hAk : ∀ k, ans P C (cw P C gg) (cutL n L k) = A k := fun k => by rw [← hA]
  refine Mt.ofA [some (.ref b), some (.int (nI gg)), some (.int (nI s)), some (.int (nI x - 1)), none, none, none] (by decide) (fun _ => Nat.le_of_ble_eq_true rfl) (fun _ => rfl) (fun g hc => ?_)
  have k12 : ∀ v x6, v ≤ 10 * P → (v < 10 * P → ∃ k, k < 0 ∧ s.testBit k = true ∧ A k = v ∧ x ≤ v) → (∀ k, k < 0 → s.testBit k = true → x ≤ A k → A k < 10 * P → v ≤ A k) → aW g YC 7 (fun r τ' => (∃ v, r = some (.int v) ∧ nxP (tdC P C n L any) gg s x v) ∧ τ' = τ) 12 [some (.ref b), some (.int (nI gg)), some (.int (nI s)), some (.int (nI x - 1)), some (.int (nI v)), some (.int (nI 0)), x6] [] τ := by
    refine lpN (n := n) (F := fun i => ∀ v x6, v ≤ 10 * P → (v < 10 * P → ∃ k, k < i ∧ s.testBit k = true ∧ A k = v ∧ x ≤ v) → (∀ k, k < i → s.testBit k = true → x ≤ A k → A k < 10 * P → v ≤ A k) → aW g YC 7 (fun r τ' => (∃ v, r = some (.int v) ∧ nxP (tdC P C n L any) gg s x v) ∧ τ' = τ) 12 [some (.ref b), some (.int (nI gg)), some (.int (nI s)), some (.int (nI x - 1)), some (.int (nI v)), some (.int (nI i)), x6] [] τ) (fun v x6 h1 h2 h3 => ?_) (fun i hi ih v x6 h1 h2 h3 => ?_)
    · refine st_iload hc dX1_nextAnswer_12 rfl ?_
      refine st_aload_n hc dX1_nextAnswer_14 rfl rfl ?_
      refine st_getE hc dX1_nextAnswer_15 flX1_74 y0 rfl (hD.2.1) ?_
      refine st_icmp_ge (tgt := 70) hc dX1_nextAnswer_18 (by decide) (fun h18 => ?_) (fun h18 => ?_)
      · refine st_iload hc dX1_nextAnswer_70 rfl ?_
        refine st_aload_n hc dX1_nextAnswer_72 rfl rfl ?_
        refine st_getr hc dX1_nextAnswer_73 flX1_21 y0 rfl ?_
        refine st_callVp hc dX1_nextAnswer_76 (hfull τ hb.1.2.2.1) mvX1_114 (by omega) rfl rfl rfl (Nat.le_of_ble_eq_true rfl) ?_
        refine st_icmp_ne (tgt := 86) hc dX1_nextAnswer_79 (by decide) (fun h79 => ?_) (fun h79 => ?_)
        · have h79 : v < 10 * P := by
            rcases Nat.lt_or_ge v (10 * P) with z | z
            · exact z
            · exact absurd (by rw [show v = 10 * P by omega]) h79
          refine st_iload hc dX1_nextAnswer_86 rfl ?_
          refine st_iret (st := []) hc dX1_nextAnswer_88 rfl ?_
          first
           | (obtain ⟨k, k1, k2, k3, k4⟩ := h2 h79
              refine ⟨⟨_, rfl, Or.inl ⟨v, k4, by omega, (hmem v).mpr ⟨by omega, k, k1, k2, k3⟩, fun a' z1 z2 => ?_, rfl⟩⟩, rfl⟩
              rcases Nat.eq_zero_or_pos (pA (tdC P C n L any) gg s a') with y | y
              · exact y
              · obtain ⟨w1, j, j1, j2, j3⟩ := (hmem a').mp (by omega)
                have := h3 j j1 j2 (by omega) (by omega)
                omega)
           | (refine ⟨⟨_, rfl, Or.inr ⟨fun a z1 z2 => ?_, rfl⟩⟩, rfl⟩
              rcases Nat.eq_zero_or_pos (pA (tdC P C n L any) gg s a) with y | y
              · exact y
              · obtain ⟨w1, j, j1, j2, j3⟩ := (hmem a).mp (by omega)
                have q1 := hAle j j1
                have := h3 j j1 j2 (by omega) (by omega)
                omega)
        · have h79 : v = 10 * P := nI_inj (by omega) (by omega) h79
          refine st_iconst (v := (-1)) hc dX1_nextAnswer_82 (by decide) ?_
          refine st_goto (tgt := 88) hc dX1_nextAnswer_83 (by decide) ?_
          refine st_iret (st := []) hc dX1_nextAnswer_88 rfl ?_
          first
           | (obtain ⟨k, k1, k2, k3, k4⟩ := h2 h79
              refine ⟨⟨_, rfl, Or.inl ⟨v, k4, by omega, (hmem v).mpr ⟨by omega, k, k1, k2, k3⟩, fun a' z1 z2 => ?_, rfl⟩⟩, rfl⟩
              rcases Nat.eq_zero_or_pos (pA (tdC P C n L any) gg s a') with y | y
              · exact y
              · obtain ⟨w1, j, j1, j2, j3⟩ := (hmem a').mp (by omega)
                have := h3 j j1 j2 (by omega) (by omega)
                omega)
           | (refine ⟨⟨_, rfl, Or.inr ⟨fun a z1 z2 => ?_, rfl⟩⟩, rfl⟩
              rcases Nat.eq_zero_or_pos (pA (tdC P C n L any) gg s a) with y | y
              · exact y
              · obtain ⟨w1, j, j1, j2, j3⟩ := (hmem a).mp (by omega)
                have q1 := hAle j j1
                have := h3 j j1 j2 (by omega) (by omega)
                omega)
      · exact absurd (nI_le (Nat.le_refl _) (by show n < 2 ^ 31; omega)) h18
    · have hlk : cutL n L i < C ^ P := ht.2.2.2.1 i hi
      have hal := hAle i hi
      refine st_iload hc dX1_nextAnswer_12 rfl ?_
      refine st_aload_n hc dX1_nextAnswer_14 rfl rfl ?_
      refine st_getE hc dX1_nextAnswer_15 flX1_74 y0 rfl (hD.2.1) ?_
      refine st_icmp_ge (tgt := 70) hc dX1_nextAnswer_18 (by decide) (fun h18 => ?_) (fun h18 => ?_)
      · exact absurd h18 (nI_ge hi (by show n < 2 ^ 31; omega))
      · refine st_iload_n hc dX1_nextAnswer_21 rfl rfl ?_
        refine st_iload hc dX1_nextAnswer_22 rfl ?_
        refine st_iushr hc dX1_nextAnswer_24 ?_
        refine st_iconst (v := 1) hc dX1_nextAnswer_25 (by decide) ?_
        refine st_iand hc dX1_nextAnswer_26 ?_
        rw [ubit (by omega) (by omega)]
        refine st_if_eq (tgt := 64) hc dX1_nextAnswer_27 (by decide) (fun h27 => ?_) (fun h27 => ?_)
        · have h27 := ubit0.mp h27
          have hno : ¬ (s.testBit i = true ∧ x ≤ A i ∧ A i < v) := fun z => by rw [h27] at z; exact absurd z.1 (by decide)
          refine st_inc hc dX1_nextAnswer_64 rfl (by decide) rfl ?_
          rw [nI_1]
          refine st_goto (tgt := 12) hc dX1_nextAnswer_67 (by decide) ?_
          first
           | (refine ih v _ h1 (fun z => ?_) (fun k hk z1 z2 z3 => ?_)
              · obtain ⟨k, k1, k2⟩ := h2 z; exact ⟨k, by omega, k2⟩
              · by_cases q : k = i
                · subst q
                  rcases Nat.lt_or_ge (A k) v with y | y
                  · exact absurd ⟨z1, z2, y⟩ hno
                  · exact y
                · exact h3 k (by omega) z1 z2 z3)
           | (refine ih (A i) _ hal (fun z => ⟨i, by omega, h27, rfl, by omega⟩) (fun k hk z1 z2 z3 => ?_)
              by_cases q : k = i
              · rw [q]; exact Nat.le_refl _
              · have := h3 k (by omega) z1 z2 z3; omega)
        · have h27 : s.testBit i = true := by
            rcases hz : s.testBit i with _ | _
            · exact absurd (ubit0.mpr hz) h27
            · rfl
          refine st_aload_n hc dX1_nextAnswer_30 rfl rfl ?_
          refine st_getr hc dX1_nextAnswer_31 flX1_21 y0 rfl ?_
          refine st_iload_n hc dX1_nextAnswer_34 rfl rfl ?_
          refine st_aload_n hc dX1_nextAnswer_35 rfl rfl ?_
          refine st_getr hc dX1_nextAnswer_36 flX1_11 y0 rfl ?_
          refine st_iload hc dX1_nextAnswer_39 rfl ?_
          refine st_ialdN (k := i) hc dX1_nextAnswer_41 y1 (rfl) (by omega) (by first | decide | omega) ((hD.2.2.2.1 i hi : _ = nI (cutL n L i))) ?_
          refine st_callVp hc dX1_nextAnswer_42 (C0_answerOfCodes d τ hb hg hlk) mvX1_118 (by omega) rfl rfl rfl (Nat.le_of_ble_eq_true rfl) ?_
          rw [hAk]
          refine st_istore hc dX1_nextAnswer_45 (by decide) rfl ?_
          refine st_iload hc dX1_nextAnswer_47 rfl ?_
          refine st_iload_n hc dX1_nextAnswer_49 rfl rfl ?_
          refine st_icmp_le (tgt := 64) hc dX1_nextAnswer_50 (by decide) (fun h50 => ?_) (fun h50 => ?_)
          · have h50 := (nI_pm (by omega) (by omega)).mp h50
            have hno : ¬ (s.testBit i = true ∧ x ≤ A i ∧ A i < v) := fun z => by omega
            refine st_inc hc dX1_nextAnswer_64 rfl (by decide) rfl ?_
            rw [nI_1]
            refine st_goto (tgt := 12) hc dX1_nextAnswer_67 (by decide) ?_
            first
             | (refine ih v _ h1 (fun z => ?_) (fun k hk z1 z2 z3 => ?_)
                · obtain ⟨k, k1, k2⟩ := h2 z; exact ⟨k, by omega, k2⟩
                · by_cases q : k = i
                  · subst q
                    rcases Nat.lt_or_ge (A k) v with y | y
                    · exact absurd ⟨z1, z2, y⟩ hno
                    · exact y
                  · exact h3 k (by omega) z1 z2 z3)
             | (refine ih (A i) _ hal (fun z => ⟨i, by omega, h27, rfl, by omega⟩) (fun k hk z1 z2 z3 => ?_)
                by_cases q : k = i
                · rw [q]; exact Nat.le_refl _
                · have := h3 k (by omega) z1 z2 z3; omega)
          · have h50 : ¬ A i < x := fun z => h50 ((nI_pm (by omega) (by omega)).mpr z)
            refine st_iload hc dX1_nextAnswer_53 rfl ?_
            refine st_iload hc dX1_nextAnswer_55 rfl ?_
            refine st_icmp_ge (tgt := 64) hc dX1_nextAnswer_57 (by decide) (fun h57 => ?_) (fun h57 => ?_)
            · have h57 := (nI_leI (by omega) (by omega)).mp h57
              have hno : ¬ (s.testBit i = true ∧ x ≤ A i ∧ A i < v) := fun z => by omega
              refine st_inc hc dX1_nextAnswer_64 rfl (by decide) rfl ?_
              rw [nI_1]
              refine st_goto (tgt := 12) hc dX1_nextAnswer_67 (by decide) ?_
              first
               | (refine ih v _ h1 (fun z => ?_) (fun k hk z1 z2 z3 => ?_)
                  · obtain ⟨k, k1, k2⟩ := h2 z; exact ⟨k, by omega, k2⟩
                  · by_cases q : k = i
                    · subst q
                      rcases Nat.lt_or_ge (A k) v with y | y
                      · exact absurd ⟨z1, z2, y⟩ hno
                      · exact y
                    · exact h3 k (by omega) z1 z2 z3)
               | (refine ih (A i) _ hal (fun z => ⟨i, by omega, h27, rfl, by omega⟩) (fun k hk z1 z2 z3 => ?_)
                  by_cases q : k = i
                  · rw [q]; exact Nat.le_refl _
                  · have := h3 k (by omega) z1 z2 z3; omega)
            · have h57 : A i < v := Nat.lt_of_not_le (fun z => h57 (nI_le z (by omega)))
              refine st_iload hc dX1_nextAnswer_60 rfl ?_
              refine st_istore hc dX1_nextAnswer_62 (by decide) rfl ?_
              refine st_inc hc dX1_nextAnswer_64 rfl (by decide) rfl ?_
              rw [nI_1]
              refine st_goto (tgt := 12) hc dX1_nextAnswer_67 (by decide) ?_
              first
               | (refine ih v _ h1 (fun z => ?_) (fun k hk z1 z2 z3 => ?_)
                  · obtain ⟨k, k1, k2⟩ := h2 z; exact ⟨k, by omega, k2⟩
                  · by_cases q : k = i
                    · subst q
                      rcases Nat.lt_or_ge (A k) v with y | y
                      · exact absurd ⟨z1, z2, y⟩ hno
                      · exact y
                    · exact h3 k (by omega) z1 z2 z3)
               | (refine ih (A i) _ hal (fun z => ⟨i, by omega, h27, rfl, by omega⟩) (fun k hk z1 z2 z3 => ?_)
                  by_cases q : k = i
                  · rw [q]; exact Nat.le_refl _
                  · have := h3 k (by omega) z1 z2 z3; omega)
  refine st_aload_n hc dX1_nextAnswer_0 rfl rfl ?_
  refine st_getr hc dX1_nextAnswer_1 flX1_21 y0 rfl ?_
  refine st_callVp hc dX1_nextAnswer_4 (hfull τ hb.1.2.2.1) mvX1_114 (by omega) rfl rfl rfl (Nat.le_of_ble_eq_true rfl) ?_
  refine st_istore hc dX1_nextAnswer_7 (by decide) rfl ?_
  refine st_iconst (v := 0) hc dX1_nextAnswer_9 (by decide) ?_
  refine st_istore hc dX1_nextAnswer_10 (by decide) rfl ?_
  exact k12 (10 * P) none (Nat.le_refl _) (fun z => absurd z (Nat.lt_irrefl _)) (fun k hk => absurd hk (Nat.not_lt_zero k))

