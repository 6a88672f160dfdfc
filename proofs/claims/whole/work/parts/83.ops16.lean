/-! ===== calls of the class: shelves, 4 ===== -/
theorem pegs_eq {σ μ : St} {D : Nat} (hV : rlV σ μ) (hD : D < 6) (hso : shOK μ) (h4 : μ 34 D = 4) : cnt (nat (μ 35 D)) (fun i => !(σ (63 + 2 * D) i == -1)) = pegsS μ D := by
  obtain ⟨v1, v2, v3, v4, v5, v6, v7⟩ := hV D hD
  obtain ⟨l0, l60⟩ := hso D hD
  refine cnt_congr (fun i hi => ?_)
  rw [v4 i (by omega)]
  rcases (v6 h4).2 i hi with q | q
  · rw [q]; decide
  · rw [decide_eq_true (Int32.not_lt.mpr q)]
    have hn : ¬ μ 36 (60 * D + i) = -1 := fun z => by rw [z] at q; exact absurd q (by decide)
    simp [hn]
theorem C11_kept {k : Nat} {σ μ : St} (h : Rel k σ μ) (p w : Int32) : Mt YC mX11_kept 70 [.ref 0, .int p, .int w] σ (fun r τ => r = some (.int (sp_kept μ p w).1) ∧ Rel (k + 1) τ (sp_kept μ p w).2) := by
  have hV : rlV σ μ := h.1.2.2.2.2.2.2.2.2.2
  refine Mt.ofA [some (.ref 0), some (.int p), some (.int w), none, none] (by decide) (fun _ => Nat.le_of_ble_eq_true rfl) (fun _ => rfl) (fun g hc => ?_)
  refine st_iload_n hc dX11_kept_0 rfl rfl ?_
  refine st_callSp hc dX11_kept_1 (C11_isShelf 60 σ p) msX11_331 (by omega) rfl rfl (Nat.le_of_ble_eq_true rfl) ?_
  refine st_if_eq (tgt := 17) hc dX11_kept_4 (by decide) (fun h4 => ?_) (fun h4 => ?_)
  · have e : sp_kept μ p w = (-1, t0 μ) := if_pos (Or.inl (of_decide_eq_false (bI_0.mp h4)))
    refine st_iconst (v := (-1)) hc dX11_kept_17 (by decide) ?_
    refine st_iret (st := []) hc dX11_kept_18 rfl ?_
    rw [e]
    exact ⟨rfl, h.t⟩
  · have hin := of_decide_eq_true (bI_t h4)
    obtain ⟨ep, hD⟩ := sh_n hin
    refine st_iload_n hc dX11_kept_7 rfl rfl ?_
    refine st_if_lt (tgt := 17) hc dX11_kept_8 (by decide) (fun h8 => ?_) (fun h8 => ?_)
    · have e : sp_kept μ p w = (-1, t0 μ) := if_pos (Or.inr (fun q => absurd h8 (Int32.not_lt.mpr q.1)))
      refine st_iconst (v := (-1)) hc dX11_kept_17 (by decide) ?_
      refine st_iret (st := []) hc dX11_kept_18 rfl ?_
      rw [e]
      exact ⟨rfl, h.t⟩
    · have h8 := Int32.not_lt.mp h8
      refine st_iload_n hc dX11_kept_11 rfl rfl ?_
      refine st_bipush (v := 8) hc dX11_kept_12 (by decide) ?_
      refine st_icmp_le (tgt := 19) hc dX11_kept_14 (by decide) (fun h14 => ?_) (fun h14 => ?_)
      · have hex : ¬ (¬ (0 ≤ p ∧ p ≤ 5) ∨ ¬ (0 ≤ w ∧ w ≤ 8)) := fun z => by
          rcases z with z | z
          · exact z hin
          · exact z ⟨h8, h14⟩
        have hs := shY_d hD
        obtain ⟨v1, v2, v3, v4, v5, v6, v7⟩ := hV (nat p) hD
        obtain ⟨l0, l60⟩ := h.1.1.2.2.2.1 (nat p) hD
        refine st_aload_n hc dX11_kept_19 rfl rfl ?_
        refine st_getr hc dX11_kept_20 flX11_81 rfl rfl ?_
        refine st_iload_n hc dX11_kept_23 rfl rfl ?_
        refine st_aaldN (k := nat p) hc dX11_kept_24 rfl (ep) (by omega) (by first | decide | omega) (sh_q hD) ?_
        refine st_astore_n hc dX11_kept_25 rfl (by decide) rfl ?_
        refine st_aload_n hc dX11_kept_26 rfl rfl ?_
        refine st_callVp hc dX11_kept_27 (C7_whyNoGuess 60 σ hs) mvX11_380 (by omega) rfl hs.1 rfl (Nat.le_of_ble_eq_true rfl) ?_
        rw [v1]
        refine st_istore hc dX11_kept_30 (by decide) rfl ?_
        refine st_iload hc dX11_kept_32 rfl ?_
        refine st_if_eq (tgt := 44) hc dX11_kept_34 (by decide) (fun h34 => ?_) (fun h34 => ?_)
        · have q0 : ¬ μ 34 (nat p) = 0 := fun q => by rw [if_pos q] at h34; cases h34
          have q4 : μ 34 (nat p) = 4 := by
            by_cases q : μ 34 (nat p) = 4
            · exact q
            · rw [if_neg q0, if_neg q] at h34; cases h34
          obtain ⟨⟨s, hs5, es⟩, -⟩ := v6 q4
          have ek : sp_kept μ p w = if w = 0 then (μ 37 (nat p), t0 μ) else if w = 1 then (weightS μ (nat p), t0 μ) else if w = 2 then (if μ 37 (nat p) = 0 then 1 else if μ 37 (nat p) = 3 then 0 else if μ 37 (nat p) = 4 then 7 else 2, t0 μ) else if w = 3 then (μ 35 (nat p), t0 μ) else if w - 4 < μ 35 (nat p) then (μ 36 (60 * nat p + (nat w - 4)), t0 μ) else (-13, fnd μ) := (if_neg hex).trans ((if_neg q0).trans (if_neg (fun q => q q4)))
          rw [ek]
          refine st_iload_n hc dX11_kept_44 rfl rfl ?_
          rcases sw_c 4 (by decide) w with hsw | ⟨ksw, hksw, esw⟩
          · refine st_tableOut (tgt := 96) hc dX11_kept_45 (by rcases hsw with q | q; exact Or.inl (by omega); exact Or.inr (by omega)) (by decide) ?_
            have hne : ∀ j : Nat, j < 4 → ¬ w = nI j := fun j hj q => by
              rw [q, nI_toInt (by omega)] at hsw
              omega
            have n0 : ¬ w = 0 := hne 0 (by decide)
            have n1 : ¬ w = 1 := hne 1 (by decide)
            have n2 : ¬ w = 2 := hne 2 (by decide)
            have n3 : ¬ w = 3 := hne 3 (by decide)
            rw [if_neg n0, if_neg n1, if_neg n2, if_neg n3]
            have ew := (nI_nat h8).symm
            have hw4 : 4 ≤ nat w := by
              rcases Nat.lt_or_ge (nat w) 4 with q | q
              · exact absurd ew (hne _ q)
              · exact q
            have hw8 : nat w ≤ 8 := (nI_leI (b := 8) (nat_lt w) (by decide)).mp (by rw [← ew]; exact h14)
            have ew4 : w - 4 = nI (nat w - 4) := by rw [ew, nat_nI (by omega), show (4 : Int32) = nI 4 from rfl, pk_sub hw4]
            rw [ew4]
            have hlt : (nI (nat w - 4) < μ 35 (nat p)) ↔ nat w - 4 < nat (μ 35 (nat p)) := by
              have := nI_ltI (a := nat w - 4) (b := nat (μ 35 (nat p))) (by omega) (by omega)
              rw [nI_nat l0] at this
              exact this
            refine st_aload_n hc dX11_kept_96 rfl rfl ?_
            refine st_iload_n hc dX11_kept_97 rfl rfl ?_
            refine st_iconst (v := 4) hc dX11_kept_98 (by decide) ?_
            refine st_isub hc dX11_kept_99 ?_
            rw [ew4]
            refine st_iconst (v := 1) hc dX11_kept_100 (by decide) ?_
            refine st_callVp hc dX11_kept_101 (C7_hasCells 60 σ hs (v2.trans (nI_nat l0).symm) l60 (nI (nat w - 4)) 1) mvX11_347 (by omega) rfl hs.1 rfl (Nat.le_of_ble_eq_true rfl) ?_
            refine st_if_eq (tgt := 118) hc dX11_kept_104 (by decide) (fun h104 => ?_) (fun h104 => ?_)
            · have hno := of_decide_eq_false (bI_0.mp h104)
              have hx : ¬ nI (nat w - 4) < μ 35 (nat p) := fun q => hno ⟨by decide, nI_le (a := 0) (Nat.zero_le _) (by omega), by have := hlt.mp q; have z : nat (1 : Int32) = 1 := rfl; rw [nat_nI (by omega)]; omega⟩
              rw [if_neg hx]
              refine st_aload_n hc dX11_kept_118 rfl rfl ?_
              refine st_bipush (v := (-13)) hc dX11_kept_119 (by decide) ?_
              refine st_callVq hc dX11_kept_121 (C11_refused 60 σ (-13)) mvX11_151 (by omega) rfl rfl rfl (Nat.le_of_ble_eq_true rfl) ?_
              rintro τ1 ee
              subst ee
              have hE := h.fd
              refine st_iret (st := []) hc dX11_kept_124 rfl ?_
              exact ⟨rfl, hE⟩
            · obtain ⟨-, -, iN⟩ := of_decide_eq_true (bI_t h104)
              have iN : nat w - 4 < nat (μ 35 (nat p)) := by have z : nat (1 : Int32) = 1 := rfl; rw [nat_nI (by omega)] at iN; omega
              rw [if_pos (hlt.mpr iN)]
              have hE := h.t
              refine st_aload_n hc dX11_kept_107 rfl rfl ?_
              refine st_getr hc dX11_kept_108 flX11_351 hs.1 rfl ?_
              refine st_iload_n hc dX11_kept_111 rfl rfl ?_
              refine st_iconst (v := 4) hc dX11_kept_112 (by decide) ?_
              refine st_isub hc dX11_kept_113 ?_
              rw [ew4]
              refine st_ialdN (k := nat w - 4) hc dX11_kept_114 hs.2.1 (rfl) (by omega) (by first | decide | omega) (v4 (nat w - 4) (by omega)) ?_
              refine st_goto (tgt := 124) hc dX11_kept_115 (by decide) ?_
              refine st_iret (st := []) hc dX11_kept_124 rfl ?_
              exact ⟨rfl, hE⟩
          · rcases (show ksw = 0 ∨ ksw = 1 ∨ ksw = 2 ∨ ksw = 3 by omega) with rfl | rfl | rfl | rfl
            · subst esw
              refine st_tableIn (off := 31) (tgt := 76) hc dX11_kept_45 (by decide) (by decide) (by decide) (by decide) ?_
              refine st_aload_n hc dX11_kept_76 rfl rfl ?_
              refine st_getE hc dX11_kept_77 flX11_383 hs.1 rfl (v3) ?_
              refine st_iret (st := []) hc dX11_kept_80 rfl ?_
              exact ⟨rfl, h.t⟩
            · subst esw
              refine st_tableIn (off := 36) (tgt := 81) hc dX11_kept_45 (by decide) (by decide) (by decide) (by decide) ?_
              refine st_aload_n hc dX11_kept_81 rfl rfl ?_
              refine st_callVp hc dX11_kept_82 (C7_weight 60 σ hs (v2.trans (nI_nat l0).symm) l60 (v3.trans es) hs5) mvX11_386 (by omega) rfl hs.1 rfl (Nat.le_of_ble_eq_true rfl) ?_
              refine st_iret (st := []) hc dX11_kept_85 rfl ?_
              refine ⟨?_, h.t⟩
              rw [pegs_eq hV hD h.1.1.2.2.2.1 q4, nI_nat l0, ← es]
              rfl
            · subst esw
              refine st_tableIn (off := 41) (tgt := 86) hc dX11_kept_45 (by decide) (by decide) (by decide) (by decide) ?_
              refine st_aload_n hc dX11_kept_86 rfl rfl ?_
              refine st_callVp hc dX11_kept_87 (C7_rank 60 σ hs (v3.trans es) hs5) mvX11_389 (by omega) rfl hs.1 rfl (Nat.le_of_ble_eq_true rfl) ?_
              refine st_iret (st := []) hc dX11_kept_90 rfl ?_
              rw [← es]
              exact ⟨rfl, h.t⟩
            · subst esw
              refine st_tableIn (off := 46) (tgt := 91) hc dX11_kept_45 (by decide) (by decide) (by decide) (by decide) ?_
              refine st_aload_n hc dX11_kept_91 rfl rfl ?_
              refine st_getE hc dX11_kept_92 flX11_392 hs.1 rfl (v2) ?_
              refine st_iret (st := []) hc dX11_kept_95 rfl ?_
              exact ⟨rfl, h.t⟩
        · have e : sp_kept μ p w = ((if μ 34 (nat p) = 0 then -11 else if μ 34 (nat p) = 4 then 0 else -12), fnd μ) := by
            unfold sp_kept
            rw [if_neg hex]
            by_cases q0 : μ 34 (nat p) = 0
            · rw [if_pos q0, if_pos q0]
            · rw [if_neg q0, if_neg q0]
              by_cases q4 : μ 34 (nat p) = 4
              · exfalso; rw [if_neg q0, if_pos q4] at h34; exact h34 rfl
              · rw [if_pos q4, if_neg q4]
          refine st_aload_n hc dX11_kept_37 rfl rfl ?_
          refine st_iload hc dX11_kept_38 rfl ?_
          refine st_callVq hc dX11_kept_40 (C11_refused 60 σ _) mvX11_151 (by omega) rfl rfl rfl (Nat.le_of_ble_eq_true rfl) ?_
          rintro τ1 ee
          subst ee
          refine st_iret (st := []) hc dX11_kept_43 rfl ?_
          rw [e]
          exact ⟨rfl, h.fd⟩
      · have e : sp_kept μ p w = (-1, t0 μ) := if_pos (Or.inr (fun q => h14 q.2))
        refine st_iconst (v := (-1)) hc dX11_kept_17 (by decide) ?_
        refine st_iret (st := []) hc dX11_kept_18 rfl ?_
        rw [e]
        exact ⟨rfl, h.t⟩

