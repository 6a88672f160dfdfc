/-! ===== calls of the class: shelves, 5 ===== -/
theorem neg1_le {x : Int32} (z : ¬ x = -1) : -1 ≤ x ↔ 0 ≤ x := by
  constructor
  · intro hx
    have a1 := Int32.le_iff_toInt_le.mp hx
    have a2 : (-1 : Int32).toInt = -1 := rfl
    rw [a2] at a1
    refine Int32.le_iff_toInt_le.mpr ?_
    have a3 : (0 : Int32).toInt = 0 := rfl
    rw [a3]
    rcases Int.lt_or_le x.toInt 0 with y | y
    · exact absurd (Int32.toInt_inj.mp (show x.toInt = (-1 : Int32).toInt by rw [a2]; omega)) z
    · exact y
  · exact fun q => Int32.le_trans (by decide) q
theorem tk_ok {σ μ : St} {D I t : Nat} (hV : rlV σ μ) (hD : D < 6) (hI : I + t < 60) (hC : 1 ≤ cN μ) (hC8 : cN μ ≤ 8) (u1 : μ 0 1 = nI (cN μ)) : (-1 ≤ tkV μ D I t ∧ tkV μ D I t < nI (cN μ)) ↔ ¬ (¬ μ 36 (60 * D + I + t) = tkB μ D ∧ ¬ (0 ≤ μ 36 (60 * D + I + t) ∧ μ 36 (60 * D + I + t) ≤ μ 0 1 - 1)) := by
  obtain ⟨v1, v2, v3, v4, v5, v6, v7⟩ := hV D hD
  have hpm : ∀ x, x ≤ μ 0 1 - 1 ↔ x < nI (cN μ) := fun x => by rw [u1]; exact lt_pm hC (by omega)
  unfold tkV
  by_cases q : μ 36 (60 * D + I + t) = tkB μ D
  · rw [if_pos q]
    exact ⟨fun _ z => z.1 q, fun _ => ⟨by decide, Int32.lt_of_lt_of_le (by decide : (-1 : Int32) < 0) (nI_le (a := 0) (Nat.zero_le _) (by omega))⟩⟩
  · rw [if_neg q, hpm]
    have hx : ¬ μ 36 (60 * D + I + t) = -1 := by
      by_cases y : μ 34 D = 2
      · have := v7 y (I + t) hI
        rw [← Nat.add_assoc] at this
        exact this
      · have : tkB μ D = -1 := by unfold tkB; rw [if_neg y]
        rw [this] at q
        exact q
    rw [neg1_le hx]
    exact ⟨fun z w => w.2 z, fun z => Decidable.of_not_not (fun y => z ⟨q, y⟩)⟩
theorem C11_take {k : Nat} {σ μ : St} (h : Rel k σ μ) (p i : Int32) : Mt YC mX11_take 70 [.ref 0, .int p, .int i] σ (fun r τ => r = some (.int (sp_take μ p i).1) ∧ Rel (k + 1) τ (sp_take μ p i).2) := by
  obtain ⟨⟨f1, f2, f3, f4⟩, -, ⟨g1, g2, g3⟩, ⟨u0, u1, u9, u5⟩⟩ := h.f
  have hV : rlV σ μ := h.1.2.2.2.2.2.2.2.2.2
  have hz := h.1.2.1.1.1
  refine Mt.ofA [some (.ref 0), some (.int p), some (.int i), none, none, none] (by decide) (fun _ => Nat.le_of_ble_eq_true rfl) (fun _ => rfl) (fun g hc => ?_)
  have kk : ∀ (D : Nat) (q : Int32), D < 6 → 0 ≤ i → nat i + pN μ ≤ 60 → (tkBad μ D (nat i) = true → sp_take μ p i = (-16, t0 μ)) → (tkBad μ D (nat i) = false → sp_take μ p i = (sortS (tkS μ D (nat i)), tkS μ D (nat i))) → aW g YC 6 (fun r τ => r = some (.int (sp_take μ p i).1) ∧ Rel (k + 1) τ (sp_take μ p i).2) 59 [some (.ref 0), some (.int p), some (.int i), some (.ref (62 + 2 * D)), some (.int q), some (.int (nI 0))] [] σ := by
    intro D q hD i0 hI hbad hgood
    have hs := shY_d hD
    obtain ⟨v1, v2, v3, v4, v5, v6, v7⟩ := hV D hD
    have ei : ∀ t, i + nI t = nI (nat i + t) := fun t => by rw [← nI_add, nI_nat i0]
    have hpv : ∀ t, t < pN μ → (if σ (63 + 2 * D) (nat i + t) = (if σ (62 + 2 * D) 1 = 2 then 65535 else -1) then -1 else σ (63 + 2 * D) (nat i + t)) = tkV μ D (nat i) t := fun t ht => by
      rw [v1, v4 _ (by omega), ← Nat.add_assoc]; rfl
    have k101 : (∀ t, t < pN μ → -1 ≤ tkV μ D (nat i) t ∧ tkV μ D (nat i) t < nI (cN μ)) → aW g YC 6 (fun r τ => r = some (.int (sp_take μ p i).1) ∧ Rel (k + 1) τ (sp_take μ p i).2) 101 [some (.ref 0), some (.int p), some (.int i), some (.ref (62 + 2 * D)), some (.int q), some (.int (nI 0))] [] σ := by
      intro hok
      have hnb : tkBad μ D (nat i) = false := by
        rcases hb : tkBad μ D (nat i) with _ | _
        · rfl
        · obtain ⟨t, ht, hh⟩ := (anyN_iff _ _).mp hb
          exact absurd (of_decide_eq_true hh) ((tk_ok hV hD (by omega) f3 f4 u1).mp (hok t ht))
      have e := hgood hnb
      have hro : ∀ t, t < pN μ → tkV μ D (nat i) t = -1 ∨ (0 ≤ tkV μ D (nat i) t ∧ nat (tkV μ D (nat i) t) < cN μ) := fun t ht => by
        obtain ⟨a1, a2⟩ := hok t ht
        by_cases y : tkV μ D (nat i) t = -1
        · exact Or.inl y
        · have h0 := (neg1_le y).mp a1
          rw [← nI_nat h0] at a2
          exact Or.inr ⟨h0, (nI_ltI (nat_lt _) (by omega)).mp a2⟩
      refine (?_ : aW g YC 6 (fun r τ => r = some (.int (sp_take μ p i).1) ∧ Rel (k + 1) τ (sp_take μ p i).2) 101 [some (.ref 0), some (.int p), some (.int i), some (.ref (62 + 2 * D)), some (.int q), some (.int (nI 0))] [] (va_up σ 18 (rng 0 0 (tkV μ D (nat i)) (σ 18)))) |> fun z => by rw [rng_0, vu_id] at z; exact z
      refine lpN (n := pN μ) (F := fun t => aW g YC 6 (fun r τ => r = some (.int (sp_take μ p i).1) ∧ Rel (k + 1) τ (sp_take μ p i).2) 101 [some (.ref 0), some (.int p), some (.int i), some (.ref (62 + 2 * D)), some (.int q), some (.int (nI t))] [] (va_up σ 18 (rng 0 t (tkV μ D (nat i)) (σ 18)))) ?_ (fun t ht ih => ?_)
      · generalize hρ : va_up σ 18 (rng 0 (pN μ) (tkV μ D (nat i)) (σ 18)) = ρ
        have r1 : ∀ a, ¬ a = 18 → ρ a = σ a := fun a ha => by rw [← hρ, vu_n ha]
        have r18 : ∀ t, t < pN μ → ρ 18 t = tkV μ D (nat i) t := fun t ht => by rw [← hρ, vu_s]; unfold rng; rw [if_pos (by omega)]; rfl
        have hP : pN (tkS μ D (nat i)) = pN μ := by unfold pN tkS; simp [va_up, up_eq]
        have hC : cN (tkS μ D (nat i)) = cN μ := by unfold cN tkS; simp [va_up, up_eq]
        have h2 : ∀ t, t < pN μ → tkS μ D (nat i) 2 t = tkV μ D (nat i) t := fun t ht => by
          show va_up (t0 μ) 2 _ 2 t = _
          rw [vu_s]
          unfold rng
          rw [if_pos (by omega)]
          rfl
        have hRel : Rel (k + 1) (up (up ρ 17 1 (nI (spotsN (pN μ) (cN μ) (ρ 18)))) 17 2 (nI (sharesN (pN μ) (cN μ) (ρ 18)))) (tkS μ D (nat i)) := by
          refine h.hd (fun a ha => by rw [up_o a (by omega), up_o a (by omega)]; exact r1 a (by omega)) (fun a b h1 h2 => ?_) (fun j hj => ?_) (rlH_m hP hC (fun j hj => by rw [r18 j hj, h2 j hj]))
          · show va_up (up μ 0 15 0) 2 _ a b = μ a b
            rw [vu_n h1, up_eq, if_neg h2]
          · have hj : j < pN (tkS μ D (nat i)) := hj
            rw [hP] at hj
            show tkS μ D (nat i) 2 j = -1 ∨ (0 ≤ tkS μ D (nat i) 2 j ∧ nat (tkS μ D (nat i) 2 j) < cN (tkS μ D (nat i)))
            rw [h2 j hj, hC]
            exact hro j hj
        refine st_iload hc dX11_take_101 rfl ?_
        refine st_aload_n hc dX11_take_103 rfl rfl ?_
        refine st_getr hc dX11_take_104 flX11_12 rfl rfl ?_
        refine st_getE hc dX11_take_107 flX11_162 rfl rfl ((by rw [r1 1 (by decide)]; exact g1 : _ = nI (pN μ))) ?_
        refine st_icmp_ge (tgt := 137) hc dX11_take_110 (by decide) (fun h110 => ?_) (fun h110 => ?_)
        · refine st_aload_n hc dX11_take_137 rfl rfl ?_
          refine st_getr hc dX11_take_138 flX11_28 rfl rfl ?_
          refine st_aload_n hc dX11_take_141 rfl rfl ?_
          refine st_getr hc dX11_take_142 flX11_12 rfl rfl ?_
          refine st_getE hc dX11_take_145 flX11_162 rfl rfl ((by rw [r1 1 (by decide)]; exact g1 : _ = nI (pN μ))) ?_
          refine st_aload_n hc dX11_take_148 rfl rfl ?_
          refine st_getr hc dX11_take_149 flX11_12 rfl rfl ?_
          refine st_getE hc dX11_take_152 flX11_165 rfl rfl ((by rw [r1 1 (by decide)]; exact g2 : _ = nI (cN μ))) ?_
          refine st_callVn hc dX11_take_155 (C2_measure 60 ρ gs17 hz (fun j hj => by rw [r18 j hj]; exact hro j hj)) mvX11_107 (by omega) rfl rfl rfl (Nat.le_of_ble_eq_true rfl) ?_
          rintro τ1 ee
          subst ee
          refine st_aload_n hc dX11_take_158 rfl rfl ?_
          refine st_callVq hc dX11_take_159 (C11_sortOfHand hRel) mvX11_171 (by omega) rfl rfl rfl (Nat.le_of_ble_eq_true rfl) ?_
          rintro τ2 j2
          refine st_iret (st := []) hc dX11_take_162 rfl ?_
          rw [e]
          exact ⟨rfl, hRel.eqD j2⟩
        · exact absurd (nI_le (Nat.le_refl _) (by omega)) h110
      · generalize hρ : va_up σ 18 (rng 0 t (tkV μ D (nat i)) (σ 18)) = ρ at *
        have r1 : ∀ a, ¬ a = 18 → ρ a = σ a := fun a ha => by rw [← hρ, vu_n ha]
        have hpa := C7_pegAt 60 ρ (i := nat i + t) hs (by omega)
        rw [r1 _ (by omega), r1 _ (by omega), hpv t ht] at hpa
        refine st_iload hc dX11_take_101 rfl ?_
        refine st_aload_n hc dX11_take_103 rfl rfl ?_
        refine st_getr hc dX11_take_104 flX11_12 rfl rfl ?_
        refine st_getE hc dX11_take_107 flX11_162 rfl rfl ((by rw [r1 1 (by decide)]; exact g1 : _ = nI (pN μ))) ?_
        refine st_icmp_ge (tgt := 137) hc dX11_take_110 (by decide) (fun h110 => ?_) (fun h110 => ?_)
        · exact absurd h110 (nI_ge ht (by omega))
        · refine st_aload_n hc dX11_take_113 rfl rfl ?_
          refine st_getr hc dX11_take_114 flX11_28 rfl rfl ?_
          refine st_getr hc dX11_take_117 flX11_158 rfl rfl ?_
          refine st_iload hc dX11_take_120 rfl ?_
          refine st_aload_n hc dX11_take_122 rfl rfl ?_
          refine st_iload_n hc dX11_take_123 rfl rfl ?_
          refine st_iload hc dX11_take_124 rfl ?_
          refine st_iadd hc dX11_take_126 ?_
          rw [ei]
          refine st_callVp hc dX11_take_127 (hpa) mvX11_377 (by omega) rfl hs.1 rfl (Nat.le_of_ble_eq_true rfl) ?_
          refine st_iastN (k := t) hc dX11_take_130 rfl (rfl) (by omega) (by first | decide | omega)  ?_
          refine st_inc hc dX11_take_131 rfl (by decide) rfl ?_
          rw [nI_1]
          refine st_goto (tgt := 101) hc dX11_take_134 (by decide) ?_
          have es : up ρ 18 t (tkV μ D (nat i) t) = va_up σ 18 (rng 0 (t + 1) (tkV μ D (nat i)) (σ 18)) := by
            rw [← rng_s, Nat.zero_add, ← hρ]
            funext a b
            simp only [va_up, up_eq, upd]
            by_cases y : a = 18
            · subst y; simp; rfl
            · simp [y]
          rw [es]
          exact ih
    refine lpN (n := pN μ) (F := fun t => (∀ u, u < t → -1 ≤ tkV μ D (nat i) u ∧ tkV μ D (nat i) u < nI (cN μ)) → aW g YC 6 (fun r τ => r = some (.int (sp_take μ p i).1) ∧ Rel (k + 1) τ (sp_take μ p i).2) 59 [some (.ref 0), some (.int p), some (.int i), some (.ref (62 + 2 * D)), some (.int q), some (.int (nI t))] [] σ) (fun hok => ?_) (fun t ht ih hok => ?_) (fun u hu => absurd hu (Nat.not_lt_zero u))
    · refine st_iload hc dX11_take_59 rfl ?_
      refine st_aload_n hc dX11_take_61 rfl rfl ?_
      refine st_getr hc dX11_take_62 flX11_12 rfl rfl ?_
      refine st_getE hc dX11_take_65 flX11_162 rfl rfl (g1) ?_
      refine st_icmp_ge (tgt := 98) hc dX11_take_68 (by decide) (fun h68 => ?_) (fun h68 => ?_)
      · refine st_iconst (v := 0) hc dX11_take_98 (by decide) ?_
        refine st_istore hc dX11_take_99 (by decide) rfl ?_
        exact st_lvq _ (by simp [lvq, List.set, nI_0]) (k101 hok)
      · exact absurd (nI_le (Nat.le_refl _) (by omega)) h68
    · have hpa := C7_pegAt 60 σ (i := nat i + t) hs (by omega)
      rw [hpv t ht] at hpa
      refine st_iload hc dX11_take_59 rfl ?_
      refine st_aload_n hc dX11_take_61 rfl rfl ?_
      refine st_getr hc dX11_take_62 flX11_12 rfl rfl ?_
      refine st_getE hc dX11_take_65 flX11_162 rfl rfl (g1) ?_
      refine st_icmp_ge (tgt := 98) hc dX11_take_68 (by decide) (fun h68 => ?_) (fun h68 => ?_)
      · exact absurd h68 (nI_ge ht (by omega))
      · refine st_aload_n hc dX11_take_71 rfl rfl ?_
        refine st_getr hc dX11_take_72 flX11_12 rfl rfl ?_
        refine st_aload_n hc dX11_take_75 rfl rfl ?_
        refine st_iload_n hc dX11_take_76 rfl rfl ?_
        refine st_iload hc dX11_take_77 rfl ?_
        refine st_iadd hc dX11_take_79 ?_
        rw [ei]
        refine st_callVp hc dX11_take_80 (hpa) mvX11_377 (by omega) rfl hs.1 rfl (Nat.le_of_ble_eq_true rfl) ?_
        refine st_callVp hc dX11_take_83 (C0_isPeg 60 σ g2 (tkV μ D (nat i) t)) mvX11_155 (by omega) rfl rfl rfl (Nat.le_of_ble_eq_true rfl) ?_
        refine st_if_ne (tgt := 92) hc dX11_take_86 (by decide) (fun h86 => ?_) (fun h86 => ?_)
        · have hyes := of_decide_eq_true (bI_t h86)
          refine st_inc hc dX11_take_92 rfl (by decide) rfl ?_
          rw [nI_1]
          refine st_goto (tgt := 59) hc dX11_take_95 (by decide) ?_
          refine ih (fun u hu => ?_)
          rcases Nat.lt_succ_iff_lt_or_eq.mp hu with y | y
          · exact hok u y
          · subst y; exact hyes
        · have hno := of_decide_eq_false (bI_0.mp h86)
          have hb : tkBad μ D (nat i) = true := (anyN_iff _ _).mpr ⟨t, ht, decide_eq_true (Decidable.of_not_not (fun y => hno ((tk_ok hV hD (by omega) f3 f4 u1).mpr y)))⟩
          refine st_bipush (v := (-16)) hc dX11_take_89 (by decide) ?_
          refine st_iret (st := []) hc dX11_take_91 rfl ?_
          rw [hbad hb]
          exact ⟨rfl, h.t⟩
  refine st_iload_n hc dX11_take_0 rfl rfl ?_
  refine st_callSp hc dX11_take_1 (C11_isShelf 60 σ p) msX11_331 (by omega) rfl rfl (Nat.le_of_ble_eq_true rfl) ?_
  refine st_if_ne (tgt := 9) hc dX11_take_4 (by decide) (fun h4 => ?_) (fun h4 => ?_)
  · have hin := of_decide_eq_true (bI_t h4)
    obtain ⟨ep, hD⟩ := sh_n hin
    have hex : ¬ ¬ (0 ≤ p ∧ p ≤ 5) := fun q => q hin
    have hs := shY_d hD
    obtain ⟨v1, v2, v3, v4, v5, v6, v7⟩ := hV (nat p) hD
    obtain ⟨l0, l60⟩ := h.1.1.2.2.2.1 (nat p) hD
    refine st_aload_n hc dX11_take_9 rfl rfl ?_
    refine st_getr hc dX11_take_10 flX11_81 rfl rfl ?_
    refine st_iload_n hc dX11_take_13 rfl rfl ?_
    refine st_aaldN (k := nat p) hc dX11_take_14 rfl (ep) (by omega) (by first | decide | omega) (sh_q hD) ?_
    refine st_astore_n hc dX11_take_15 rfl (by decide) rfl ?_
    refine st_aload_n hc dX11_take_16 rfl rfl ?_
    refine st_callVp hc dX11_take_17 (C7_whyNoRow 60 σ hs) mvX11_344 (by omega) rfl hs.1 rfl (Nat.le_of_ble_eq_true rfl) ?_
    rw [v1]
    refine st_istore hc dX11_take_20 (by decide) rfl ?_
    refine st_iload hc dX11_take_22 rfl ?_
    refine st_if_eq (tgt := 34) hc dX11_take_24 (by decide) (fun h24 => ?_) (fun h24 => ?_)
    · have q0 : ¬ μ 34 (nat p) = 0 := fun q => by rw [if_pos q] at h24; cases h24
      have q4 : ¬ μ 34 (nat p) = 4 := fun q => by rw [if_neg q0, if_pos q] at h24; cases h24
      refine st_aload_n hc dX11_take_34 rfl rfl ?_
      refine st_iload_n hc dX11_take_35 rfl rfl ?_
      refine st_aload_n hc dX11_take_36 rfl rfl ?_
      refine st_getr hc dX11_take_37 flX11_12 rfl rfl ?_
      refine st_getE hc dX11_take_40 flX11_162 rfl rfl (g1) ?_
      refine st_callVp hc dX11_take_43 (C7_hasCells 60 σ hs (v2.trans (nI_nat l0).symm) l60 i (nI (pN μ))) mvX11_347 (by omega) rfl hs.1 rfl (Nat.le_of_ble_eq_true rfl) ?_
      refine st_if_ne (tgt := 56) hc dX11_take_46 (by decide) (fun h46 => ?_) (fun h46 => ?_)
      · obtain ⟨-, i0, iN⟩ := of_decide_eq_true (bI_t h46)
        rw [nat_nI (by omega)] at iN
        have e1 : tkBad μ (nat p) (nat i) = true → sp_take μ p i = (-16, t0 μ) := fun z => (if_neg hex).trans ((if_neg q0).trans ((if_neg q4).trans ((if_neg (fun y => by rcases y with y | y; exact absurd y (Int32.not_lt.mpr i0); omega)).trans (if_pos z))))
        have e2 : tkBad μ (nat p) (nat i) = false → sp_take μ p i = (sortS (tkS μ (nat p) (nat i)), tkS μ (nat p) (nat i)) := fun z => (if_neg hex).trans ((if_neg q0).trans ((if_neg q4).trans ((if_neg (fun y => by rcases y with y | y; exact absurd y (Int32.not_lt.mpr i0); omega)).trans (if_neg (by rw [z]; decide)))))
        refine st_iconst (v := 0) hc dX11_take_56 (by decide) ?_
        refine st_istore hc dX11_take_57 (by decide) rfl ?_
        exact st_lvq _ (by simp [lvq, List.set, nI_0]) (kk (nat p) (if μ 34 (nat p) = 0 then -11 else if μ 34 (nat p) = 4 then -12 else 0) hD i0 (by omega) e1 e2)
      · have hno := of_decide_eq_false (bI_0.mp h46)
        have e : sp_take μ p i = (-13, fnd μ) := (if_neg hex).trans ((if_neg q0).trans ((if_neg q4).trans (if_pos (by
          by_cases y2 : i < 0
          · exact Or.inl y2
          by_cases y3 : nat (μ 35 (nat p)) < nat i + pN μ
          · exact Or.inr y3
          · exact absurd ⟨nI_le (a := 0) (Nat.zero_le _) (by omega), Int32.not_lt.mp y2, by rw [nat_nI (by omega)]; exact Nat.not_lt.mp y3⟩ hno))))
        refine st_aload_n hc dX11_take_49 rfl rfl ?_
        refine st_bipush (v := (-13)) hc dX11_take_50 (by decide) ?_
        refine st_callVq hc dX11_take_52 (C11_refused 60 σ (-13)) mvX11_151 (by omega) rfl rfl rfl (Nat.le_of_ble_eq_true rfl) ?_
        rintro τ1 ee
        subst ee
        refine st_iret (st := []) hc dX11_take_55 rfl ?_
        rw [e]
        exact ⟨rfl, h.fd⟩
    · have e : sp_take μ p i = ((if μ 34 (nat p) = 0 then -11 else if μ 34 (nat p) = 4 then -12 else 0), fnd μ) := by
        unfold sp_take
        rw [if_neg hex]
        by_cases q0 : μ 34 (nat p) = 0
        · rw [if_pos q0, if_pos q0]
        · rw [if_neg q0, if_neg q0]
          by_cases q4 : μ 34 (nat p) = 4
          · rw [if_pos q4, if_pos q4]
          · exfalso; rw [if_neg q0, if_neg q4] at h24; exact h24 rfl
      refine st_aload_n hc dX11_take_27 rfl rfl ?_
      refine st_iload hc dX11_take_28 rfl ?_
      refine st_callVq hc dX11_take_30 (C11_refused 60 σ _) mvX11_151 (by omega) rfl rfl rfl (Nat.le_of_ble_eq_true rfl) ?_
      rintro τ1 ee
      subst ee
      refine st_iret (st := []) hc dX11_take_33 rfl ?_
      rw [e]
      exact ⟨rfl, h.fd⟩
  · have e : sp_take μ p i = (-1, t0 μ) := if_pos (of_decide_eq_false (bI_0.mp h4))
    refine st_iconst (v := (-1)) hc dX11_take_7 (by decide) ?_
    refine st_iret (st := []) hc dX11_take_8 rfl ?_
    rw [e]
    exact ⟨rfl, h.t⟩

