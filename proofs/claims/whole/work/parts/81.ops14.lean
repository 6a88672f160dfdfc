/-! ===== calls of the class: shelves, 2 ===== -/
theorem C11_rack {k : Nat} {σ μ : St} (h : Rel k σ μ) (p s n : Int32) : Mt YC mX11_rack 70 [.ref 0, .int p, .int s, .int n] σ (fun r τ => r = some (.int (sp_rack μ p s n).1) ∧ Rel (k + 1) τ (sp_rack μ p s n).2) := by
  have hV : rlV σ μ := h.1.2.2.2.2.2.2.2.2.2
  refine Mt.ofA [some (.ref 0), some (.int p), some (.int s), some (.int n)] (by decide) (fun _ => Nat.le_of_ble_eq_true rfl) (fun _ => rfl) (fun g hc => ?_)
  refine st_iload_n hc dX11_rack_0 rfl rfl ?_
  refine st_callSp hc dX11_rack_1 (C11_isShelf 60 σ p) msX11_331 (by omega) rfl rfl (Nat.le_of_ble_eq_true rfl) ?_
  refine st_if_eq (tgt := 23) hc dX11_rack_4 (by decide) (fun h4 => ?_) (fun h4 => ?_)
  · have e : sp_rack μ p s n = (-1, t0 μ) := if_pos (Or.inl (of_decide_eq_false (bI_0.mp h4)))
    refine st_iconst (v := (-1)) hc dX11_rack_23 (by decide) ?_
    refine st_iret (st := []) hc dX11_rack_24 rfl ?_
    rw [e]
    exact ⟨rfl, h.t⟩
  · have hin := of_decide_eq_true (bI_t h4)
    obtain ⟨ep, hD⟩ := sh_n hin
    refine st_iload_n hc dX11_rack_7 rfl rfl ?_
    refine st_iconst (v := 1) hc dX11_rack_8 (by decide) ?_
    refine st_icmp_lt (tgt := 23) hc dX11_rack_9 (by decide) (fun h9 => ?_) (fun h9 => ?_)
    · have e : sp_rack μ p s n = (-1, t0 μ) := if_pos (Or.inr (Or.inl (fun q => absurd h9 (Int32.not_lt.mpr q.1))))
      refine st_iconst (v := (-1)) hc dX11_rack_23 (by decide) ?_
      refine st_iret (st := []) hc dX11_rack_24 rfl ?_
      rw [e]
      exact ⟨rfl, h.t⟩
    · have h9 := Int32.not_lt.mp h9
      refine st_iload_n hc dX11_rack_12 rfl rfl ?_
      refine st_iconst (v := 3) hc dX11_rack_13 (by decide) ?_
      refine st_icmp_gt (tgt := 23) hc dX11_rack_14 (by decide) (fun h14 => ?_) (fun h14 => ?_)
      · have e : sp_rack μ p s n = (-1, t0 μ) := if_pos (Or.inr (Or.inl (fun q => absurd h14 (Int32.not_lt.mpr q.2))))
        refine st_iconst (v := (-1)) hc dX11_rack_23 (by decide) ?_
        refine st_iret (st := []) hc dX11_rack_24 rfl ?_
        rw [e]
        exact ⟨rfl, h.t⟩
      · have h14 := Int32.not_lt.mp h14
        refine st_iload_n hc dX11_rack_17 rfl rfl ?_
        refine st_bipush (v := 60) hc dX11_rack_18 (by decide) ?_
        refine st_icmp_le (tgt := 25) hc dX11_rack_20 (by decide) (fun h20 => ?_) (fun h20 => ?_)
        · have hex : ¬ (¬ (0 ≤ p ∧ p ≤ 5) ∨ ¬ (1 ≤ s ∧ s ≤ 3) ∨ 60 < n) := fun q => by
            rcases q with q | q | q
            · exact q hin
            · exact q ⟨h9, h14⟩
            · exact absurd q (Int32.not_lt.mpr h20)
          refine st_iload_n hc dX11_rack_25 rfl rfl ?_
          refine st_if_ge (tgt := 36) hc dX11_rack_26 (by decide) (fun h26 => ?_) (fun h26 => ?_)
          · have e : sp_rack μ p s n = (n, va_up (up (up (t0 μ) 34 (nat p) s) 35 (nat p) n) 36 (rng (60 * nat p) 60 (fun _ => 0) (μ 36))) := (if_neg hex).trans (if_neg (Int32.not_lt.mpr h26))
            obtain ⟨v1, v2, v3, v4, v5, v6⟩ := hV (nat p) hD
            refine st_aload_n hc dX11_rack_36 rfl rfl ?_
            refine st_getr hc dX11_rack_37 flX11_81 rfl rfl ?_
            refine st_iload_n hc dX11_rack_40 rfl rfl ?_
            refine st_aaldN (k := nat p) hc dX11_rack_41 rfl (ep) (by omega) (by first | decide | omega) (sh_q hD) ?_
            refine st_iload_n hc dX11_rack_42 rfl rfl ?_
            refine st_iload_n hc dX11_rack_43 rfl rfl ?_
            refine st_callVn hc dX11_rack_44 (C7_holdRow 60 σ (shY_d hD) s n) mvX11_334 (by omega) rfl (shY_d hD).1 rfl (Nat.le_of_ble_eq_true rfl) ?_
            rintro τ1 ee
            subst ee
            refine st_iload_n hc dX11_rack_47 rfl rfl ?_
            refine st_iret (st := []) hc dX11_rack_48 rfl ?_
            rw [e]
            refine ⟨rfl, ?_⟩
            show Rel (k + 1) _ (va_up (up (up (up μ 0 15 0) 34 (nat p) s) 35 (nat p) n) 36 (rng (60 * nat p) 60 (fun _ => 0) (μ 36)))
            generalize hν : va_up (up (up (up μ 0 15 0) 34 (nat p) s) 35 (nat p) n) 36 (rng (60 * nat p) 60 (fun _ => 0) (μ 36)) = ν
            have c : ∀ a, ¬ (34 ≤ a ∧ a ≤ 36) → ¬ a = 0 → ν a = μ a := fun a ha h0 => by rw [← hν, vu_n (by omega), up_o a (by omega), up_o a (by omega), up_o a h0]
            have z : ∀ b, ¬ b = 15 → ν 0 b = μ 0 b := fun b hb => by rw [← hν, vu_n (by decide), up_o 0 (by decide), up_o 0 (by decide), up_eq, if_neg (fun q => hb q.2)]
            have c34 : ∀ d, ν 34 d = if d = nat p then s else μ 34 d := fun d => by rw [← hν]; simp [va_up, up_eq]
            have c35 : ∀ d, ν 35 d = if d = nat p then n else μ 35 d := fun d => by rw [← hν]; simp [va_up, up_eq]
            have c36 : ν 36 = rng (60 * nat p) 60 (fun _ => 0) (μ 36) := by rw [← hν, vu_s]
            have es : ∃ x, x ≤ 3 ∧ s = nI x := ⟨nat s, by
              have h0 : 0 ≤ s := Int32.le_trans (by decide) h9
              have q := h14
              rw [← nI_nat h0] at q
              exact (nI_leI (b := 3) (nat_lt s) (by decide)).mp q, (nI_nat (Int32.le_trans (by decide) h9)).symm⟩
            refine h.sv (fun a ha => by rw [vu_n (by omega), up_o a (by omega), up_o a (by omega)]) (fun a b ha hb => ?_) (fun d hd => ?_) (rlV_k (D := nat p) hV (fun a h1 h2 => by rw [vu_n h2, up_o a h1, up_o a h1]) (fun d hd => ?_) (fun d hd => ?_) (fun d hd => ?_) (fun d hd i hi => ?_) h.1.1.2.2.2.1 ?_ ?_ ?_ (fun i hi => ?_) ?_ (fun q => ?_) (fun q x hx => ?_))
            · by_cases q : a = 0
              · subst q; exact z b (fun q => hb ⟨rfl, q⟩)
              · rw [c a (by omega) q]
            · rw [c35]
              split
              · refine ⟨h26, ?_⟩
                have q := h20
                rw [← nI_nat h26] at q
                exact (nI_leI (b := 60) (nat_lt n) (by decide)).mp q
              · exact h.1.1.2.2.2.1 d hd
            · rw [c34, if_neg hd]
            · rw [c35, if_neg hd]
            · rw [c 37 (by decide) (by decide)]
            · rw [c36]; unfold rng; rw [if_neg (by omega)]
            · rw [c34, if_pos rfl, vu_n (by omega)]; simp [up_eq]
            · rw [c35, if_pos rfl, vu_n (by omega)]; simp [up_eq]
            · rw [c 37 (by decide) (by decide), vu_n (by omega), up_eq, if_neg (by omega), up_eq, if_neg (by omega)]; exact v3
            · rw [vu_s, c36]
              unfold clr rng
              rw [if_pos hi, if_pos (by omega)]
            · obtain ⟨x, x1, x2⟩ := es
              exact ⟨x, by omega, by rw [c34, if_pos rfl]; exact x2⟩
            · exfalso
              obtain ⟨x, x1, x2⟩ := es
              rw [c34, if_pos rfl, x2] at q
              have := nI_inj (b := 4) (by omega) (by decide) q
              omega
            · rw [c36]
              unfold rng
              rw [if_pos (by omega)]
              show ¬ (0 : Int32) = -1
              decide
          · have e : sp_rack μ p s n = (-14, fnd μ) := (if_neg hex).trans (if_pos (Int32.not_le.mp h26))
            refine st_aload_n hc dX11_rack_29 rfl rfl ?_
            refine st_bipush (v := (-14)) hc dX11_rack_30 (by decide) ?_
            refine st_callVq hc dX11_rack_32 (C11_refused 60 σ (-14)) mvX11_151 (by omega) rfl rfl rfl (Nat.le_of_ble_eq_true rfl) ?_
            rintro τ1 ee
            subst ee
            refine st_iret (st := []) hc dX11_rack_35 rfl ?_
            rw [e]
            exact ⟨rfl, h.fd⟩
        · have e : sp_rack μ p s n = (-1, t0 μ) := if_pos (Or.inr (Or.inr (Int32.not_le.mp h20)))
          refine st_iconst (v := (-1)) hc dX11_rack_23 (by decide) ?_
          refine st_iret (st := []) hc dX11_rack_24 rfl ?_
          rw [e]
          exact ⟨rfl, h.t⟩
theorem narw2 (v : Int32) : ¬ narw 2 v = -1 := by
  unfold narw
  rw [if_neg (by decide), if_pos rfl]
  intro q
  have h1 : (v &&& 65535).toBitVec = (-1 : Int32).toBitVec := by rw [q]
  rw [Int32.toBitVec_and] at h1
  have h2 := congrArg (fun b : BitVec 32 => b.getLsbD 31) h1
  simp [BitVec.getLsbD_and] at h2
theorem C11_put {k : Nat} {σ μ : St} (h : Rel k σ μ) (p i v : Int32) : Mt YC mX11_put 70 [.ref 0, .int p, .int i, .int v] σ (fun r τ => r = some (.int (sp_put μ p i v).1) ∧ Rel (k + 1) τ (sp_put μ p i v).2) := by
  have hV : rlV σ μ := h.1.2.2.2.2.2.2.2.2.2
  refine Mt.ofA [some (.ref 0), some (.int p), some (.int i), some (.int v), none, none, none] (by decide) (fun _ => Nat.le_of_ble_eq_true rfl) (fun _ => rfl) (fun g hc => ?_)
  refine st_iload_n hc dX11_put_0 rfl rfl ?_
  refine st_callSp hc dX11_put_1 (C11_isShelf 60 σ p) msX11_331 (by omega) rfl rfl (Nat.le_of_ble_eq_true rfl) ?_
  refine st_if_ne (tgt := 9) hc dX11_put_4 (by decide) (fun h4 => ?_) (fun h4 => ?_)
  · have hin := of_decide_eq_true (bI_t h4)
    obtain ⟨ep, hD⟩ := sh_n hin
    have hex : ¬ ¬ (0 ≤ p ∧ p ≤ 5) := fun q => q hin
    have hs := shY_d hD
    obtain ⟨hyo, hyc, hne, -, -⟩ := id hs
    obtain ⟨v1, v2, v3, v4, ⟨hk, hk4, hke⟩, v6, v7⟩ := hV (nat p) hD
    obtain ⟨l0, l60⟩ := h.1.1.2.2.2.1 (nat p) hD
    refine st_aload_n hc dX11_put_9 rfl rfl ?_
    refine st_getr hc dX11_put_10 flX11_81 rfl rfl ?_
    refine st_iload_n hc dX11_put_13 rfl rfl ?_
    refine st_aaldN (k := nat p) hc dX11_put_14 rfl (ep) (by omega) (by first | decide | omega) (sh_q hD) ?_
    refine st_astore hc dX11_put_15 (by decide) rfl ?_
    refine st_aload hc dX11_put_17 rfl ?_
    refine st_callVp hc dX11_put_19 (C7_whyNoRow 60 σ hs) mvX11_344 (by omega) rfl hyo rfl (Nat.le_of_ble_eq_true rfl) ?_
    rw [v1]
    refine st_istore hc dX11_put_22 (by decide) rfl ?_
    refine st_iload hc dX11_put_24 rfl ?_
    refine st_if_eq (tgt := 36) hc dX11_put_26 (by decide) (fun h26 => ?_) (fun h26 => ?_)
    · have q0 : ¬ μ 34 (nat p) = 0 := fun q => by rw [if_pos q] at h26; cases h26
      have q4 : ¬ μ 34 (nat p) = 4 := fun q => by rw [if_neg q0, if_pos q] at h26; cases h26
      refine st_aload hc dX11_put_36 rfl ?_
      refine st_iload_n hc dX11_put_38 rfl rfl ?_
      refine st_iconst (v := 1) hc dX11_put_39 (by decide) ?_
      refine st_callVp hc dX11_put_40 (C7_hasCells 60 σ hs (v2.trans (nI_nat l0).symm) l60 i 1) mvX11_347 (by omega) rfl hyo rfl (Nat.le_of_ble_eq_true rfl) ?_
      refine st_if_ne (tgt := 53) hc dX11_put_43 (by decide) (fun h43 => ?_) (fun h43 => ?_)
      · obtain ⟨-, i0, iN⟩ := of_decide_eq_true (bI_t h43)
        have iN : nat i < nat (μ 35 (nat p)) := by have : nat (1 : Int32) = 1 := rfl; omega
        have e : sp_put μ p i v = (μ 36 (60 * nat p + nat i), up (t0 μ) 36 (60 * nat p + nat i) (narw (μ 34 (nat p)) v)) := (if_neg hex).trans ((if_neg q0).trans ((if_neg q4).trans (if_neg (fun q => q ⟨i0, iN⟩))))
        have hk4' : hk < 4 := by
          rcases Nat.lt_or_eq_of_le hk4 with q | q
          · exact q
          · rw [q] at hke; exact absurd hke q4
        refine st_aload hc dX11_put_53 rfl ?_
        refine st_getr hc dX11_put_55 flX11_351 hyo rfl ?_
        refine st_iload_n hc dX11_put_58 rfl rfl ?_
        refine st_ialdN (k := nat i) hc dX11_put_59 hyc ((nI_nat i0).symm) (by omega) (by first | decide | omega) (v4 (nat i) (by omega)) ?_
        refine st_istore hc dX11_put_60 (by decide) rfl ?_
        refine st_aload hc dX11_put_62 rfl ?_
        refine st_getr hc dX11_put_64 flX11_351 hyo rfl ?_
        refine st_iload_n hc dX11_put_67 rfl rfl ?_
        refine st_aload hc dX11_put_68 rfl ?_
        refine st_iload_n hc dX11_put_70 rfl rfl ?_
        refine st_callVp hc dX11_put_71 (C7_narrowed 60 σ hs (v1.trans hke) hk4' v) mvX11_354 (by omega) rfl hyo rfl (Nat.le_of_ble_eq_true rfl) ?_
        rw [← hke]
        refine st_iastN (k := nat i) hc dX11_put_74 hyc ((nI_nat i0).symm) (by omega) (by first | decide | omega)  ?_
        refine st_iload hc dX11_put_75 rfl ?_
        refine st_iret (st := []) hc dX11_put_77 rfl ?_
        rw [e]
        refine ⟨rfl, ?_⟩
        show Rel (k + 1) _ (up (up μ 0 15 0) 36 (60 * nat p + nat i) (narw (μ 34 (nat p)) v))
        refine h.sv (fun a ha => up_o a (by omega)) (fun a b ha hb => ?_) (fun d hd => ?_) (rlV_k (D := nat p) hV (fun a h1 h2 => up_o a h2) (fun d hd => ?_) (fun d hd => ?_) (fun d hd => ?_) (fun d hd j hj => ?_) h.1.1.2.2.2.1 ?_ ?_ ?_ (fun j hj => ?_) ?_ (fun q => ?_) (fun q x hx => ?_))
        · rw [up_o a (by omega), up_eq, if_neg hb]
        · rw [up_o 35 (by decide), up_o 35 (by decide)]; exact h.1.1.2.2.2.1 d hd
        · rw [up_o 34 (by decide), up_o 34 (by decide)]
        · rw [up_o 35 (by decide), up_o 35 (by decide)]
        · rw [up_o 37 (by decide), up_o 37 (by decide)]
        · rw [up_eq, if_neg (by omega), up_o 36 (by decide)]
        · rw [up_o 34 (by decide), up_o 34 (by decide), up_o _ (by omega)]; exact v1
        · rw [up_o 35 (by decide), up_o 35 (by decide), up_o _ (by omega)]; exact v2
        · rw [up_o 37 (by decide), up_o 37 (by decide), up_o _ (by omega)]; exact v3
        · rw [up_eq, up_eq]
          by_cases z : j = nat i
          · rw [if_pos ⟨rfl, z⟩, if_pos ⟨rfl, by omega⟩]
          · rw [if_neg (fun q => z q.2), if_neg (by omega), up_o 36 (by decide)]; exact v4 j hj
        · exact ⟨hk, hk4, by rw [up_o 34 (by decide), up_o 34 (by decide)]; exact hke⟩
        · exfalso; rw [up_o 34 (by decide), up_o 34 (by decide)] at q; exact q4 q
        · rw [up_o 34 (by decide), up_o 34 (by decide)] at q
          rw [up_eq]
          by_cases z : 36 = 36 ∧ 60 * nat p + x = 60 * nat p + nat i
          · rw [if_pos z, q]
            exact narw2 v
          · rw [if_neg z, up_o 36 (by decide)]; exact v7 q x hx
      · have hno := of_decide_eq_false (bI_0.mp h43)
        have e : sp_put μ p i v = (-13, fnd μ) := (if_neg hex).trans ((if_neg q0).trans ((if_neg q4).trans (if_pos (fun q => hno ⟨by decide, q.1, by have : nat (1 : Int32) = 1 := rfl; omega⟩))))
        refine st_aload_n hc dX11_put_46 rfl rfl ?_
        refine st_bipush (v := (-13)) hc dX11_put_47 (by decide) ?_
        refine st_callVq hc dX11_put_49 (C11_refused 60 σ (-13)) mvX11_151 (by omega) rfl rfl rfl (Nat.le_of_ble_eq_true rfl) ?_
        rintro τ1 ee
        subst ee
        refine st_iret (st := []) hc dX11_put_52 rfl ?_
        rw [e]
        exact ⟨rfl, h.fd⟩
    · have e : sp_put μ p i v = ((if μ 34 (nat p) = 0 then -11 else if μ 34 (nat p) = 4 then -12 else 0), fnd μ) := by
        unfold sp_put
        rw [if_neg hex]
        by_cases q0 : μ 34 (nat p) = 0
        · rw [if_pos q0, if_pos q0]
        · rw [if_neg q0, if_neg q0]
          by_cases q4 : μ 34 (nat p) = 4
          · rw [if_pos q4, if_pos q4]
          · exfalso; rw [if_neg q0, if_neg q4] at h26; exact h26 rfl
      refine st_aload_n hc dX11_put_29 rfl rfl ?_
      refine st_iload hc dX11_put_30 rfl ?_
      refine st_callVq hc dX11_put_32 (C11_refused 60 σ _) mvX11_151 (by omega) rfl rfl rfl (Nat.le_of_ble_eq_true rfl) ?_
      rintro τ1 ee
      subst ee
      refine st_iret (st := []) hc dX11_put_35 rfl ?_
      rw [e]
      exact ⟨rfl, h.fd⟩
  · have e : sp_put μ p i v = (-1, t0 μ) := if_pos (of_decide_eq_false (bI_0.mp h4))
    refine st_iconst (v := (-1)) hc dX11_put_7 (by decide) ?_
    refine st_iret (st := []) hc dX11_put_8 rfl ?_
    rw [e]
    exact ⟨rfl, h.t⟩

