/-! ===== the class: a new play, parts, the survey ===== -/
abbrev saS (σ : St) (N : Nat) : St := up (up (up (up (va_up (va_up σ 13 (clr N 0 (σ 13))) 15 (clr N 0 (σ 15))) 7 11 0) 7 10 0) 7 14 0) 7 15 (-1)
theorem C5_startAnew (d : Nat) (σ : St) {P C : Nat} (hb : bkI σ P C) : Mt YC mX5_startAnew (d + 4) [.ref 7] σ (fun r τ => r = none ∧ ∃ v, (∀ c, c < C ^ P → v c = 1) ∧ τ = flS (slS (saS σ (C ^ P)) (C ^ P) 0 0 (fun _ => true) v) (C ^ P) (fun _ => true)) := by
  have h4 := hb.1.2.1
  have hs := hb.1.2.2.2.2
  refine Mt.ofA [some (.ref 7), none] (by decide) (fun _ => Nat.le_of_ble_eq_true rfl) (fun _ => rfl) (fun g hc => ?_)
  have hsl := C5_setLaw d (saS σ (C ^ P)) (P := P) (C := C) (lw := 0) (L := 0) (fb := fun _ => 0) (hb.eq (by funext i; simp [va_up, up_eq]) (by funext i; simp [va_up, up_eq]) (by funext i; simp [va_up, up_eq]) (by funext i; simp [va_up, up_eq])) (by decide) (fun c hc => Or.inl (by simp [va_up, up_eq, clr, hc])) (by simp [up_eq, nI_0]) (by decide) (fun c hc => ⟨by simp [va_up, up_eq, clr, hc, nI_0], by decide⟩) 0
  have eo : okLaw P C (nI 0) 0 (saS σ (C ^ P) 13) = fun _ => true := by funext c; unfold okLaw; rw [if_pos (by decide)]
  have el : lf (fun _ => true) (fun _ => 0) 0 = fun _ => true := by funext c; show (true && decide (ones 0 ≤ 0)) = true; decide
  rw [eo, el, nI_0] at hsl
  have k2 : aW g YC 2 (fun r τ => r = none ∧ ∃ v, (∀ c, c < C ^ P → v c = 1) ∧ τ = flS (slS (saS σ (C ^ P)) (C ^ P) 0 0 (fun _ => true) v) (C ^ P) (fun _ => true)) 2 [some (.ref 7), some (.int (nI 0))] [] (va_up (va_up σ 13 (clr 0 0 (σ 13))) 15 (clr 0 0 (σ 15))) := by
    refine lpN (n := C ^ P) (F := fun k => aW g YC 2 (fun r τ => r = none ∧ ∃ v, (∀ c, c < C ^ P → v c = 1) ∧ τ = flS (slS (saS σ (C ^ P)) (C ^ P) 0 0 (fun _ => true) v) (C ^ P) (fun _ => true)) 2 [some (.ref 7), some (.int (nI k))] [] (va_up (va_up σ 13 (clr k 0 (σ 13))) 15 (clr k 0 (σ 15)))) ?_ (fun k hk ih => ?_)
    · refine st_iload_n hc dX5_startAnew_2 rfl rfl ?_
      refine st_aload_n hc dX5_startAnew_3 rfl rfl ?_
      refine st_getr hc dX5_startAnew_4 flX5_38 rfl rfl ?_
      refine st_getE hc dX5_startAnew_7 flX5_42 rfl rfl ((by simp [va_up, hs] : _ = nI (C ^ P))) ?_
      refine st_icmp_ge (tgt := 33) hc dX5_startAnew_10 (by decide) (fun h10 => ?_) (fun h10 => ?_)
      · refine st_aload_n hc dX5_startAnew_33 rfl rfl ?_
        refine st_iconst (v := 0) hc dX5_startAnew_34 (by decide) ?_
        refine st_put hc dX5_startAnew_35 fpX5_48 rfl rfl  ?_
        refine st_aload_n hc dX5_startAnew_38 rfl rfl ?_
        refine st_iconst (v := 0) hc dX5_startAnew_39 (by decide) ?_
        refine st_put hc dX5_startAnew_40 fpX5_51 rfl rfl  ?_
        refine st_aload_n hc dX5_startAnew_43 rfl rfl ?_
        refine st_iconst (v := 0) hc dX5_startAnew_44 (by decide) ?_
        refine st_put hc dX5_startAnew_45 fpX5_54 rfl rfl  ?_
        refine st_aload_n hc dX5_startAnew_48 rfl rfl ?_
        refine st_iconst (v := (-1)) hc dX5_startAnew_49 (by decide) ?_
        refine st_put hc dX5_startAnew_50 fpX5_57 rfl rfl  ?_
        refine st_aload_n hc dX5_startAnew_53 rfl rfl ?_
        refine st_iconst (v := 0) hc dX5_startAnew_54 (by decide) ?_
        refine st_iconst (v := 0) hc dX5_startAnew_55 (by decide) ?_
        refine st_callVn hc dX5_startAnew_56 (hsl) mvX5_60 (by omega) rfl rfl rfl (Nat.le_of_ble_eq_true rfl) ?_
        rintro τ1 ⟨v, hv, e⟩
        subst e
        refine st_vret (st := []) hc dX5_startAnew_59 rfl ?_
        exact ⟨rfl, v, fun c hc => by rw [hv c hc]; rfl, rfl⟩
      · exact absurd (nI_le (Nat.le_refl _) (by omega)) h10
    · refine st_iload_n hc dX5_startAnew_2 rfl rfl ?_
      refine st_aload_n hc dX5_startAnew_3 rfl rfl ?_
      refine st_getr hc dX5_startAnew_4 flX5_38 rfl rfl ?_
      refine st_getE hc dX5_startAnew_7 flX5_42 rfl rfl ((by simp [va_up, hs] : _ = nI (C ^ P))) ?_
      refine st_icmp_ge (tgt := 33) hc dX5_startAnew_10 (by decide) (fun h10 => ?_) (fun h10 => ?_)
      · exact absurd h10 (nI_ge hk (by omega))
      · refine st_aload_n hc dX5_startAnew_13 rfl rfl ?_
        refine st_getr hc dX5_startAnew_14 flX5_25 rfl rfl ?_
        refine st_iload_n hc dX5_startAnew_17 rfl rfl ?_
        refine st_iconst (v := 0) hc dX5_startAnew_18 (by decide) ?_
        refine st_zastN (k := k) hc dX5_startAnew_19 rfl (rfl) (by omega) (by first | decide | omega) (Or.inl rfl) ?_
        rw [vu_put (by decide), vu_up, clr_s]
        refine st_aload_n hc dX5_startAnew_20 rfl rfl ?_
        refine st_getr hc dX5_startAnew_21 flX5_32 rfl rfl ?_
        refine st_iload_n hc dX5_startAnew_24 rfl rfl ?_
        refine st_iconst (v := 0) hc dX5_startAnew_25 (by decide) ?_
        refine st_iastN (k := k) hc dX5_startAnew_26 rfl (rfl) (by omega) (by first | decide | omega)  ?_
        rw [vu_up, clr_s]
        refine st_inc hc dX5_startAnew_27 rfl (by decide) rfl ?_
        rw [nI_1]
        refine st_goto (tgt := 2) hc dX5_startAnew_30 (by decide) ?_
        exact ih
  rw [clr_0, clr_0, vu_id, vu_id] at k2
  refine st_iconst (v := 0) hc dX5_startAnew_0 (by decide) ?_
  refine st_istore_n hc dX5_startAnew_1 rfl (by decide) rfl ?_
  exact k2
theorem mxN_ge {f : Nat → Nat} : ∀ {n i : Nat}, i < n → f i ≤ mxN n f := by
  intro n
  induction n with
  | zero => intro i hi; omega
  | succ n ih =>
    intro i hi
    show f i ≤ if mxN n f < f n then f n else mxN n f
    by_cases e : i = n
    · subst e; split <;> omega
    · have := ih (i := i) (by omega)
      split <;> omega
theorem mxN_ex {f : Nat → Nat} : ∀ n, mxN n f = 0 ∨ ∃ i, i < n ∧ f i = mxN n f := by
  intro n
  induction n with
  | zero => exact Or.inl rfl
  | succ n ih =>
    have e : mxN (n + 1) f = if mxN n f < f n then f n else mxN n f := rfl
    rw [e]
    by_cases h : mxN n f < f n
    · rw [if_pos h]; exact Or.inr ⟨n, by omega, rfl⟩
    · rw [if_neg h]
      rcases ih with q | ⟨i, h1, h2⟩
      · exact Or.inl q
      · exact Or.inr ⟨i, by omega, h2⟩
theorem mxN_eq {f : Nat → Nat} {n b : Nat} (h1 : ∀ i, i < n → f i ≤ b) (h2 : b = 0 ∨ ∃ i, i < n ∧ f i = b) : mxN n f = b := by
  apply Nat.le_antisymm
  · exact mxN_le h1
  · rcases h2 with q | ⟨i, hi, q⟩
    · omega
    · rw [← q]; exact mxN_ge hi
theorem szA_s (n : Nat) (f : Nat → Nat) (a : Nat) : szA (n + 1) f a = szA n f a + (if f n = a then 1 else 0) := by
  show szA n f a + (if (f n == a) = true then 1 else 0) = _
  by_cases e : f n = a <;> simp [e]
theorem npA_s {n : Nat} {f : Nat → Nat} (h : f n < 60) : npA (n + 1) f = npA n f + (if szA n f (f n) = 0 then 1 else 0) := by
  unfold npA
  by_cases e : szA n f (f n) = 0
  · rw [if_pos e]
    refine cnt_upd1 h (by simp [e]) (by rw [szA_s, if_pos rfl]; simp) (fun i _ hne => by rw [szA_s, if_neg (fun q => hne q.symm), Nat.add_zero])
  · rw [if_neg e, Nat.add_zero]
    refine cnt_congr (n := 60) (p := fun a => decide (0 < szA (n + 1) f a)) (q := fun a => decide (0 < szA n f a)) (fun i _ => ?_)
    apply decide_eq_decide.mpr
    rw [szA_s]
    by_cases q : f n = i
    · rw [if_pos q, ← q]; omega
    · rw [if_neg q, Nat.add_zero]
theorem mxA_s {n : Nat} {f : Nat → Nat} (h : f n < 60) : mxN 60 (szA (n + 1) f) = if mxN 60 (szA n f) < szA (n + 1) f (f n) then szA (n + 1) f (f n) else mxN 60 (szA n f) := by
  apply mxN_eq
  · intro i hi
    rw [szA_s]
    have h1 := mxN_ge (f := szA n f) hi
    have h2 := szA_s n f (f n)
    rw [if_pos rfl] at h2
    by_cases q : f n = i
    · subst q; rw [if_pos rfl]; split <;> omega
    · rw [if_neg q]; split <;> omega
  · by_cases e : mxN 60 (szA n f) < szA (n + 1) f (f n)
    · rw [if_pos e]; exact Or.inr ⟨f n, h, rfl⟩
    · rw [if_neg e]
      rcases mxN_ex (f := szA n f) 60 with q | ⟨i, h1, h2⟩
      · exact Or.inl q
      · have h3 := szA_s n f (f n)
        rw [if_pos rfl] at h3
        refine Or.inr ⟨i, h1, ?_⟩
        have h4 : szA (n + 1) f i = szA n f i := by
          rw [szA_s]
          by_cases q : f n = i
          · subst q; omega
          · rw [if_neg q, Nat.add_zero]
        rw [h4, h2]
theorem szA_le (n : Nat) (f : Nat → Nat) (a : Nat) : szA n f a ≤ n := cnt_le n _
theorem npA_le (n : Nat) (f : Nat → Nat) : npA n f ≤ 60 := cnt_le 60 _
/-- the codes that are left, as the play has them -/
def lfI (σ : St) (N n : Nat) (Lk : Nat → Nat) : Prop := σ 7 13 = nI n ∧ n ≤ 4096 ∧ ∀ k, k < n → σ 16 k = nI (Lk k) ∧ Lk k < N
theorem lfI.eq {σ τ : St} {N n : Nat} {Lk : Nat → Nat} (h : lfI σ N n Lk) (h7 : τ 7 13 = σ 7 13) (h16 : τ 16 = σ 16) : lfI τ N n Lk := by
  unfold lfI at *
  rw [h7, h16]
  exact h
def dvS (σ : St) (n : Nat) (A : Nat → Nat) (τ : St) : Prop := (∀ a, ¬ (a = 19 ∨ a = 20) → τ a = σ a) ∧ τ 19 1 = nI (npA n A) ∧ τ 19 2 = nI (mxN 60 (szA n A)) ∧ ∀ a, a < 51 → τ 20 a = nI (szA n A a)
theorem C3_divide (d : Nat) (σ : St) {P C n : Nat} {Lk : Nat → Nat} (hb : bkI σ P C) (hl : lfI σ (C ^ P) n Lk) (w : Nat → Int32) : Mt YC mX3_divide (d + 2) [.ref 19, .ref 7, .int (nI (spotsN P C w)), .int (nI (sharesN P C w))] σ (fun r τ => r = none ∧ dvS σ n (fun k => ans P C w (Lk k)) τ) := by
  obtain ⟨l1, l2, l3⟩ := id hl
  have hP5 := hb.1.1.2.1
  have h50 : ∀ c, ans P C w c < 51 := fun c => by have := ans_50 hP5 (C := C) w c; omega
  refine Mt.ofA [some (.ref 19), some (.ref 7), some (.int (nI (spotsN P C w))), some (.int (nI (sharesN P C w))), none, none] (by decide) (fun _ => Nat.le_of_ble_eq_true rfl) (fun _ => rfl) (fun g hc => ?_)
  have k21 : ∀ τ, dvS σ 0 (fun k => ans P C w (Lk k)) τ → aW g YC 6 (fun r τ => r = none ∧ dvS σ n (fun k => ans P C w (Lk k)) τ) 21 [some (.ref 19), some (.ref 7), some (.int (nI (spotsN P C w))), some (.int (nI (sharesN P C w))), some (.int (nI 0)), none] [] τ := by
    refine lpN (n := n) (F := fun i => ∀ τ, dvS σ i (fun k => ans P C w (Lk k)) τ → aW g YC 6 (fun r τ => r = none ∧ dvS σ n (fun k => ans P C w (Lk k)) τ) 21 [some (.ref 19), some (.ref 7), some (.int (nI (spotsN P C w))), some (.int (nI (sharesN P C w))), some (.int (nI i)), none] [] τ) (fun τ hD => ?_) (fun i hi ih τ hD => ?_)
    · obtain ⟨d1, d2, d3, d4⟩ := id hD
      refine st_iload hc dX3_divide_21 rfl ?_
      refine st_aload_n hc dX3_divide_23 rfl rfl ?_
      refine st_getE hc dX3_divide_24 flX3_28 rfl rfl ((by rw [d1 7 (by omega)]; exact l1 : _ = nI n)) ?_
      refine st_icmp_ge (tgt := 111) hc dX3_divide_27 (by decide) (fun h27 => ?_) (fun h27 => ?_)
      · refine st_vret (st := []) hc dX3_divide_111 rfl ?_
        exact ⟨rfl, hD⟩
      · exact absurd (nI_le (Nat.le_refl _) (by omega)) h27
    · obtain ⟨d1, d2, d3, d4⟩ := id hD
      obtain ⟨m1, m2⟩ := l3 i hi
      have hC4 := hb.1.2.1
      have ha := h50 (Lk i)
      have hsz := szA_le i (fun k => ans P C w (Lk k)) (ans P C w (Lk i))
      have hnp := npA_s (n := i) (f := fun k => ans P C w (Lk k)) (by have := h50 (Lk i); omega)
      have hmx := mxA_s (n := i) (f := fun k => ans P C w (Lk k)) (by have := h50 (Lk i); omega)
      have hszs := szA_s i (fun k => ans P C w (Lk k)) (ans P C w (Lk i))
      have hmxl : mxN 60 (szA i (fun k => ans P C w (Lk k))) ≤ i := mxN_le (fun j _ => szA_le i _ j)
      simp only [if_true] at hszs
      rw [hszs] at hmx
      generalize hA : ans P C w (Lk i) = A at *
      generalize hZ : szA i (fun k => ans P C w (Lk k)) A = Z at *
      refine st_iload hc dX3_divide_21 rfl ?_
      refine st_aload_n hc dX3_divide_23 rfl rfl ?_
      refine st_getE hc dX3_divide_24 flX3_28 rfl rfl ((by rw [d1 7 (by omega)]; exact l1 : _ = nI n)) ?_
      refine st_icmp_ge (tgt := 111) hc dX3_divide_27 (by decide) (fun h27 => ?_) (fun h27 => ?_)
      · exact absurd h27 (nI_ge hi (by omega))
      · refine st_aload_n hc dX3_divide_30 rfl rfl ?_
        refine st_getr hc dX3_divide_31 flX3_33 rfl rfl ?_
        refine st_iload_n hc dX3_divide_34 rfl rfl ?_
        refine st_iload_n hc dX3_divide_35 rfl rfl ?_
        refine st_aload_n hc dX3_divide_36 rfl rfl ?_
        refine st_getr hc dX3_divide_37 flX3_37 rfl rfl ?_
        refine st_iload hc dX3_divide_40 rfl ?_
        refine st_ialdN (k := i) hc dX3_divide_42 rfl (rfl) (by omega) (by first | decide | omega) ((by rw [d1 16 (by omega)]; exact m1 : _ = nI (Lk i))) ?_
        refine st_callVp hc dX3_divide_43 (C0_answerTo d τ (hb.eq (d1 1 (by omega)) (d1 2 (by omega)) (d1 3 (by omega)) (d1 4 (by omega))) w m2) mvX3_40 (by omega) rfl rfl rfl (Nat.le_of_ble_eq_true rfl) ?_
        rw [hA]
        refine st_istore hc dX3_divide_46 (by decide) rfl ?_
        refine st_aload_n hc dX3_divide_48 rfl rfl ?_
        refine st_getr hc dX3_divide_49 flX3_9 rfl rfl ?_
        refine st_iload hc dX3_divide_52 rfl ?_
        refine st_dup2 hc dX3_divide_54 rfl rfl ?_
        refine st_ialdN (k := A) hc dX3_divide_55 rfl (rfl) (by omega) (by first | decide | omega) ((by rw [d4 A ha, hZ] : _ = nI Z)) ?_
        refine st_iconst (v := 1) hc dX3_divide_56 (by decide) ?_
        refine st_iadd hc dX3_divide_57 ?_
        rw [nI_1]
        refine st_iastN (k := A) hc dX3_divide_58 rfl (rfl) (by omega) (by first | decide | omega)  ?_
        refine st_aload_n hc dX3_divide_59 rfl rfl ?_
        refine st_getr hc dX3_divide_60 flX3_9 rfl rfl ?_
        refine st_iload hc dX3_divide_63 rfl ?_
        refine st_ialdN (k := A) hc dX3_divide_65 rfl (rfl) (by omega) (by first | decide | omega) ((by simp [up_eq] : _ = nI (Z + 1))) ?_
        refine st_iconst (v := 1) hc dX3_divide_66 (by decide) ?_
        refine st_icmp_ne (tgt := 80) hc dX3_divide_67 (by decide) (fun h67 => ?_) (fun h67 => ?_)
        · have h67 : ¬ Z = 0 := fun q => h67 (by rw [q]; rfl)
          simp only [if_neg h67, Nat.add_zero] at hnp
          refine st_aload_n hc dX3_divide_80 rfl rfl ?_
          refine st_getr hc dX3_divide_81 flX3_9 rfl rfl ?_
          refine st_iload hc dX3_divide_84 rfl ?_
          refine st_ialdN (k := A) hc dX3_divide_86 rfl (rfl) (by omega) (by first | decide | omega) ((by simp [up_eq] : _ = nI (Z + 1))) ?_
          refine st_aload_n hc dX3_divide_87 rfl rfl ?_
          refine st_getE hc dX3_divide_88 flX3_25 rfl rfl ((by simp [up_eq, d3] : _ = nI (mxN 60 (szA i (fun k => ans P C w (Lk k)))))) ?_
          refine st_icmp_le (tgt := 105) hc dX3_divide_91 (by decide) (fun h91 => ?_) (fun h91 => ?_)
          · rw [if_neg (by have := (nI_leI (by omega) (by omega)).mp h91; omega)] at hmx
            refine st_inc hc dX3_divide_105 rfl (by decide) rfl ?_
            rw [nI_1]
            refine st_goto (tgt := 21) hc dX3_divide_108 (by decide) ?_
            refine st_lvq _ (by simp [lvq, List.set]) (ih _ ⟨fun a ha => ?_, by simp [up_eq, hnp, d2], by simp [up_eq, hmx, d3], fun a ha => ?_⟩)
            · have q1 : ¬ a = 19 := by omega
              have q2 : ¬ a = 20 := by omega
              rw [← d1 a ha]
              funext b
              simp [up_eq, q1, q2]
            · have q3 := szA_s i (fun k => ans P C w (Lk k)) a
              simp only [hA] at q3
              by_cases e : a = A
              · subst e; rw [q3, if_pos rfl, hZ]; simp [up_eq]
              · rw [q3, if_neg (fun q => e q.symm)]; simp only [Nat.add_zero]; rw [← d4 a ha]; simp [up_eq, e]
          · rw [if_pos (Nat.lt_of_not_le (fun q => h91 (nI_le q (by omega))))] at hmx
            refine st_aload_n hc dX3_divide_94 rfl rfl ?_
            refine st_aload_n hc dX3_divide_95 rfl rfl ?_
            refine st_getr hc dX3_divide_96 flX3_9 rfl rfl ?_
            refine st_iload hc dX3_divide_99 rfl ?_
            refine st_ialdN (k := A) hc dX3_divide_101 rfl (rfl) (by omega) (by first | decide | omega) ((by simp [up_eq] : _ = nI (Z + 1))) ?_
            refine st_put hc dX3_divide_102 fpX3_25 rfl rfl  ?_
            refine st_inc hc dX3_divide_105 rfl (by decide) rfl ?_
            rw [nI_1]
            refine st_goto (tgt := 21) hc dX3_divide_108 (by decide) ?_
            refine st_lvq _ (by simp [lvq, List.set]) (ih _ ⟨fun a ha => ?_, by simp [up_eq, hnp, d2], by simp [up_eq, hmx, d3], fun a ha => ?_⟩)
            · have q1 : ¬ a = 19 := by omega
              have q2 : ¬ a = 20 := by omega
              rw [← d1 a ha]
              funext b
              simp [up_eq, q1, q2]
            · have q3 := szA_s i (fun k => ans P C w (Lk k)) a
              simp only [hA] at q3
              by_cases e : a = A
              · subst e; rw [q3, if_pos rfl, hZ]; simp [up_eq]
              · rw [q3, if_neg (fun q => e q.symm)]; simp only [Nat.add_zero]; rw [← d4 a ha]; simp [up_eq, e]
        · have h67 : Z = 0 := by have := nI_inj (b := 1) (by omega) (by decide) h67; omega
          rw [if_pos h67] at hnp
          refine st_aload_n hc dX3_divide_70 rfl rfl ?_
          refine st_dup hc dX3_divide_71 rfl ?_
          refine st_getE hc dX3_divide_72 flX3_21 rfl rfl ((by simp [up_eq, d2] : _ = nI (npA i (fun k => ans P C w (Lk k))))) ?_
          refine st_iconst (v := 1) hc dX3_divide_75 (by decide) ?_
          refine st_iadd hc dX3_divide_76 ?_
          rw [nI_1]
          refine st_put hc dX3_divide_77 fpX3_21 rfl rfl  ?_
          refine st_aload_n hc dX3_divide_80 rfl rfl ?_
          refine st_getr hc dX3_divide_81 flX3_9 rfl rfl ?_
          refine st_iload hc dX3_divide_84 rfl ?_
          refine st_ialdN (k := A) hc dX3_divide_86 rfl (rfl) (by omega) (by first | decide | omega) ((by simp [up_eq] : _ = nI (Z + 1))) ?_
          refine st_aload_n hc dX3_divide_87 rfl rfl ?_
          refine st_getE hc dX3_divide_88 flX3_25 rfl rfl ((by simp [up_eq, d3] : _ = nI (mxN 60 (szA i (fun k => ans P C w (Lk k)))))) ?_
          refine st_icmp_le (tgt := 105) hc dX3_divide_91 (by decide) (fun h91 => ?_) (fun h91 => ?_)
          · rw [if_neg (by have := (nI_leI (by omega) (by omega)).mp h91; omega)] at hmx
            refine st_inc hc dX3_divide_105 rfl (by decide) rfl ?_
            rw [nI_1]
            refine st_goto (tgt := 21) hc dX3_divide_108 (by decide) ?_
            refine st_lvq _ (by simp [lvq, List.set]) (ih _ ⟨fun a ha => ?_, by simp [up_eq, hnp, d2], by simp [up_eq, hmx, d3], fun a ha => ?_⟩)
            · have q1 : ¬ a = 19 := by omega
              have q2 : ¬ a = 20 := by omega
              rw [← d1 a ha]
              funext b
              simp [up_eq, q1, q2]
            · have q3 := szA_s i (fun k => ans P C w (Lk k)) a
              simp only [hA] at q3
              by_cases e : a = A
              · subst e; rw [q3, if_pos rfl, hZ]; simp [up_eq]
              · rw [q3, if_neg (fun q => e q.symm)]; simp only [Nat.add_zero]; rw [← d4 a ha]; simp [up_eq, e]
          · rw [if_pos (Nat.lt_of_not_le (fun q => h91 (nI_le q (by omega))))] at hmx
            refine st_aload_n hc dX3_divide_94 rfl rfl ?_
            refine st_aload_n hc dX3_divide_95 rfl rfl ?_
            refine st_getr hc dX3_divide_96 flX3_9 rfl rfl ?_
            refine st_iload hc dX3_divide_99 rfl ?_
            refine st_ialdN (k := A) hc dX3_divide_101 rfl (rfl) (by omega) (by first | decide | omega) ((by simp [up_eq] : _ = nI (Z + 1))) ?_
            refine st_put hc dX3_divide_102 fpX3_25 rfl rfl  ?_
            refine st_inc hc dX3_divide_105 rfl (by decide) rfl ?_
            rw [nI_1]
            refine st_goto (tgt := 21) hc dX3_divide_108 (by decide) ?_
            refine st_lvq _ (by simp [lvq, List.set]) (ih _ ⟨fun a ha => ?_, by simp [up_eq, hnp, d2], by simp [up_eq, hmx, d3], fun a ha => ?_⟩)
            · have q1 : ¬ a = 19 := by omega
              have q2 : ¬ a = 20 := by omega
              rw [← d1 a ha]
              funext b
              simp [up_eq, q1, q2]
            · have q3 := szA_s i (fun k => ans P C w (Lk k)) a
              simp only [hA] at q3
              by_cases e : a = A
              · subst e; rw [q3, if_pos rfl, hZ]; simp [up_eq]
              · rw [q3, if_neg (fun q => e q.symm)]; simp only [Nat.add_zero]; rw [← d4 a ha]; simp [up_eq, e]
  have hz : ∀ a, szA 0 (fun k => ans P C w (Lk k)) a = 0 := fun a => rfl
  refine st_aload_n hc dX3_divide_0 rfl rfl ?_
  refine st_getr hc dX3_divide_1 flX3_9 rfl rfl ?_
  refine st_iconst (v := 0) hc dX3_divide_4 (by decide) ?_
  refine st_callSn hc dX3_divide_5 (CJ_fill (d + 1) σ rfl (by decide) 0) msX3_15 (by omega) rfl rfl (Nat.le_of_ble_eq_true rfl) ?_
  rintro τ1 e
  subst e
  refine st_aload_n hc dX3_divide_8 rfl rfl ?_
  refine st_iconst (v := 0) hc dX3_divide_9 (by decide) ?_
  refine st_put hc dX3_divide_10 fpX3_21 rfl rfl  ?_
  refine st_aload_n hc dX3_divide_13 rfl rfl ?_
  refine st_iconst (v := 0) hc dX3_divide_14 (by decide) ?_
  refine st_put hc dX3_divide_15 fpX3_25 rfl rfl  ?_
  refine st_iconst (v := 0) hc dX3_divide_18 (by decide) ?_
  refine st_istore hc dX3_divide_19 (by decide) rfl ?_
  refine k21 _ ⟨fun a ha => ?_, ?_, ?_, fun a ha => ?_⟩
  · have q1 : ¬ a = 19 := by omega
    have q2 : ¬ a = 20 := by omega
    funext b
    simp [up_eq, va_up, q1, q2]
  · have : npA 0 (fun k => ans P C w (Lk k)) = 0 := cnt_zero (fun i _ => by simp [hz])
    rw [this]
    simp [up_eq, nI_0]
  · have : mxN 60 (szA 0 (fun k => ans P C w (Lk k))) = 0 := mxN_eq (fun i _ => by rw [hz]; omega) (Or.inl rfl)
    rw [this]
    simp [up_eq, nI_0]
  · rw [hz]
    simp [up_eq, va_up, clr, ha, nI_0]
theorem C3_answerOfPart (d : Nat) (σ : St) {f : Nat → Nat} (hf : ∀ a, a < 51 → σ 20 a = nI (f a) ∧ f a ≤ 4096) (i : Int32) : Mt YC mX3_answerOfPart d [.ref 19, .int i] σ (fun r τ => r = some (.int (if 0 ≤ i ∧ nat i < cnt 51 (fun a => decide (0 < f a)) then nI (nthT 51 (fun a => decide (0 < f a)) (nat i)) else -1)) ∧ τ = σ) := by
  refine Mt.ofA [some (.ref 19), some (.int i), none, none] (by decide) (fun _ => Nat.le_of_ble_eq_true rfl) (fun _ => rfl) (fun g hc => ?_)
  have k4 : (0 ≤ i → cnt 0 (fun a => decide (0 < f a)) ≤ nat i) → aW g YC 4 (fun r τ => r = some (.int (if 0 ≤ i ∧ nat i < cnt 51 (fun a => decide (0 < f a)) then nI (nthT 51 (fun a => decide (0 < f a)) (nat i)) else -1)) ∧ τ = σ) 4 [some (.ref 19), some (.int i), some (.int (nI (cnt 0 (fun a => decide (0 < f a))))), some (.int (nI 0))] [] σ := by
    refine lpN (n := 51) (F := fun a => (0 ≤ i → cnt a (fun a => decide (0 < f a)) ≤ nat i) → aW g YC 4 (fun r τ => r = some (.int (if 0 ≤ i ∧ nat i < cnt 51 (fun a => decide (0 < f a)) then nI (nthT 51 (fun a => decide (0 < f a)) (nat i)) else -1)) ∧ τ = σ) 4 [some (.ref 19), some (.int i), some (.int (nI (cnt a (fun a => decide (0 < f a))))), some (.int (nI a))] [] σ) (fun hz => ?_) (fun a ha ih hz => ?_)
    · refine st_iload_n hc dX3_answerOfPart_4 rfl rfl ?_
      refine st_bipush (v := 51) hc dX3_answerOfPart_5 (by decide) ?_
      refine st_icmp_ge (tgt := 35) hc dX3_answerOfPart_7 (by decide) (fun h7 => ?_) (fun h7 => ?_)
      · refine st_iconst (v := (-1)) hc dX3_answerOfPart_35 (by decide) ?_
        refine st_iret (st := []) hc dX3_answerOfPart_36 rfl ?_
        rw [if_neg (fun q => absurd (hz q.1) (by omega))]
        exact ⟨rfl, rfl⟩
      · exact absurd (by decide) h7
    · obtain ⟨f1, f2⟩ := hf a ha
      have hle := cnt_le a (fun a => decide (0 < f a))
      have hs : cnt (a + 1) (fun a => decide (0 < f a)) = cnt a (fun a => decide (0 < f a)) + (if decide (0 < f a) = true then 1 else 0) := rfl
      refine st_iload_n hc dX3_answerOfPart_4 rfl rfl ?_
      refine st_bipush (v := 51) hc dX3_answerOfPart_5 (by decide) ?_
      refine st_icmp_ge (tgt := 35) hc dX3_answerOfPart_7 (by decide) (fun h7 => ?_) (fun h7 => ?_)
      · exact absurd h7 (nI_ge (a := a) (b := 51) ha (by decide))
      · refine st_aload_n hc dX3_answerOfPart_10 rfl rfl ?_
        refine st_getr hc dX3_answerOfPart_11 flX3_9 rfl rfl ?_
        refine st_iload_n hc dX3_answerOfPart_14 rfl rfl ?_
        refine st_ialdN (k := a) hc dX3_answerOfPart_15 rfl (rfl) (by omega) (by first | decide | omega) (f1) ?_
        refine st_if_le (tgt := 29) hc dX3_answerOfPart_16 (by decide) (fun h16 => ?_) (fun h16 => ?_)
        · have h16 : ¬ 0 < f a := fun q => absurd ((nI_leI (b := 0) (by omega) (by decide)).mp h16) (by omega)
          rw [decide_eq_false h16] at hs
          simp only [if_false, Nat.add_zero, Bool.false_eq_true] at hs
          rw [hs] at ih
          refine st_inc hc dX3_answerOfPart_29 rfl (by decide) rfl ?_
          rw [nI_1]
          refine st_goto (tgt := 4) hc dX3_answerOfPart_32 (by decide) ?_
          first
           | exact ih hz
           | (refine ih (fun q => ?_)
              have h3 := hz q
              rcases Nat.lt_or_ge (cnt a (fun a => decide (0 < f a))) (nat i) with z | z
              · omega
              · exact absurd (by rw [show cnt a (fun a => decide (0 < f a)) = nat i by omega, nI_nat q]) h21)
        · have h16 : 0 < f a := Nat.lt_of_not_le (fun q => h16 (nI_le (b := 0) q (by decide)))
          rw [decide_eq_true h16] at hs
          simp only [if_true] at hs
          rw [hs] at ih
          refine st_iload_n hc dX3_answerOfPart_19 rfl rfl ?_
          refine st_iload_n hc dX3_answerOfPart_20 rfl rfl ?_
          refine st_icmp_ne (tgt := 26) hc dX3_answerOfPart_21 (by decide) (fun h21 => ?_) (fun h21 => ?_)
          · refine st_inc hc dX3_answerOfPart_26 rfl (by decide) rfl ?_
            rw [nI_1]
            refine st_inc hc dX3_answerOfPart_29 rfl (by decide) rfl ?_
            rw [nI_1]
            refine st_goto (tgt := 4) hc dX3_answerOfPart_32 (by decide) ?_
            first
             | exact ih hz
             | (refine ih (fun q => ?_)
                have h3 := hz q
                rcases Nat.lt_or_ge (cnt a (fun a => decide (0 < f a))) (nat i) with z | z
                · omega
                · exact absurd (by rw [show cnt a (fun a => decide (0 < f a)) = nat i by omega, nI_nat q]) h21)
          · have h21 : i = nI (cnt a (fun a => decide (0 < f a))) := h21.symm
            have hn : nat i = cnt a (fun a => decide (0 < f a)) := by rw [h21, nat_nI (by omega)]
            have h0 : 0 ≤ i := by rw [h21]; exact Int32.not_lt.mp (nI_pos (by omega))
            have hlt := cnt_lt (p := fun a => decide (0 < f a)) (i := a) (j := 51) ha (decide_eq_true h16)
            refine st_iload_n hc dX3_answerOfPart_24 rfl rfl ?_
            refine st_iret (st := []) hc dX3_answerOfPart_25 rfl ?_
            rw [if_pos ⟨h0, by rw [hn]; exact hlt⟩, nthT_eq ha (decide_eq_true h16) hn.symm]
            exact ⟨rfl, rfl⟩
  refine st_iconst (v := 0) hc dX3_answerOfPart_0 (by decide) ?_
  refine st_istore_n hc dX3_answerOfPart_1 rfl (by decide) rfl ?_
  refine st_iconst (v := 0) hc dX3_answerOfPart_2 (by decide) ?_
  refine st_istore_n hc dX3_answerOfPart_3 rfl (by decide) rfl ?_
  exact k4 (fun _ => Nat.zero_le _)

