/-! ===== the class: the play, what changes it ===== -/
theorem up_vu_up {σ : St} {k j i c : Nat} {x y : Int32} {v : Nat → Int32} (h : j ≠ k) : up (up (va_up σ k v) j i x) k c y = up (va_up σ k (upd v c y)) j i x := by
  funext a b
  simp only [up_eq, va_up, upd]
  by_cases e : a = k
  · subst e
    have : ¬ a = j := fun q => h q.symm
    simp only [this, false_and, if_false, if_true, true_and]
    rfl
  · simp only [e, false_and, if_false]
theorem C5_isLawful (d : Nat) (σ : St) {P C lw code : Nat} (hb : bkI σ P C) (h8 : σ 7 8 = nI lw) (hlw : lw < 4) (hcode : code < C ^ P) (h13 : σ 13 code = 0 ∨ σ 13 code = 1) : Mt YC mX5_isLawful (d + 2) [.ref 7, .int (nI code)] σ (fun r τ => r = some (.int (bI (okLaw P C (nI lw) (σ 7 9) (σ 13) code))) ∧ τ = σ) := by
  have h4 := hb.1.2.1
  refine Mt.ofA [some (.ref 7), some (.int (nI code))] (by decide) (fun _ => Nat.le_of_ble_eq_true rfl) (fun _ => rfl) (fun g hc => ?_)
  refine st_aload_n hc dX5_isLawful_0 rfl rfl ?_
  refine st_getE hc dX5_isLawful_1 flX5_64 rfl rfl (h8) ?_
  rcases (show lw = 0 ∨ lw = 1 ∨ lw = 2 ∨ lw = 3 by omega) with rfl | rfl | rfl | rfl
  · refine st_tableOut (tgt := 77) hc dX5_isLawful_4 (by decide) (by decide) ?_
    refine st_iconst (v := 1) hc dX5_isLawful_77 (by decide) ?_
    refine st_zret (st := []) hc dX5_isLawful_78 rfl (Or.inr rfl) ?_
    exact ⟨rfl, rfl⟩
  · refine st_tableIn (off := 28) (tgt := 32) hc dX5_isLawful_4 (by decide) (by decide) (by decide) (by decide) ?_
    refine st_aload_n hc dX5_isLawful_32 rfl rfl ?_
    refine st_getr hc dX5_isLawful_33 flX5_38 rfl rfl ?_
    refine st_iload_n hc dX5_isLawful_36 rfl rfl ?_
    refine st_callVp hc dX5_isLawful_37 (C0_hasColourTwice d σ hb hcode) mvX5_80 (by omega) rfl rfl rfl (Nat.le_of_ble_eq_true rfl) ?_
    refine st_t_if_ne (a := 1) (b := 0) hc dX5_isLawful_40 dX5_isLawful_43 dX5_isLawful_44 dX5_isLawful_47 (by decide) (by decide) ?_
    refine st_zret (st := []) hc dX5_isLawful_48 rfl (by split <;> simp) ?_
    refine ⟨?_, rfl⟩
    have : okLaw P C (nI 1) (σ 7 9) (σ 13) code = !twiceC P C code := by unfold okLaw; rw [if_neg (by decide), if_neg (by decide), if_pos (by decide)]
    rw [this]
    cases twiceC P C code <;> rfl
  · refine st_tableIn (off := 45) (tgt := 49) hc dX5_isLawful_4 (by decide) (by decide) (by decide) (by decide) ?_
    refine st_aload_n hc dX5_isLawful_49 rfl rfl ?_
    refine st_getr hc dX5_isLawful_50 flX5_38 rfl rfl ?_
    refine st_iload_n hc dX5_isLawful_53 rfl rfl ?_
    refine st_callVp hc dX5_isLawful_54 (C0_sumOfColours d σ hb hcode) mvX5_83 (by omega) rfl rfl rfl (Nat.le_of_ble_eq_true rfl) ?_
    refine st_aload_n hc dX5_isLawful_57 rfl rfl ?_
    refine st_getE hc dX5_isLawful_58 flX5_67 rfl rfl rfl ?_
    refine st_t_icmp_ne (a := 1) (b := 0) hc dX5_isLawful_61 dX5_isLawful_64 dX5_isLawful_65 dX5_isLawful_68 (by decide) (by decide) ?_
    refine st_zret (st := []) hc dX5_isLawful_69 rfl (by split <;> simp) ?_
    refine ⟨?_, rfl⟩
    have : okLaw P C (nI 2) (σ 7 9) (σ 13) code = (nI (sumC P C code) == σ 7 9) := by unfold okLaw; rw [if_neg (by decide), if_neg (by decide), if_neg (by decide)]
    rw [this]
    by_cases e : nI (sumC P C code) = σ 7 9
    · simp [e, bI]
    · simp [e, bI]
  · refine st_tableIn (off := 66) (tgt := 70) hc dX5_isLawful_4 (by decide) (by decide) (by decide) (by decide) ?_
    refine st_aload_n hc dX5_isLawful_70 rfl rfl ?_
    refine st_getr hc dX5_isLawful_71 flX5_25 rfl rfl ?_
    refine st_iload_n hc dX5_isLawful_74 rfl rfl ?_
    refine st_zaldN (k := code) hc dX5_isLawful_75 rfl (rfl) (by omega) (by first | decide | omega) rfl ?_
    refine st_zret (st := []) hc dX5_isLawful_76 rfl (h13) ?_
    refine ⟨?_, rfl⟩
    have : okLaw P C (nI 3) (σ 7 9) (σ 13) code = !(σ 13 code == 0) := by unfold okLaw; rw [if_neg (by decide), if_pos (by decide)]
    rw [this]
    rcases h13 with q | q <;> rw [q] <;> rfl
/-- the store behind setLaw -/
abbrev slS (σ : St) (N : Nat) (a b : Int32) (ok : Nat → Bool) (v : Nat → Int32) : St := up (va_up (up (up σ 7 8 a) 7 9 b) 14 v) 7 12 (nI (cnt N ok))
theorem C5_setLaw (d : Nat) (σ : St) {P C lw L : Nat} {fb : Nat → Nat} (hb : bkI σ P C) (hlw : lw < 4) (h13 : ∀ c, c < C ^ P → σ 13 c = 0 ∨ σ 13 c = 1) (h10 : σ 7 10 = nI L) (hL : L ≤ 2) (hf : ∀ c, c < C ^ P → σ 15 c = nI (fb c) ∧ fb c < 2 ^ 11) (b : Int32) : Mt YC mX5_setLaw (d + 3) [.ref 7, .int (nI lw), .int b] σ (fun r τ => r = none ∧ ∃ v, (∀ c, c < C ^ P → v c = bI (okLaw P C (nI lw) b (σ 13) c)) ∧ τ = flS (slS σ (C ^ P) (nI lw) b (okLaw P C (nI lw) b (σ 13)) v) (C ^ P) (lf (okLaw P C (nI lw) b (σ 13)) fb L)) := by
  have h4 := hb.1.2.1
  have hs := hb.1.2.2.2.2
  refine Mt.ofA [some (.ref 7), some (.int (nI lw)), some (.int b), none] (by decide) (fun _ => Nat.le_of_ble_eq_true rfl) (fun _ => rfl) (fun g hc => ?_)
  have k17 : ∀ v, (∀ c, c < 0 → v c = bI (okLaw P C (nI lw) b (σ 13) c)) → aW g YC 4 (fun r τ => r = none ∧ ∃ v, (∀ c, c < C ^ P → v c = bI (okLaw P C (nI lw) b (σ 13) c)) ∧ τ = flS (slS σ (C ^ P) (nI lw) b (okLaw P C (nI lw) b (σ 13)) v) (C ^ P) (lf (okLaw P C (nI lw) b (σ 13)) fb L)) 17 [some (.ref 7), some (.int (nI lw)), some (.int b), some (.int (nI 0))] [] (slS σ 0 (nI lw) b (okLaw P C (nI lw) b (σ 13)) v) := by
    refine lpN (n := C ^ P) (F := fun k => ∀ v, (∀ c, c < k → v c = bI (okLaw P C (nI lw) b (σ 13) c)) → aW g YC 4 (fun r τ => r = none ∧ ∃ v, (∀ c, c < C ^ P → v c = bI (okLaw P C (nI lw) b (σ 13) c)) ∧ τ = flS (slS σ (C ^ P) (nI lw) b (okLaw P C (nI lw) b (σ 13)) v) (C ^ P) (lf (okLaw P C (nI lw) b (σ 13)) fb L)) 17 [some (.ref 7), some (.int (nI lw)), some (.int b), some (.int (nI k))] [] (slS σ k (nI lw) b (okLaw P C (nI lw) b (σ 13)) v)) (fun v hv => ?_) (fun k hk ih v hv => ?_)
    · refine st_iload_n hc dX5_setLaw_17 rfl rfl ?_
      refine st_aload_n hc dX5_setLaw_18 rfl rfl ?_
      refine st_getr hc dX5_setLaw_19 flX5_38 rfl rfl ?_
      refine st_getE hc dX5_setLaw_22 flX5_42 rfl rfl ((by simp [va_up, up_eq, hs] : _ = nI (C ^ P))) ?_
      refine st_icmp_ge (tgt := 64) hc dX5_setLaw_25 (by decide) (fun h25 => ?_) (fun h25 => ?_)
      · refine st_aload_n hc dX5_setLaw_64 rfl rfl ?_
        refine st_callVn hc dX5_setLaw_65 (C5_findLeft (d) (slS σ (C ^ P) (nI lw) b (okLaw P C (nI lw) b (σ 13)) v) (N := C ^ P) (L := L) (ok := okLaw P C (nI lw) b (σ 13)) (fb := fb) ⟨by simp [va_up, up_eq, hs], h4, by simp [va_up, up_eq, h10], hL, fun c hc => ⟨by simp [va_up, up_eq]; exact hv c hc, by simp [va_up, up_eq]; exact (hf c hc).1, (hf c hc).2⟩⟩) mvX5_77 (by omega) rfl rfl rfl (Nat.le_of_ble_eq_true rfl) ?_
        rintro τ1 e
        subst e
        refine st_vret (st := []) hc dX5_setLaw_68 rfl ?_
        exact ⟨rfl, v, hv, rfl⟩
      · exact absurd (nI_le (Nat.le_refl _) (by omega)) h25
    · have hS : bkI (slS σ k (nI lw) b (okLaw P C (nI lw) b (σ 13)) v) P C := hb.eq (by funext i; simp [va_up, up_eq]) (by funext i; simp [va_up, up_eq]) (by funext i; simp [va_up, up_eq]) (by funext i; simp [va_up, up_eq])
      have e13 : slS σ k (nI lw) b (okLaw P C (nI lw) b (σ 13)) v 13 = σ 13 := by funext i; simp [va_up, up_eq]
      have e9 : slS σ k (nI lw) b (okLaw P C (nI lw) b (σ 13)) v 7 9 = b := by simp [va_up, up_eq]
      have hla := C5_isLawful d _ hS (lw := lw) (by simp [va_up, up_eq]) hlw hk (by rw [e13]; exact h13 k hk)
      rw [e13, e9] at hla
      have hv2 : ∀ c, c < k + 1 → upd v k (bI (okLaw P C (nI lw) b (σ 13) k)) c = bI (okLaw P C (nI lw) b (σ 13) c) := fun c hc => by
        by_cases e : c = k
        · subst e; rw [upd_s]
        · rw [upd_n e]; exact hv c (by omega)
      have hcs : cnt (k + 1) (okLaw P C (nI lw) b (σ 13)) = cnt k (okLaw P C (nI lw) b (σ 13)) + (if okLaw P C (nI lw) b (σ 13) k = true then 1 else 0) := rfl
      have ih2 := ih _ hv2
      refine st_iload_n hc dX5_setLaw_17 rfl rfl ?_
      refine st_aload_n hc dX5_setLaw_18 rfl rfl ?_
      refine st_getr hc dX5_setLaw_19 flX5_38 rfl rfl ?_
      refine st_getE hc dX5_setLaw_22 flX5_42 rfl rfl ((by simp [va_up, up_eq, hs] : _ = nI (C ^ P))) ?_
      refine st_icmp_ge (tgt := 64) hc dX5_setLaw_25 (by decide) (fun h25 => ?_) (fun h25 => ?_)
      · exact absurd h25 (nI_ge hk (by omega))
      · refine st_aload_n hc dX5_setLaw_28 rfl rfl ?_
        refine st_getr hc dX5_setLaw_29 flX5_29 rfl rfl ?_
        refine st_iload_n hc dX5_setLaw_32 rfl rfl ?_
        refine st_aload_n hc dX5_setLaw_33 rfl rfl ?_
        refine st_iload_n hc dX5_setLaw_34 rfl rfl ?_
        refine st_callVp hc dX5_setLaw_35 (hla) mvX5_73 (by omega) rfl rfl rfl (Nat.le_of_ble_eq_true rfl) ?_
        refine st_zastN (k := k) hc dX5_setLaw_38 rfl (rfl) (by omega) (by first | decide | omega) (bI_01 _) ?_
        rw [up_vu_up (by decide)]
        refine st_aload_n hc dX5_setLaw_39 rfl rfl ?_
        refine st_getr hc dX5_setLaw_40 flX5_29 rfl rfl ?_
        refine st_iload_n hc dX5_setLaw_43 rfl rfl ?_
        refine st_zaldN (k := k) hc dX5_setLaw_44 rfl (rfl) (by omega) (by first | decide | omega) ((by rw [up_o 14 (by decide), vu_s, upd_s] : _ = bI (okLaw P C (nI lw) b (σ 13) k))) ?_
        refine st_if_eq (tgt := 58) hc dX5_setLaw_45 (by decide) (fun h45 => ?_) (fun h45 => ?_)
        · have e0 : cnt (k + 1) (okLaw P C (nI lw) b (σ 13)) = cnt k (okLaw P C (nI lw) b (σ 13)) := by rw [hcs, bI_0.mp h45]; rfl
          refine st_inc hc dX5_setLaw_58 rfl (by decide) rfl ?_
          rw [nI_1]
          refine st_goto (tgt := 17) hc dX5_setLaw_61 (by decide) ?_
          refine aW_st ?_ ih2
          show _ = up _ 7 12 (nI (cnt (k + 1) (okLaw P C (nI lw) b (σ 13))))
          rw [e0]
        · have e0 : cnt (k + 1) (okLaw P C (nI lw) b (σ 13)) = cnt k (okLaw P C (nI lw) b (σ 13)) + 1 := by rw [hcs, bI_t h45]; rfl
          refine st_aload_n hc dX5_setLaw_48 rfl rfl ?_
          refine st_dup hc dX5_setLaw_49 rfl ?_
          refine st_getE hc dX5_setLaw_50 flX5_70 rfl rfl ((by simp [va_up, up_eq] : _ = nI (cnt k (okLaw P C (nI lw) b (σ 13))))) ?_
          refine st_iconst (v := 1) hc dX5_setLaw_53 (by decide) ?_
          refine st_iadd hc dX5_setLaw_54 ?_
          rw [nI_1]
          refine st_put hc dX5_setLaw_55 fpX5_70 rfl rfl  ?_
          rw [up_up]
          refine st_inc hc dX5_setLaw_58 rfl (by decide) rfl ?_
          rw [nI_1]
          refine st_goto (tgt := 17) hc dX5_setLaw_61 (by decide) ?_
          refine aW_st ?_ ih2
          show _ = up _ 7 12 (nI (cnt (k + 1) (okLaw P C (nI lw) b (σ 13))))
          rw [e0]
  have h9 := k17 (σ 14) (fun c hc => absurd hc (Nat.not_lt_zero c))
  have e0 : slS σ 0 (nI lw) b (okLaw P C (nI lw) b (σ 13)) (σ 14) = up (up (up σ 7 8 (nI lw)) 7 9 b) 7 12 0 := by
    show up (va_up (up (up σ 7 8 (nI lw)) 7 9 b) 14 (σ 14)) 7 12 (nI 0) = _
    rw [vu_k (by rw [up_o 14 (by decide), up_o 14 (by decide)]), nI_0]
  rw [e0] at h9
  refine st_aload_n hc dX5_setLaw_0 rfl rfl ?_
  refine st_iload_n hc dX5_setLaw_1 rfl rfl ?_
  refine st_put hc dX5_setLaw_2 fpX5_64 rfl rfl  ?_
  refine st_aload_n hc dX5_setLaw_5 rfl rfl ?_
  refine st_iload_n hc dX5_setLaw_6 rfl rfl ?_
  refine st_put hc dX5_setLaw_7 fpX5_67 rfl rfl  ?_
  refine st_aload_n hc dX5_setLaw_10 rfl rfl ?_
  refine st_iconst (v := 0) hc dX5_setLaw_11 (by decide) ?_
  refine st_put hc dX5_setLaw_12 fpX5_70 rfl rfl  ?_
  refine st_iconst (v := 0) hc dX5_setLaw_15 (by decide) ?_
  refine st_istore_n hc dX5_setLaw_16 rfl (by decide) rfl ?_
  exact h9
theorem C5_setLies (d : Nat) (σ : St) {N L x : Nat} {ok : Nat → Bool} {fb : Nat → Nat} (hA : plA σ N ok fb L) (hx : x ≤ 2) : Mt YC mX5_setLies (d + 3) [.ref 7, .int (nI x)] σ (fun r τ => r = none ∧ τ = flS (up σ 7 10 (nI x)) N (lf ok fb x)) := by
  refine Mt.ofA [some (.ref 7), some (.int (nI x))] (by decide) (fun _ => Nat.le_of_ble_eq_true rfl) (fun _ => rfl) (fun g hc => ?_)
  obtain ⟨a1, a2, a3, a4, a5⟩ := hA
  have hA2 : plA (up σ 7 10 (nI x)) N ok fb x := ⟨by simp [up_eq, a1], a2, by simp [up_eq], hx, fun c hc => by rw [up_o 14 (by decide), up_o 15 (by decide)]; exact a5 c hc⟩
  refine st_aload_n hc dX5_setLies_0 rfl rfl ?_
  refine st_iload_n hc dX5_setLies_1 rfl rfl ?_
  refine st_put hc dX5_setLies_2 fpX5_51 rfl rfl  ?_
  refine st_aload_n hc dX5_setLies_5 rfl rfl ?_
  refine st_callVn hc dX5_setLies_6 (C5_findLeft d _ hA2) mvX5_77 (by omega) rfl rfl rfl (Nat.le_of_ble_eq_true rfl) ?_
  rintro τ1 e
  subst e
  refine st_vret (st := []) hc dX5_setLies_9 rfl ?_
  exact ⟨rfl, rfl⟩
theorem C5_addToList (d : Nat) (σ : St) {N L c : Nat} {ok : Nat → Bool} {fb : Nat → Nat} (hA : plA σ N ok fb L) (hcN : c < N) : Mt YC mX5_addToList (d + 3) [.ref 7, .int (nI c)] σ (fun r τ => r = none ∧ τ = if σ 7 8 = 3 then flS (up (up (up (up σ 13 c 1) 7 11 (σ 7 11 + 1)) 14 c 1) 7 12 (σ 7 12 + 1)) N (lf (fun x => if x = c then true else ok x) fb L) else up (up σ 13 c 1) 7 11 (σ 7 11 + 1)) := by
  refine Mt.ofA [some (.ref 7), some (.int (nI c))] (by decide) (fun _ => Nat.le_of_ble_eq_true rfl) (fun _ => rfl) (fun g hc => ?_)
  obtain ⟨a1, a2, a3, a4, a5⟩ := hA
  have hA2 : plA (up (up (up (up σ 13 c 1) 7 11 (σ 7 11 + 1)) 14 c 1) 7 12 (σ 7 12 + 1)) N (fun x => if x = c then true else ok x) fb L := ⟨by simp [up_eq, a1], a2, by simp [up_eq, a3], a4, fun x hx => by
    obtain ⟨b1, b2, b3⟩ := a5 x hx
    refine ⟨?_, by simp [up_eq, b2], b3⟩
    by_cases e : x = c
    · simp [up_eq, e, bI]
    · simp [up_eq, e, b1]⟩
  refine st_aload_n hc dX5_addToList_0 rfl rfl ?_
  refine st_getr hc dX5_addToList_1 flX5_25 rfl rfl ?_
  refine st_iload_n hc dX5_addToList_4 rfl rfl ?_
  refine st_iconst (v := 1) hc dX5_addToList_5 (by decide) ?_
  refine st_zastN (k := c) hc dX5_addToList_6 rfl (rfl) (by omega) (by first | decide | omega) (Or.inr rfl) ?_
  refine st_aload_n hc dX5_addToList_7 rfl rfl ?_
  refine st_dup hc dX5_addToList_8 rfl ?_
  refine st_getE hc dX5_addToList_9 flX5_48 rfl rfl ((by simp [up_eq] : _ = σ 7 11)) ?_
  refine st_iconst (v := 1) hc dX5_addToList_12 (by decide) ?_
  refine st_iadd hc dX5_addToList_13 ?_
  refine st_put hc dX5_addToList_14 fpX5_48 rfl rfl  ?_
  refine st_aload_n hc dX5_addToList_17 rfl rfl ?_
  refine st_getE hc dX5_addToList_18 flX5_64 rfl rfl ((by simp [up_eq] : _ = σ 7 8)) ?_
  refine st_iconst (v := 3) hc dX5_addToList_21 (by decide) ?_
  refine st_icmp_ne (tgt := 46) hc dX5_addToList_22 (by decide) (fun h22 => ?_) (fun h22 => ?_)
  · have h22 : ¬ σ 7 8 = 3 := h22
    refine st_vret (st := []) hc dX5_addToList_46 rfl ?_
    refine ⟨rfl, ?_⟩
    first
     | rw [if_pos h22]
     | rw [if_neg h22]
  · have h22 : σ 7 8 = 3 := h22
    refine st_aload_n hc dX5_addToList_25 rfl rfl ?_
    refine st_getr hc dX5_addToList_26 flX5_29 rfl rfl ?_
    refine st_iload_n hc dX5_addToList_29 rfl rfl ?_
    refine st_iconst (v := 1) hc dX5_addToList_30 (by decide) ?_
    refine st_zastN (k := c) hc dX5_addToList_31 rfl (rfl) (by omega) (by first | decide | omega) (Or.inr rfl) ?_
    refine st_aload_n hc dX5_addToList_32 rfl rfl ?_
    refine st_dup hc dX5_addToList_33 rfl ?_
    refine st_getE hc dX5_addToList_34 flX5_70 rfl rfl ((by simp [up_eq] : _ = σ 7 12)) ?_
    refine st_iconst (v := 1) hc dX5_addToList_37 (by decide) ?_
    refine st_iadd hc dX5_addToList_38 ?_
    refine st_put hc dX5_addToList_39 fpX5_70 rfl rfl  ?_
    refine st_aload_n hc dX5_addToList_42 rfl rfl ?_
    refine st_callVn hc dX5_addToList_43 (C5_findLeft d _ hA2) mvX5_77 (by omega) rfl rfl rfl (Nat.le_of_ble_eq_true rfl) ?_
    rintro τ1 e
    subst e
    refine st_vret (st := []) hc dX5_addToList_46 rfl ?_
    refine ⟨rfl, ?_⟩
    first
     | rw [if_pos h22]
     | rw [if_neg h22]
theorem C5_takeBack (d : Nat) (σ : St) {N T L : Nat} {ok : Nat → Bool} {fb : Nat → Nat} (hA : plA σ N ok fb L) (hT : σ 7 14 = nI (T + 1)) (hT10 : T ≤ 9) (hf : ∀ c, c < N → fb c < 2 ^ (T + 1)) : Mt YC mX5_takeBack (d + 3) [.ref 7] σ (fun r τ => r = none ∧ ∃ v, (∀ c, c < N → v c = nI (fb c % 2 ^ T)) ∧ τ = flS (va_up (up σ 7 14 (nI T)) 15 v) N (lf ok (fun c => fb c % 2 ^ T) L)) := by
  refine Mt.ofA [some (.ref 7)] (by decide) (fun _ => Nat.le_of_ble_eq_true rfl) (fun _ => rfl) (fun g hc => ?_)
  obtain ⟨a1, a2, a3, a4, a5⟩ := hA
  refine st_aload_n hc dX5_takeBack_0 rfl rfl ?_
  refine st_dup hc dX5_takeBack_1 rfl ?_
  refine st_getE hc dX5_takeBack_2 flX5_54 rfl rfl (hT) ?_
  refine st_iconst (v := 1) hc dX5_takeBack_5 (by decide) ?_
  refine st_isub hc dX5_takeBack_6 ?_
  rw [nI_pred]
  refine st_put hc dX5_takeBack_7 fpX5_54 rfl rfl  ?_
  refine st_aload_n hc dX5_takeBack_10 rfl rfl ?_
  refine st_callVn hc dX5_takeBack_11 (C5_unmark (d + 2) (up σ 7 14 (nI T)) (N := N) (T := T) (fb := fb) (by simp [up_eq, a1]) a2 (by simp [up_eq]) (by omega) (fun c hc => ⟨by simp [up_eq, (a5 c hc).2.1], hf c hc⟩)) mvX5_116 (by omega) rfl rfl rfl (Nat.le_of_ble_eq_true rfl) ?_
  rintro τ1 ⟨v, hv, e⟩
  subst e
  refine st_aload_n hc dX5_takeBack_14 rfl rfl ?_
  refine st_callVn hc dX5_takeBack_15 (C5_findLeft d (va_up (up σ 7 14 (nI T)) 15 v) (N := N) (L := L) (ok := ok) (fb := fun c => fb c % 2 ^ T) ⟨by simp [va_up, up_eq, a1], a2, by simp [va_up, up_eq, a3], a4, fun c hc => ⟨by simp [va_up, up_eq, (a5 c hc).1], by rw [vu_s]; exact hv c hc, Nat.lt_of_le_of_lt (Nat.mod_le _ _) (a5 c hc).2.2⟩⟩) mvX5_77 (by omega) rfl rfl rfl (Nat.le_of_ble_eq_true rfl) ?_
  rintro τ1 e
  subst e
  refine st_vret (st := []) hc dX5_takeBack_18 rfl ?_
  exact ⟨rfl, v, hv, rfl⟩
/-- the cells of the play that accepts changes where it refuses -/
def acc0 (σ : St) (N R : Nat) (τ : St) : Prop := τ 7 = upd (σ 7) 15 (nI R) ∧ (∀ c, c < N → τ 15 c = σ 15 c) ∧ ∀ a, ¬ (a = 7 ∨ a = 8 ∨ a = 9 ∨ a = 10 ∨ a = 15) → τ a = σ a
abbrev acc1 (σ : St) (N T : Nat) (a : Int32) (p : Nat → Bool) (v : Nat → Int32) : St := flS (up (up (va_up (va_up σ 15 v) 11 (rng (5 * T) 5 (fun k => σ 18 (0 + k)) (σ 11))) 12 T a) 7 14 (nI (T + 1))) N p
theorem mkF_lt {P C T : Nat} {w : Nat → Int32} {a : Int32} {fb : Nat → Nat} {c : Nat} (h : fb c < 2 ^ T) : mkF P C T w a fb c < 2 ^ (T + 1) := by
  unfold mkF
  have h1 : 2 ^ (T + 1) = 2 ^ T + 2 ^ T := by rw [Nat.pow_succ]; omega
  split
  · omega
  · exact Nat.or_lt_two_pow (by omega) (by rw [h1]; have := Nat.pow_pos (n := T) (show 0 < 2 by decide); omega)
theorem mkF_mod {P C T : Nat} {w : Nat → Int32} {a : Int32} {fb : Nat → Nat} {c : Nat} (h : fb c < 2 ^ T) : mkF P C T w a fb c % 2 ^ T = fb c := by
  unfold mkF
  split
  · exact Nat.mod_eq_of_lt h
  · apply Nat.eq_of_testBit_eq
    intro i
    rw [Nat.testBit_mod_two_pow, Nat.testBit_or, Nat.testBit_two_pow]
    by_cases e : i < T
    · have : ¬ T = i := by omega
      simp [e, this]
    · have : (fb c).testBit i = false := Nat.testBit_lt_two_pow (Nat.lt_of_lt_of_le h (Nat.pow_le_pow_right (by decide) (by omega)))
      simp [e, this]
theorem C5_accepts (d : Nat) (σ : St) {P C T L : Nat} {ok : Nat → Bool} {fb : Nat → Nat} (hb : bkI σ P C) (hA : plA σ (C ^ P) ok fb L) (hT : σ 7 14 = nI T) (hT9 : T ≤ 9) (hf : ∀ c, c < C ^ P → fb c < 2 ^ T) (w : Nat → Int32) (h1 : σ 17 1 = nI (spotsN P C w)) (h2 : σ 17 2 = nI (sharesN P C w)) (a : Int32) :
    Mt YC mX5_accepts (d + 3) [.ref 7, .ref 17, .int a] σ (fun r τ => (anyN (C ^ P) (lf ok (mkF P C T w a fb) L) = false ∧ r = some (.int 0) ∧ ∃ R, lqP (qq (knB ok (mkF P C T w a fb) (C ^ P)) (T + 1) L) (2 ^ (T + 1)) R ∧ acc0 σ (C ^ P) R τ) ∨ (anyN (C ^ P) (lf ok (mkF P C T w a fb) L) = true ∧ r = some (.int 1) ∧ ∃ v, (∀ c, c < C ^ P → v c = nI (mkF P C T w a fb c)) ∧ τ = acc1 σ (C ^ P) T a (lf ok (mkF P C T w a fb) L) v)) := by
  refine Mt.ofA [some (.ref 7), some (.ref 17), some (.int a)] (by decide) (fun _ => Nat.le_of_ble_eq_true rfl) (fun _ => rfl) (fun g hc => ?_)
  obtain ⟨a1, a2, a3, a4, a5⟩ := hA
  have hp := pow10 (T := T + 1) (by omega)
  have hlt : ∀ c, c < C ^ P → mkF P C T w a fb c < 2 ^ (T + 1) := fun c hc => mkF_lt (hf c hc)
  refine st_aload_n hc dX5_accepts_0 rfl rfl ?_
  refine st_aload_n hc dX5_accepts_1 rfl rfl ?_
  refine st_iload_n hc dX5_accepts_2 rfl rfl ?_
  refine st_callVn hc dX5_accepts_3 (C5_markFalse (d) σ hb hT (by omega) (fun c hc => (a5 c hc).2.1) w h1 h2 a) mvX5_104 (by omega) rfl rfl rfl (Nat.le_of_ble_eq_true rfl) ?_
  rintro τ1 ⟨v, hv, e⟩
  subst e
  have hA2 : plA (va_up σ 15 v) (C ^ P) ok (mkF P C T w a fb) L := ⟨by simp [va_up, a1], a2, by simp [va_up, a3], a4, fun c hc => ⟨by simp [va_up, (a5 c hc).1], by rw [vu_s]; exact hv c hc, by have := hlt c hc; omega⟩⟩
  refine st_aload_n hc dX5_accepts_6 rfl rfl ?_
  refine st_callVp hc dX5_accepts_7 (C5_anyLeft d (va_up σ 15 v) hA2) mvX5_108 (by omega) rfl rfl rfl (Nat.le_of_ble_eq_true rfl) ?_
  refine st_if_ne (tgt := 37) hc dX5_accepts_10 (by decide) (fun h10 => ?_) (fun h10 => ?_)
  · have hany := bI_t h10
    refine st_aload_n hc dX5_accepts_37 rfl rfl ?_
    refine st_getr hc dX5_accepts_38 flX5_119 rfl rfl ?_
    refine st_iconst (v := 0) hc dX5_accepts_41 (by decide) ?_
    refine st_aload_n hc dX5_accepts_42 rfl rfl ?_
    refine st_getr hc dX5_accepts_43 flX5_18 rfl rfl ?_
    refine st_aload_n hc dX5_accepts_46 rfl rfl ?_
    refine st_getE hc dX5_accepts_47 flX5_54 rfl rfl ((by simp [va_up, hT] : _ = nI T)) ?_
    refine st_iconst (v := 5) hc dX5_accepts_50 (by decide) ?_
    refine st_imul hc dX5_accepts_51 ?_
    refine st_iconst (v := 5) hc dX5_accepts_52 (by decide) ?_
    refine st_acopy (s := 0) (t := 5 * T) (m := 5) hc dX5_accepts_53 lkcpy5_122 (by omega) rfl rfl (rfl) (by rw [show (5 : Int32) = nI 5 from rfl, pk_mul, Nat.mul_comm]) (rfl) (by omega) (by omega) (by decide) (by decide) (Nat.le_of_ble_eq_true rfl) ?_
    rw [vu_n (show (18 : Nat) ≠ 15 by decide), vu_n (show (11 : Nat) ≠ 15 by decide)]
    refine st_aload_n hc dX5_accepts_56 rfl rfl ?_
    refine st_getr hc dX5_accepts_57 flX5_22 rfl rfl ?_
    refine st_aload_n hc dX5_accepts_60 rfl rfl ?_
    refine st_getE hc dX5_accepts_61 flX5_54 rfl rfl ((by simp [va_up, hT] : _ = nI T)) ?_
    refine st_iload_n hc dX5_accepts_64 rfl rfl ?_
    refine st_iastN (k := T) hc dX5_accepts_65 rfl (rfl) (by omega) (by first | decide | omega)  ?_
    refine st_aload_n hc dX5_accepts_66 rfl rfl ?_
    refine st_dup hc dX5_accepts_67 rfl ?_
    refine st_getE hc dX5_accepts_68 flX5_54 rfl rfl ((by simp [va_up, up_eq, hT] : _ = nI T)) ?_
    refine st_iconst (v := 1) hc dX5_accepts_71 (by decide) ?_
    refine st_iadd hc dX5_accepts_72 ?_
    rw [nI_1]
    refine st_put hc dX5_accepts_73 fpX5_54 rfl rfl  ?_
    refine st_aload_n hc dX5_accepts_76 rfl rfl ?_
    refine st_callVn hc dX5_accepts_77 (C5_findLeft (d) _ (N := C ^ P) (L := L) (ok := ok) (fb := mkF P C T w a fb) ⟨by simp [va_up, up_eq, a1], a2, by simp [va_up, up_eq, a3], a4, fun c hc => ⟨by simp [va_up, up_eq, (a5 c hc).1], by simp [va_up, up_eq]; exact hv c hc, by have := hlt c hc; omega⟩⟩) mvX5_77 (by omega) rfl rfl rfl (Nat.le_of_ble_eq_true rfl) ?_
    rintro τ1 e
    subst e
    refine st_iconst (v := 1) hc dX5_accepts_80 (by decide) ?_
    refine st_zret (st := []) hc dX5_accepts_81 rfl (Or.inr rfl) ?_
    exact Or.inr ⟨hany, rfl, v, hv, rfl⟩
  · have hany := bI_0.mp h10
    refine st_aload_n hc dX5_accepts_13 rfl rfl ?_
    refine st_aload_n hc dX5_accepts_14 rfl rfl ?_
    refine st_getr hc dX5_accepts_15 flX5_12 rfl rfl ?_
    refine st_aload_n hc dX5_accepts_18 rfl rfl ?_
    refine st_aload_n hc dX5_accepts_19 rfl rfl ?_
    refine st_getE hc dX5_accepts_20 flX5_54 rfl rfl ((by simp [va_up, hT] : _ = nI T)) ?_
    refine st_iconst (v := 1) hc dX5_accepts_23 (by decide) ?_
    refine st_iadd hc dX5_accepts_24 ?_
    rw [nI_1]
    refine st_callV hc dX5_accepts_25 (C6_leastQuarrel d (va_up σ 15 v) hA2 (by omega) hlt) mvX5_112 (by omega) rfl rfl rfl (Nat.le_of_ble_eq_true rfl) ?_
    rintro r τ1 ⟨R, er, hR, hE⟩
    subst er
    show aW g YC 3 _ _ _ (.int (nI R) :: .ref 7 :: []) τ1
    refine st_put hc dX5_accepts_28 fpX5_57 rfl rfl  ?_
    refine st_aload_n hc dX5_accepts_31 rfl rfl ?_
    refine st_callVn hc dX5_accepts_32 (C5_unmark (d + 2) (up τ1 7 15 (nI R)) (N := C ^ P) (T := T) (fb := mkF P C T w a fb) (by simp [up_eq]; rw [hE 1 (by omega)]; exact a1) a2 (by simp [up_eq]; rw [hE 7 (by omega)]; exact hT) (by omega) (fun c hc => ⟨by rw [up_o 15 (by decide), hE 15 (by omega), vu_s]; exact hv c hc, hlt c hc⟩)) mvX5_116 (by omega) rfl rfl rfl (Nat.le_of_ble_eq_true rfl) ?_
    rintro τ2 ⟨u, hu, e⟩
    subst e
    refine st_iconst (v := 0) hc dX5_accepts_35 (by decide) ?_
    refine st_zret (st := []) hc dX5_accepts_36 rfl (Or.inl rfl) ?_
    refine Or.inl ⟨hany, rfl, R, hR, ?_, fun c hc => ?_, fun x hx => ?_⟩
    · rw [vu_n (by decide), up_k, hE 7 (by omega), vu_n (by decide)]
    · rw [vu_s, hu c hc, mkF_mod (hf c hc)]; exact (a5 c hc).2.1.symm
    · rw [vu_n (by omega), up_o x (by omega), hE x (by omega), vu_n (by omega)]

