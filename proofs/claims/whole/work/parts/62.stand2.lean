/-! ===== the class: entries and standing ===== -/
theorem C1_slotOf (d : Nat) (σ : St) {b R : Nat} (hY : frY b R 2048) {E x : Nat} {sl sh : Nat → Nat} (hx : x < 2 ^ 40) (hER : E < R) (hsl : ∀ p, p < 2048 → σ (b + 7) p = nI (sl p) ∧ sl p ≤ E) (hcn : cnt 2048 (fun p => !(sl p == 0)) ≤ E) (hsh : ∀ e, e < E → lg σ (b + 6) e = lN (sh e) ∧ sh e < 2 ^ 40) : Mt YC mX1_slotOf d [.ref b, .long (lN x)] σ (fun r τ => ∃ p, r = some (.int (nI p)) ∧ p < 2048 ∧ (sl p = 0 ∨ (0 < sl p ∧ sh (sl p - 1) = x)) ∧ τ = σ) := by
  obtain ⟨y0, y1, y2, y3, y4, y5, y6, y7, y8, y9, yR, -, -, -⟩ := id hY
  refine Mt.ofA [some (.ref b), some (.long (lN x)), none, none, none, none] (by decide) (fun _ => Nat.le_of_ble_eq_true rfl) (fun _ => rfl) (fun g hc => ?_)
  have k13 : ∀ h, h < 2048 → (∀ i, i < 0 → ¬ sl ((h + i) % 2048) = 0) → ∀ x5, aW g YC 6 (fun r τ => ∃ p, r = some (.int (nI p)) ∧ p < 2048 ∧ (sl p = 0 ∨ (0 < sl p ∧ sh (sl p - 1) = x)) ∧ τ = σ) 13 [some (.ref b), some (.long (lN x)), none, some (.int (nI ((h + 0) % 2048))), some (.int (nI 0)), x5] [] σ := by
    intro h hh
    refine lpN (n := 2048) (F := fun j => (∀ i, i < j → ¬ sl ((h + i) % 2048) = 0) → ∀ x5, aW g YC 6 (fun r τ => ∃ p, r = some (.int (nI p)) ∧ p < 2048 ∧ (sl p = 0 ∨ (0 < sl p ∧ sh (sl p - 1) = x)) ∧ τ = σ) 13 [some (.ref b), some (.long (lN x)), none, some (.int (nI ((h + j) % 2048))), some (.int (nI j)), x5] [] σ) (fun hz x5 => ?_) (fun j hj ih hz x5 => ?_)
    · exfalso
      have hfull : cnt 2048 (fun p => !(sl p == 0)) = cnt 2048 (fun p => decide (p < 2048)) := cnt_congr (n := 2048) (p := fun p => !(sl p == 0)) (q := fun p => decide (p < 2048)) (fun p hp => by
        have := hz ((p + 2048 - h) % 2048) (Nat.mod_lt _ (by decide))
        rw [show (h + (p + 2048 - h) % 2048) % 2048 = p by omega] at this
        rw [decide_eq_true hp, beq_false_of_ne this]
        rfl)
      rw [cnt_lt'] at hfull
      omega
    · have hp : (h + j) % 2048 < 2048 := Nat.mod_lt _ (by decide)
      generalize hpp : (h + j) % 2048 = p at *
      obtain ⟨s1, s2⟩ := hsl p hp
      have hand : nI (p + 1) &&& 2047 = nI ((h + (j + 1)) % 2048) := by
        rw [show (2047 : Int32) = nI 2047 from rfl, nI_and, show (2047 : Nat) = 2 ^ 11 - 1 from rfl, Nat.and_two_pow_sub_one_eq_mod]
        congr 1
        omega
      refine st_iload hc dX1_slotOf_13 rfl ?_
      refine st_sipush (v := 2048) hc dX1_slotOf_15 (by decide) ?_
      refine st_icmp_ge (tgt := 64) hc dX1_slotOf_18 (by decide) (fun h18 => ?_) (fun h18 => ?_)
      · exact absurd h18 (nI_ge (b := 2048) hj (by decide))
      · refine st_aload_n hc dX1_slotOf_21 rfl rfl ?_
        refine st_getr hc dX1_slotOf_22 flX1_45 y0 rfl ?_
        refine st_iload_n hc dX1_slotOf_25 rfl rfl ?_
        refine st_ialdN (k := p) hc dX1_slotOf_26 y7 (rfl) (by omega) (by first | decide | omega) (s1) ?_
        refine st_iconst (v := 1) hc dX1_slotOf_27 (by decide) ?_
        refine st_isub hc dX1_slotOf_28 ?_
        refine st_istore hc dX1_slotOf_29 (by decide) rfl ?_
        refine st_iload hc dX1_slotOf_31 rfl ?_
        refine st_if_lt (tgt := 48) hc dX1_slotOf_33 (by decide) (fun h33 => ?_) (fun h33 => ?_)
        · have h33 : sl p = 0 := by
            rcases Nat.eq_zero_or_pos (sl p) with z | z
            · exact z
            · rw [show (1 : Int32) = nI 1 from rfl, nI_sub z] at h33; exact absurd h33 (nI_pos (by omega))
          refine st_iload_n hc dX1_slotOf_48 rfl rfl ?_
          refine st_iret (st := []) hc dX1_slotOf_49 rfl ?_
          first
           | exact ⟨p, rfl, hp, Or.inl h33, rfl⟩
           | exact ⟨p, rfl, hp, Or.inr ⟨h33, h45⟩, rfl⟩
        · have h33 : 0 < sl p := by
            rcases Nat.eq_zero_or_pos (sl p) with z | z
            · rw [z] at h33; exact absurd (by decide) h33
            · exact z
          obtain ⟨q1, q2⟩ := hsh (sl p - 1) (by omega)
          rw [show (1 : Int32) = nI 1 from rfl, nI_sub h33]
          refine st_aload_n hc dX1_slotOf_36 rfl rfl ?_
          refine st_getr hc dX1_slotOf_37 flX1_41 y0 rfl ?_
          refine st_iload hc dX1_slotOf_40 rfl ?_
          refine st_laldN (k := sl p - 1) hc dX1_slotOf_42 y6 (rfl) (by omega) (by first | decide | omega)  ?_
          rw [show jn (σ (b + 6) (2 * (sl p - 1))) (σ (b + 6) (2 * (sl p - 1) + 1)) = lN (sh (sl p - 1)) from q1]
          refine st_lload_n hc dX1_slotOf_43 rfl rfl ?_
          refine st_lcmp hc dX1_slotOf_44 ?_
          refine st_if_ne (tgt := 50) hc dX1_slotOf_45 (by decide) (fun h45 => ?_) (fun h45 => ?_)
          · have h45 : ¬ sh (sl p - 1) = x := fun z => h45 ((lg_0 _ _).mpr (by rw [z]))
            refine st_iload_n hc dX1_slotOf_50 rfl rfl ?_
            refine st_iconst (v := 1) hc dX1_slotOf_51 (by decide) ?_
            refine st_iadd hc dX1_slotOf_52 ?_
            rw [show (1 : Int32) = nI 1 from rfl, nI_add]
            refine st_sipush (v := 2047) hc dX1_slotOf_53 (by decide) ?_
            refine st_iand hc dX1_slotOf_56 ?_
            rw [hand]
            refine st_istore_n hc dX1_slotOf_57 rfl (by decide) rfl ?_
            refine st_inc hc dX1_slotOf_58 rfl (by decide) rfl ?_
            rw [nI_1]
            refine st_goto (tgt := 13) hc dX1_slotOf_61 (by decide) ?_
            refine ih (fun i hi => ?_) _
            by_cases q : i = j
            · rw [q, hpp]; omega
            · exact hz i (by omega)
          · have h45 : sh (sl p - 1) = x := (lN_eqB (by omega) (by omega)).mp ((lg_0 _ _).mp h45)
            refine st_iload_n hc dX1_slotOf_48 rfl rfl ?_
            refine st_iret (st := []) hc dX1_slotOf_49 rfl ?_
            first
             | exact ⟨p, rfl, hp, Or.inl h33, rfl⟩
             | exact ⟨p, rfl, hp, Or.inr ⟨h33, h45⟩, rfl⟩
  refine st_lload_n hc dX1_slotOf_0 rfl rfl ?_
  refine st_ldc2 hc dX1_slotOf_1 kcX1_121 ?_
  refine st_lmul hc dX1_slotOf_4 ?_
  refine st_bipush (v := 53) hc dX1_slotOf_5 (by decide) ?_
  refine st_lushr hc dX1_slotOf_7 ?_
  refine st_l2i hc dX1_slotOf_8 ?_
  obtain ⟨N, hN, eN⟩ := wb_of (lN x * (-7046029254386353131))
  rw [eN, show (53 : Int32) = nI 53 from rfl, wb_shr hN (by decide), lN_i]
  have hN2 : N / 2 ^ 53 < 2048 := by omega
  generalize N / 2 ^ 53 = h at *
  refine st_istore_n hc dX1_slotOf_9 rfl (by decide) rfl ?_
  refine st_iconst (v := 0) hc dX1_slotOf_10 (by decide) ?_
  refine st_istore hc dX1_slotOf_11 (by decide) rfl ?_
  have h9 := k13 h hN2 (fun i hi => absurd hi (Nat.not_lt_zero i)) none
  rw [Nat.add_zero, Nat.mod_eq_of_lt hN2] at h9
  exact h9
def cutL (n : Nat) (L : Nat → Nat) : Nat → Nat := fun k => if k < n then L k else 0
abbrev tdC (P C n : Nat) (L : Nat → Nat) (any : Bool) : TD := (n, C ^ P, 10 * P, !any, fun g k => ans P C (cw P C g) (cutL n L k), cutL n L)
theorem cutL_lt {n k : Nat} {L : Nat → Nat} (h : k < n) : cutL n L k = L k := if_pos h
theorem tdC_G {P C n : Nat} {L : Nat → Nat} {any : Bool} (hz : szOK P C) (h1 : 1 ≤ n) (h10 : n ≤ 10) (hL : ∀ k, k < n → L k < C ^ P) (hr : ∀ j k, j < k → k < n → L j < L k) : tG (tdC P C n L any) := by
  obtain ⟨z1, z2, z3, z4, z5⟩ := hz
  refine ⟨⟨h10, fun k hk => ?_, fun g k hk => ?_⟩, h1, fun j k hj hk => ?_, fun k hk => ?_, fun g k hg hk e => ?_, ?_⟩
  · exact ans_self z3 z4 (cutL n L k)
  · have := ans_50 z2 (C := C) (cw P C g) (cutL n L k); show ans _ _ _ _ < 60; omega
  · show cutL n L j < cutL n L k
    rw [cutL_lt (show j < n from Nat.lt_trans hj hk), cutL_lt hk]; exact hr j k hj hk
  · show cutL n L k < C ^ P
    rw [cutL_lt hk]; exact hL k hk
  · exact (ans_full z1 z2 z3 z4 hg (by show cutL n L k < C ^ P; rw [cutL_lt hk]; exact hL k hk) e).symm
  · show 10 * P < 60; omega
def cgF (any : Bool) (n : Nat) (L : Nat → Nat) (i : Nat) : Nat := if any = true then i else cutL n L i
/-- what stands while entries come: all but the book's and the play's cells is free within the forest -/
def stI (σ0 : St) (b P C n : Nat) (L : Nat → Nat) (any : Bool) (i : Nat) (E : Ent) (τ : St) : Prop := (∀ a, ¬ (b ≤ a ∧ a ≤ b + 9) → τ a = σ0 a) ∧ τ b 4 = nI P ∧ τ b 5 = nI C ∧ frD τ b (tdC P C n L any) E ∧ (∀ x, x < 11264 → τ (b + 9) x = 0) ∧ (∀ e e', e < e' → e' < eN E → eG E e < eG E e') ∧ (∀ e, e < eN E → lg τ (b + 6) e = lN (shp n (eL E e))) ∧ (any = true → ∃ sl : Nat → Nat, (∀ p, p < 2048 → τ (b + 7) p = nI (sl p) ∧ sl p ≤ eN E) ∧ cnt 2048 (fun p => !(sl p == 0)) ≤ eN E) ∧ eN E ≤ i ∧ (∀ j, j < i → ∃ e, e < eN E ∧ eG E e ≤ cgF any n L j ∧ (any = false → eG E e = cgF any n L j) ∧ ∃ M lb, Lab (tA (tdC P C n L any) (cgF any n L j)) (10 * P) n M lb ∧ ∀ k, k < n → eL E e k = lb k) ∧ ∀ e, e < eN E → ∃ j, j < i ∧ eG E e = cgF any n L j
abbrev extE (E : Ent) (g M : Nat) (lb : Nat → Nat) : Ent := (eN E + 1, ext E.2.1 (eN E) g, ext E.2.2.1 (eN E) M, fun e => if e = eN E then lb else E.2.2.2 e)
theorem extE_g {E : Ent} {g M e : Nat} {lb : Nat → Nat} (h : e < eN E) : eG (extE E g M lb) e = eG E e ∧ eM (extE E g M lb) e = eM E e ∧ ∀ k, eL (extE E g M lb) e k = eL E e k := ⟨ext_n (by omega), ext_n (by omega), fun k => by show (if e = eN E then lb else E.2.2.2 e) k = _; rw [if_neg (by omega)]⟩
theorem extE_n {E : Ent} {g M : Nat} {lb : Nat → Nat} : eG (extE E g M lb) (eN E) = g ∧ eM (extE E g M lb) (eN E) = M ∧ ∀ k, eL (extE E g M lb) (eN E) k = lb k := ⟨ext_s, ext_s, fun k => by show (if eN E = eN E then lb else _) k = _; rw [if_pos rfl]⟩
theorem C1_enter (d : Nat) (σ0 : St) {b R SL : Nat} (hY : frY b R SL) {P C n i : Nat} {L : Nat → Nat} {any : Bool} {E : Ent} (hSL : any = true → SL = 2048) (hb : bkI σ0 P C) (ht : tG (tdC P C n L any)) (hcg : ∀ j, j < i → cgF any n L j < cgF any n L i) (hci : cgF any n L i < C ^ P) (hiR : i < R) (σ : St) (hσ : stI σ0 b P C n L any i E σ) : Mt YC mX1_enter (d + 4) [.ref b, .int (nI (cgF any n L i))] σ (fun r τ => r = none ∧ ∃ E', stI σ0 b P C n L any (i + 1) E' τ) := by
  obtain ⟨y0, y1, y2, y3, y4, y5, y6, y7, y8, y9, yR, -, yb1, yb2⟩ := id hY
  obtain ⟨s1, s2, s3, s4, s5, s6, s7, s8, s9, s10, s11⟩ := id hσ
  obtain ⟨d1, d2, d3, d4, d5⟩ := id s4
  have h10 : n ≤ 10 := ht.1.1
  have hC4 := hb.1.2.1
  have hbk : bkI σ P C := hb.eq (s1 1 (by omega)) (s1 2 (by omega)) (s1 3 (by omega)) (s1 4 (by omega))
  have hLk : ∀ k, k < n → σ (b + 1) k = nI (cutL n L k) ∧ cutL n L k < C ^ P := fun k hk => ⟨d4 k hk, ht.2.2.2.1 k hk⟩
  generalize hgg : cgF any n L i = gg at *
  have hcls := C1_classify d σ hY hbk d2 h10 hLk d3 (by omega) hci
  refine Mt.ofA [some (.ref b), some (.int (nI gg)), none, none, none] (by decide) (fun _ => Nat.le_of_ble_eq_true rfl) (fun _ => rfl) (fun g hc => ?_)
  have klast : ∀ τ1 M lb x4, Lab (tA (tdC P C n L any) gg) (10 * P) n M lb → (∀ a, ¬ (a = b + 4 ∨ a = b + 5 ∨ a = b + 7 ∨ a = b + 8) → τ1 a = σ a) → τ1 (b + 4) (eN E) = nI M → (∀ m, m < M → τ1 (b + 5) (10 * eN E + m) = nI (fbits n (fun k => lb k == m))) → (∀ x, ¬ x = eN E → τ1 (b + 4) x = σ (b + 4) x) → (∀ x, ¬ (10 * eN E ≤ x ∧ x < 10 * eN E + 10) → τ1 (b + 5) x = σ (b + 5) x) → (any = true → ∃ sl : Nat → Nat, (∀ p, p < 2048 → τ1 (b + 7) p = nI (sl p) ∧ sl p ≤ eN E + 1) ∧ cnt 2048 (fun p => !(sl p == 0)) ≤ eN E + 1) → aW g YC 5 (fun r τ => r = none ∧ ∃ E', stI σ0 b P C n L any (i + 1) E' τ) 57 [some (.ref b), some (.int (nI gg)), some (.long (lN (shp n lb))), none, x4] [] τ1 := by
    intro τ1 M lb x4 hlab u1 u2 u3 u4 u5 u6
    have v1 : τ1 b = σ b := u1 b (by omega)
    have hbit := C1_bitOf (d + 3) (up τ1 (b + 2) (eN E) (nI gg)) hY (n := n) (gg := gg) (L := cutL n L) (by rw [up_o b (by omega), v1]; exact d2) h10 (fun k hk => ⟨by rw [up_o (b + 1) (by omega), u1 (b + 1) (by omega)]; exact d4 k hk, by have := (hLk k hk).2; omega⟩) (fun j k hj hk e => ht.inj hj hk e) (by omega)
    refine st_aload_n hc dX1_enter_57 rfl rfl ?_
    refine st_getr hc dX1_enter_58 flX1_29 y0 rfl ?_
    refine st_aload_n hc dX1_enter_61 rfl rfl ?_
    refine st_getE hc dX1_enter_62 flX1_92 y0 rfl ((by simp [up_eq, upL_eq, v1, d3] : _ = nI (eN E))) ?_
    refine st_iload_n hc dX1_enter_65 rfl rfl ?_
    refine st_iastN (k := eN E) hc dX1_enter_66 y2 (rfl) (by omega) (by first | decide | omega)  ?_
    refine st_aload_n hc dX1_enter_67 rfl rfl ?_
    refine st_getr hc dX1_enter_68 flX1_32 y0 rfl ?_
    refine st_aload_n hc dX1_enter_71 rfl rfl ?_
    refine st_getE hc dX1_enter_72 flX1_92 y0 rfl ((by simp [up_eq, upL_eq, v1, d3] : _ = nI (eN E))) ?_
    refine st_aload_n hc dX1_enter_75 rfl rfl ?_
    refine st_iload_n hc dX1_enter_76 rfl rfl ?_
    refine st_callVq hc dX1_enter_77 (hbit) mvX1_110 (by omega) rfl y0 rfl (Nat.le_of_ble_eq_true rfl) ?_
    rintro τ2 e2; subst e2
    refine st_iastN (k := eN E) hc dX1_enter_80 y3 (rfl) (by omega) (by first | decide | omega)  ?_
    refine st_aload_n hc dX1_enter_81 rfl rfl ?_
    refine st_getr hc dX1_enter_82 flX1_41 y0 rfl ?_
    refine st_aload_n hc dX1_enter_85 rfl rfl ?_
    refine st_getE hc dX1_enter_86 flX1_92 y0 rfl ((by simp [up_eq, upL_eq, v1, d3] : _ = nI (eN E))) ?_
    refine st_lload_n hc dX1_enter_89 rfl rfl ?_
    refine st_lastN (k := eN E) hc dX1_enter_90 y6 (rfl) (by omega) (by first | decide | omega)  ?_
    refine st_aload_n hc dX1_enter_91 rfl rfl ?_
    refine st_dup hc dX1_enter_92 rfl ?_
    refine st_getE hc dX1_enter_93 flX1_92 y0 rfl ((by simp [up_eq, upL_eq, v1, d3] : _ = nI (eN E))) ?_
    refine st_iconst (v := 1) hc dX1_enter_96 (by decide) ?_
    refine st_iadd hc dX1_enter_97 ?_
    rw [nI_1]
    refine st_put hc dX1_enter_98 fpX1_92 y0 rfl  ?_
    refine st_vret (st := []) hc dX1_enter_101 rfl ?_
    refine ⟨rfl, extE E gg M lb, fun a ha => ?_, ?_, ?_, ⟨?_, ?_, ?_, fun k hk => ?_, fun e he => ?_⟩, fun x hx => ?_, fun e e' he he' => ?_, fun e he => ?_, fun ha => ?_, ?_, fun j hj => ?_, fun e he => ?_⟩
    · rw [up_o a (by omega), upL_o a (by omega), up_o a (by omega), up_o a (by omega), u1 a (by omega)]; exact s1 a ha
    · simp [up_eq, upL_eq, v1, s2]
    · simp [up_eq, upL_eq, v1, s3]
    · simp [up_eq, upL_eq, v1]; exact d1
    · simp [up_eq, upL_eq, v1]; exact d2
    · simp [up_eq]
    · have : up (upL (up (up τ1 (b + 2) (eN E) (nI gg)) (b + 3) (eN E) (nI (fbits n (fun k => cutL n L k == gg)))) (b + 6) (eN E) (lN (shp n lb))) b 6 (nI (eN E + 1)) (b + 1) k = σ (b + 1) k := by simp [up_eq, upL_eq, u1 (b + 1) (by omega)]
      rw [this]; exact d4 k hk
    · by_cases q : e = eN E
      · subst q
        obtain ⟨x1, x2, x3⟩ := extE_n (E := E) (g := gg) (M := M) (lb := lb)
        refine ⟨by simp [up_eq, upL_eq, x1], by rw [x1]; simp [up_eq, upL_eq], by rw [x2]; simp [up_eq, upL_eq, u2], fun m hm => ?_, by rw [x1]; exact hci, ?_⟩
        · rw [x2] at hm
          simp only [x3]
          rw [← u3 m hm]
          simp [up_eq, upL_eq]
        · rw [x1, x2]
          have : (eL (extE E gg M lb) (eN E)) = lb := funext x3
          rw [this]
          exact hlab
      · have he2 : e < eN E := by have : e < eN E + 1 := he; omega
        obtain ⟨x1, x2, x3⟩ := extE_g (E := E) (g := gg) (M := M) (lb := lb) he2
        obtain ⟨r1, r2, r3, r4, r5, r6⟩ := d5 e he2
        refine ⟨?_, ?_, ?_, fun m hm => ?_, by rw [x1]; exact r5, ?_⟩
        · rw [x1, ← r1]; simp [up_eq, upL_eq, q, u1 (b + 2) (by omega)]
        · rw [x1, ← r2]; simp [up_eq, upL_eq, q, u1 (b + 3) (by omega)]
        · rw [x2, ← r3, ← u4 e q]; simp [up_eq, upL_eq]
        · rw [x2] at hm
          simp only [x3]
          have hM10 := r6.1
          have hM10 : eM E e ≤ n := hM10
          rw [← r4 m hm, ← u5 (10 * e + m) (by omega)]; simp [up_eq, upL_eq]
        · rw [x1, x2]
          have : (eL (extE E gg M lb) e) = eL E e := funext x3
          rw [this]
          exact r6
    · have : ∀ z, up (upL (up (up τ1 (b + 2) (eN E) (nI gg)) (b + 3) (eN E) (nI (fbits n (fun k => cutL n L k == gg)))) (b + 6) (eN E) (lN (shp n lb))) b 6 z (b + 9) x = σ (b + 9) x := fun z => by simp [up_eq, upL_eq, u1 (b + 9) (by omega)]
      rw [this]; exact s5 x hx
    · have he' : e' < eN E + 1 := he'
      by_cases q : e' = eN E
      · subst q
        rw [extE_n.1, (extE_g he).1]
        obtain ⟨j, j1, j2⟩ := s11 e he
        rw [j2]; exact hcg j j1
      · rw [(extE_g (show e < eN E by omega)).1, (extE_g (show e' < eN E by omega)).1]
        exact s6 e e' he (by omega)
    · have he : e < eN E + 1 := he
      rw [lg_i (by omega), lg_up]
      by_cases q : e = eN E
      · subst q
        rw [if_pos ⟨rfl, rfl⟩]
        rw [shp_congr (fun k _ => extE_n.2.2 k)]
      · rw [if_neg (fun z => q z.2), lg_i (by omega), lg_i (by omega)]
        have := s7 e (by omega)
        rw [shp_congr (fun k _ => (extE_g (E := E) (g := gg) (M := M) (lb := lb) (show e < eN E by omega)).2.2 k), ← this]
        unfold lg; rw [u1 (b + 6) (by omega)]
    · obtain ⟨sl, l1, l2⟩ := u6 ha
      exact ⟨sl, fun p hp => ⟨by rw [← (l1 p hp).1]; simp [up_eq, upL_eq], (l1 p hp).2⟩, l2⟩
    · show eN E + 1 ≤ i + 1; omega
    · by_cases q : j = i
      · subst q
        refine ⟨eN E, by show eN E < eN E + 1; omega, by rw [extE_n.1, hgg]; exact Nat.le_refl _, fun _ => by rw [extE_n.1, hgg], M, lb, by rw [hgg]; exact hlab, fun k hk => extE_n.2.2 k⟩
      · obtain ⟨e, e1, e2, e3, M', lb', e4, e5⟩ := s10 j (by omega)
        obtain ⟨x1, x2, x3⟩ := extE_g (E := E) (g := gg) (M := M) (lb := lb) e1
        exact ⟨e, by show e < eN E + 1; omega, by rw [x1]; exact e2, fun z => by rw [x1]; exact e3 z, M', lb', e4, fun k hk => by rw [x3]; exact e5 k hk⟩
    · have he : e < eN E + 1 := he
      by_cases q : e = eN E
      · subst q; exact ⟨i, by omega, by rw [extE_n.1, hgg]⟩
      · obtain ⟨j, j1, j2⟩ := s11 e (by omega)
        exact ⟨j, by omega, by rw [(extE_g (show e < eN E by omega)).1]; exact j2⟩
  refine st_aload_n hc dX1_enter_0 rfl rfl ?_
  refine st_getE hc dX1_enter_1 flX1_92 y0 rfl (d3) ?_
  refine st_aload_n hc dX1_enter_4 rfl rfl ?_
  refine st_getr hc dX1_enter_5 flX1_29 y0 rfl ?_
  refine st_alen hc dX1_enter_8 y2 (by decide) rfl ?_
  refine st_icmp_lt (tgt := 13) hc dX1_enter_9 (by decide) (fun h9 => ?_) (fun h9 => ?_)
  · refine st_aload_n hc dX1_enter_13 rfl rfl ?_
    refine st_iload_n hc dX1_enter_14 rfl rfl ?_
    refine st_callV hc dX1_enter_15 hcls mvX1_102 (by omega) rfl y0 rfl (Nat.le_of_ble_eq_true rfl) ?_
    rintro r τ1 ⟨M, lb, hlab, er, t1, t2, t3, t4, t5⟩
    subst er
    show aW g YC 5 _ _ _ (.long (lN (shp n lb)) :: []) τ1
    refine st_lstore_n hc dX1_enter_18 rfl (by decide) rfl ?_
    refine st_aload_n hc dX1_enter_19 rfl rfl ?_
    refine st_getE hc dX1_enter_20 flX1_25 y0 rfl ((by rw [t5 b (by omega)]; exact d1 : _ = bI (!!any))) ?_
    refine st_if_eq (tgt := 57) hc dX1_enter_23 (by decide) (fun h23 => ?_) (fun h23 => ?_)
    · have hany : any = false := by simpa using bI_0.mp h23
      first
       | exact klast τ1 M lb _ hlab (fun a ha => t5 a (by omega)) t1 t2 t3 t4 (fun z => absurd (hany.symm.trans z) (by decide))
       | (refine klast _ M lb _ hlab (fun a ha => by rw [up_o a (by omega)]; exact t5 a (by omega)) (by rw [up_o (b + 4) (by omega)]; exact t1) (fun m hm => by rw [up_o (b + 5) (by omega)]; exact t2 m hm) (fun x hx => by rw [up_o (b + 4) (by omega)]; exact t3 x hx) (fun x hx => by rw [up_o (b + 5) (by omega)]; exact t4 x hx) (fun _ => ⟨ext sl p (eN E + 1), fun q hq => ?_, ?_⟩)
          · by_cases z : q = p
            · subst z; rw [ext_s]; exact ⟨by simp [up_eq], Nat.le_refl _⟩
            · rw [ext_n z]; exact ⟨by rw [up_eq, if_neg (fun y => z y.2), t5 (b + 7) (by omega)]; exact (l1 q hq).1, by have := (l1 q hq).2; omega⟩
          · have := cnt_upd1 (n := 2048) (x := p) (p := fun q => !(sl q == 0)) (q := fun q => !(ext sl p (eN E + 1) q == 0)) p1 (by rw [h40]; rfl) (by rw [ext_s]; simp) (fun q _ hq => by rw [ext_n hq])
            omega)
    · have hany : any = true := by simpa using bI_t h23
      obtain ⟨sl, l1, l2⟩ := s8 hany
      have hSL2 := hSL hany
      subst hSL2
      refine st_aload_n hc dX1_enter_26 rfl rfl ?_
      refine st_lload_n hc dX1_enter_27 rfl rfl ?_
      refine st_callV hc dX1_enter_28 (C1_slotOf (d + 3) τ1 hY (E := eN E) (x := shp n lb) (sl := sl) (sh := fun e => shp n (eL E e)) (shp_lt n lb) (by omega) (fun p hp => ⟨by rw [t5 (b + 7) (by omega)]; exact (l1 p hp).1, (l1 p hp).2⟩) l2 (fun e he => ⟨by unfold lg; rw [t5 (b + 6) (by omega)]; exact s7 e he, shp_lt n _⟩)) mvX1_106 (by omega) rfl y0 rfl (Nat.le_of_ble_eq_true rfl) ?_
      rintro r τ2 ⟨p, er, p1, p2, e2⟩
      subst er e2
      show aW g YC 5 _ _ _ (.int (nI p) :: []) τ2
      refine st_istore hc dX1_enter_31 (by decide) rfl ?_
      refine st_aload_n hc dX1_enter_33 rfl rfl ?_
      refine st_getr hc dX1_enter_34 flX1_45 y0 rfl ?_
      refine st_iload hc dX1_enter_37 rfl ?_
      refine st_ialdN (k := p) hc dX1_enter_39 y7 (rfl) (by omega) (by first | decide | omega) ((by rw [t5 (b + 7) (by omega)]; exact (l1 p p1).1 : _ = nI (sl p))) ?_
      refine st_if_eq (tgt := 44) hc dX1_enter_40 (by decide) (fun h40 => ?_) (fun h40 => ?_)
      · have h40 : sl p = 0 := nI_inj (b := 0) (by have := (l1 p p1).2; omega) (by decide) h40
        refine st_aload_n hc dX1_enter_44 rfl rfl ?_
        refine st_getr hc dX1_enter_45 flX1_45 y0 rfl ?_
        refine st_iload hc dX1_enter_48 rfl ?_
        refine st_aload_n hc dX1_enter_50 rfl rfl ?_
        refine st_getE hc dX1_enter_51 flX1_92 y0 rfl ((by rw [t5 b (by omega)]; exact d3 : _ = nI (eN E))) ?_
        refine st_iconst (v := 1) hc dX1_enter_54 (by decide) ?_
        refine st_iadd hc dX1_enter_55 ?_
        rw [nI_1]
        refine st_iastN (k := p) hc dX1_enter_56 y7 (rfl) (by omega) (by first | decide | omega)  ?_
        first
         | exact klast τ1 M lb _ hlab (fun a ha => t5 a (by omega)) t1 t2 t3 t4 (fun z => absurd (hany.symm.trans z) (by decide))
         | (refine klast _ M lb _ hlab (fun a ha => by rw [up_o a (by omega)]; exact t5 a (by omega)) (by rw [up_o (b + 4) (by omega)]; exact t1) (fun m hm => by rw [up_o (b + 5) (by omega)]; exact t2 m hm) (fun x hx => by rw [up_o (b + 4) (by omega)]; exact t3 x hx) (fun x hx => by rw [up_o (b + 5) (by omega)]; exact t4 x hx) (fun _ => ⟨ext sl p (eN E + 1), fun q hq => ?_, ?_⟩)
            · by_cases z : q = p
              · subst z; rw [ext_s]; exact ⟨by simp [up_eq], Nat.le_refl _⟩
              · rw [ext_n z]; exact ⟨by rw [up_eq, if_neg (fun y => z y.2), t5 (b + 7) (by omega)]; exact (l1 q hq).1, by have := (l1 q hq).2; omega⟩
            · have := cnt_upd1 (n := 2048) (x := p) (p := fun q => !(sl q == 0)) (q := fun q => !(ext sl p (eN E + 1) q == 0)) p1 (by rw [h40]; rfl) (by rw [ext_s]; simp) (fun q _ hq => by rw [ext_n hq])
              omega)
      · have hdup : 0 < sl p ∧ shp n (eL E (sl p - 1)) = shp n lb := by
          rcases p2 with z | z
          · exact absurd (by rw [z]; rfl) h40
          · exact z
        have hle := (l1 p p1).2
        refine st_vret (st := []) hc dX1_enter_43 rfl ?_
        refine ⟨rfl, E, fun a ha => (t5 a (by omega)).trans (s1 a ha), ?_, ?_, ⟨?_, ?_, ?_, fun k hk => ?_, fun e he => ?_⟩, fun x hx => ?_, s6, fun e he => ?_, fun _ => ⟨sl, fun p hp => ⟨by rw [t5 (b + 7) (by omega)]; exact (l1 p hp).1, (l1 p hp).2⟩, l2⟩, by omega, fun j hj => ?_, fun e he => ?_⟩
        · rw [t5 b (by omega)]; exact s2
        · rw [t5 b (by omega)]; exact s3
        · rw [t5 b (by omega)]; exact d1
        · rw [t5 b (by omega)]; exact d2
        · rw [t5 b (by omega)]; exact d3
        · rw [t5 (b + 1) (by omega)]; exact d4 k hk
        · obtain ⟨r1, r2, r3, r4, r5, r6⟩ := d5 e he
          refine ⟨by rw [t5 (b + 2) (by omega)]; exact r1, by rw [t5 (b + 3) (by omega)]; exact r2, by rw [t3 e (by omega)]; exact r3, fun m hm => ?_, r5, r6⟩
          have hM10 : eM E e ≤ n := r6.1
          rw [t4 (10 * e + m) (by omega)]; exact r4 m hm
        · rw [t5 (b + 9) (by omega)]; exact s5 x hx
        · unfold lg; rw [t5 (b + 6) (by omega)]; exact s7 e he
        · by_cases q : j = i
          · subst q
            obtain ⟨j', j1, j2⟩ := s11 (sl p - 1) (by omega)
            have hlt := hcg j' j1
            refine ⟨sl p - 1, by omega, by rw [j2, hgg]; omega, fun z => absurd (hany.symm.trans z) (by decide), M, lb, by rw [hgg]; exact hlab, fun k hk => ?_⟩
            exact shp_inj h10 (fun k hk => ((d5 (sl p - 1) (by omega)).2.2.2.2.2).lt h10 hk) (fun k hk => hlab.lt h10 hk) hdup.2 k hk
          · exact s10 j (by omega)
        · obtain ⟨j, j1, j2⟩ := s11 e he
          exact ⟨j, by omega, j2⟩
  · exact absurd ((nI_ltI (by omega) (by omega)).mpr (show eN E < R by omega)) h9

