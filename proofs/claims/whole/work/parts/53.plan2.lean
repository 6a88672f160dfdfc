/-! ===== the class: a plan is followed ===== -/
theorem meant_0 (μ : St) (c : Nat) : meant μ c 0 = true := rfl
theorem meant_s {μ : St} (hp : plOK μ) (c : Nat) {k : Nat} (hk : k < plN μ) (h0 : 0 < k) : meant μ c k = ((nI (cA2 μ (pg μ (pf μ k)) c) == μ 31 k) && meant μ c (pf μ k)) := by
  have h1 : meant μ c k = if k = 0 then true else (nI (cA2 μ (pg μ (pf μ k)) c) == μ 31 k) && mea μ c 39 (pf μ k) := rfl
  have hq := ((hp.2.2 k hk).2 h0).1.2
  have h40 := hp.2.1
  rw [h1, if_neg (by omega), mea_fuel hp c 39 40 (pf μ k) (by omega) (by omega) (by omega)]
abbrev wS (μ : St) (c : Nat) (W : Nat → Nat) (j : Nat) : Nat := if meant μ c j = true ∧ ¬ cA2 μ (pg μ j) c = 10 * pN μ then W j ||| 2 ^ cA2 μ (pg μ j) c else W j
def foI (σ μ : St) (c np : Nat) (W : Nat → Nat) (G k : Nat) (τ : St) : Prop := (∀ b, ¬ (b = 52 ∨ b = 59 ∨ b = 60) → τ b = σ b) ∧ τ 52 8 = σ 52 8 ∧ τ 52 9 = σ 52 9 ∧ τ 52 10 = nI (G + cnt k (meant μ c)) ∧ (∀ j, j < k → meant μ c j = true → τ 60 j = nI (cA2 μ (pg μ j) c)) ∧ ∀ j, j < np → lg τ 59 j = lN (if j < k then wS μ c W j else W j)
theorem C4_followCode (d : Nat) (σ μ : St) {c G : Nat} {W : Nat → Nat} (hb : bkI σ (pN μ) (cN μ)) (hR : plR σ μ) (hp : plOK μ) (hN : nN μ = cN μ ^ pN μ) (hcN : c < cN μ ^ pN μ) (hG : σ 52 10 = nI G) (hW : ∀ j, j < plN μ → lg σ 59 j = lN (W j) ∧ W j < 2 ^ 60) : Mt YC mX4_followCode (d + 3) [.ref 52, .ref 1, .int (nI c)] σ (fun r τ => r = none ∧ foI σ μ c (plN μ) W G (plN μ) τ) := by
  obtain ⟨r1, r2, r3⟩ := hR
  obtain ⟨p1, p2, p3⟩ := id hp
  have e43 : μ 0 43 = nI (plN μ) := (nI_nat p1).symm
  have hP5 := hb.1.1.2.1
  have hC4 := hb.1.2.1
  have h50 : ∀ x, cA2 μ x c ≤ 50 := fun x => by have := ans_50 hP5 (C := cN μ) (fun i => nI (pegOf (pN μ) (cN μ) x i)) c; show ans _ _ _ _ ≤ 50; omega
  refine Mt.ofA [some (.ref 52), some (.ref 1), some (.int (nI c)), none, none, none, none] (by decide) (fun _ => Nat.le_of_ble_eq_true rfl) (fun _ => rfl) (fun g hc => ?_)
  have k5 : ∀ τ, foI σ μ c (plN μ) W G 0 τ → aW g YC 7 (fun r τ => r = none ∧ foI σ μ c (plN μ) W G (plN μ) τ) 5 [some (.ref 52), some (.ref 1), some (.int (nI c)), some (.long (lN (fbits 0 (meant μ c)))), none, some (.int (nI 0)), none] [] τ := by
    refine lpN (n := plN μ) (F := fun k => ∀ τ, foI σ μ c (plN μ) W G k τ → aW g YC 7 (fun r τ => r = none ∧ foI σ μ c (plN μ) W G (plN μ) τ) 5 [some (.ref 52), some (.ref 1), some (.int (nI c)), some (.long (lN (fbits k (meant μ c)))), none, some (.int (nI k)), none] [] τ) (fun τ h => ?_) (fun k hk ih τ h => ?_)
    · obtain ⟨f1, f2, f3, f4, f5, f6⟩ := id h
      refine st_iload hc dX4_followCode_5 rfl ?_
      refine st_aload_n hc dX4_followCode_7 rfl rfl ?_
      refine st_getE hc dX4_followCode_8 flX4_38 rfl rfl ((f2.trans (r1.trans e43))) ?_
      refine st_icmp_ge (tgt := 131) hc dX4_followCode_11 (by decide) (fun h11 => ?_) (fun h11 => ?_)
      · refine st_vret (st := []) hc dX4_followCode_131 rfl ?_
        exact ⟨rfl, h⟩
      · exact absurd (nI_le (Nat.le_refl _) (by omega)) h11
    · obtain ⟨f1, f2, f3, f4, f5, f6⟩ := id h
      obtain ⟨s1, s2, s3, s4, s5, s6⟩ := r2 k hk
      obtain ⟨⟨g1, g2⟩, g3⟩ := p3 k hk
      have hbk : bkI τ (pN μ) (cN μ) := hb.eq (f1 1 (by omega)) (f1 2 (by omega)) (f1 3 (by omega)) (f1 4 (by omega))
      have hM : fbits k (meant μ c) < 2 ^ 62 := Nat.lt_of_lt_of_le (fbits_lt k _) (Nat.pow_le_pow_right (by decide) (by omega))
      have hcs : cnt (k + 1) (meant μ c) = cnt k (meant μ c) + (if meant μ c k = true then 1 else 0) := rfl
      have hnot : meant μ c k = false → ∀ x, aW g YC 7 (fun r τ => r = none ∧ foI σ μ c (plN μ) W G (plN μ) τ) 5 [some (.ref 52), some (.ref 1), some (.int (nI c)), some (.long (lN (fbits k (meant μ c)))), none, some (.int (nI (k + 1))), some (.int x)] [] τ := fun hm x => by
        have ih2 := ih τ ⟨f1, f2, f3, by rw [hcs, hm]; exact f4, fun j hj hjm => by
          by_cases e : j = k
          · subst e; rw [hm] at hjm; exact absurd hjm (by decide)
          · exact f5 j (by omega) hjm, fun j hj => by
          rw [f6 j hj]
          by_cases e : j = k
          · subst e
            rw [if_neg (by omega), if_pos (by omega)]
            unfold wS
            rw [if_neg (fun q => by rw [hm] at q; exact absurd q.1 (by decide))]
          · by_cases e2 : j < k
            · rw [if_pos e2, if_pos (by omega)]
            · rw [if_neg e2, if_neg (by omega)]⟩
        rw [fbits_n hm] at ih2
        exact st_lvq _ (by simp [lvq]) ih2
      have hyes : meant μ c k = true → ∀ x, aW g YC 7 (fun r τ => r = none ∧ foI σ μ c (plN μ) W G (plN μ) τ) 56 [some (.ref 52), some (.ref 1), some (.int (nI c)), some (.long (lN (fbits k (meant μ c)))), none, some (.int (nI k)), some (.int x)] [] τ := fun hm x => by
        have hl := h50 (pg μ k)
        have hWk := hW k hk
        rw [hm] at hcs
        have hgk : μ 32 k = nI (pg μ k) := (nI_nat g1).symm
        have hfin : ∀ υ, (∀ b, ¬ (b = 52 ∨ b = 59 ∨ b = 60) → υ b = τ b) → υ 52 8 = τ 52 8 → υ 52 9 = τ 52 9 → υ 52 10 = nI (G + cnt k (meant μ c) + 1) → (∀ j, ¬ j = k → υ 60 j = τ 60 j) → υ 60 k = nI (cA2 μ (pg μ k) c) → (∀ j, ¬ j = k → lg υ 59 j = lg τ 59 j) → lg υ 59 k = lN (wS μ c W k) → aW g YC 7 (fun r τ => r = none ∧ foI σ μ c (plN μ) W G (plN μ) τ) 5 [some (.ref 52), some (.ref 1), some (.int (nI c)), some (.long (lN (fbits k (meant μ c) ||| 2 ^ k))), none, some (.int (nI (k + 1))), some (.int x)] [] υ := fun υ u1 u2 u3 u4 u5 u6 u7 u8 => by
          have ih2 := ih υ ⟨fun b hb => (u1 b hb).trans (f1 b hb), u2.trans f2, u3.trans f3, by rw [hcs]; exact u4, fun j hj hjm => by
            by_cases e : j = k
            · subst e; exact u6
            · rw [u5 j e]; exact f5 j (by omega) hjm, fun j hj => by
            by_cases e : j = k
            · subst e; rw [if_pos (by omega)]; exact u8
            · rw [u7 j e, f6 j hj]
              by_cases e2 : j < k
              · rw [if_pos e2, if_pos (by omega)]
              · rw [if_neg e2, if_neg (by omega)]⟩
          rw [fbits_p hm] at ih2
          exact st_lvq _ (by simp [lvq]) ih2
        have hlg : lg τ 59 k = lN (W k) := by rw [f6 k hk, if_neg (Nat.lt_irrefl k)]
        refine st_lload_n hc dX4_followCode_56 rfl rfl ?_
        refine st_lconst (v := 1) hc dX4_followCode_57 (by decide) ?_
        refine st_iload hc dX4_followCode_58 rfl ?_
        refine st_lshl hc dX4_followCode_60 ?_
        rw [wb_1 (by omega)]
        refine st_lor hc dX4_followCode_61 ?_
        rw [wb_or (Nat.lt_trans hM (by decide)) (Nat.lt_trans (p62 (by omega)) (by decide))]
        refine st_lstore_n hc dX4_followCode_62 rfl (by decide) rfl ?_
        refine st_aload_n hc dX4_followCode_63 rfl rfl ?_
        refine st_dup hc dX4_followCode_64 rfl ?_
        refine st_getE hc dX4_followCode_65 flX4_55 rfl rfl (f4) ?_
        refine st_iconst (v := 1) hc dX4_followCode_68 (by decide) ?_
        refine st_iadd hc dX4_followCode_69 ?_
        rw [nI_1]
        refine st_put hc dX4_followCode_70 fpX4_55 rfl rfl  ?_
        refine st_aload_n hc dX4_followCode_73 rfl rfl ?_
        refine st_getr hc dX4_followCode_74 flX4_35 rfl rfl ?_
        refine st_iload hc dX4_followCode_77 rfl ?_
        refine st_aload_n hc dX4_followCode_79 rfl rfl ?_
        refine st_aload_n hc dX4_followCode_80 rfl rfl ?_
        refine st_getr hc dX4_followCode_81 flX4_18 rfl rfl ?_
        refine st_iload hc dX4_followCode_84 rfl ?_
        refine st_ialdN (k := k) hc dX4_followCode_86 rfl (rfl) (by omega) (by first | decide | omega) ((by rw [up_o 55 (by decide), f1 55 (by omega), s3]; exact hgk : _ = nI (pg μ k))) ?_
        refine st_iload_n hc dX4_followCode_87 rfl rfl ?_
        refine st_callVp hc dX4_followCode_88 (C0_answerOfCodes d (up τ 52 10 (nI (G + cnt k (meant μ c) + 1))) (hbk.eq (up_o 1 (by decide)) (up_o 2 (by decide)) (up_o 3 (by decide)) (up_o 4 (by decide))) (by rw [← hN]; exact g2) hcN) mvX4_80 (by omega) rfl rfl rfl (Nat.le_of_ble_eq_true rfl) ?_
        refine st_iastN (k := k) hc dX4_followCode_91 rfl (rfl) (by omega) (by first | decide | omega)  ?_
        refine st_aload_n hc dX4_followCode_92 rfl rfl ?_
        refine st_getr hc dX4_followCode_93 flX4_35 rfl rfl ?_
        refine st_iload hc dX4_followCode_96 rfl ?_
        refine st_ialdN (k := k) hc dX4_followCode_98 rfl (rfl) (by omega) (by first | decide | omega) ((by simp [up_eq] : _ = nI (cA2 μ (pg μ k) c))) ?_
        refine st_aload_n hc dX4_followCode_99 rfl rfl ?_
        refine st_callVp hc dX4_followCode_100 (C0_fullAnswer (d + 2) _ (P := pN μ) (by simp [up_eq, hbk.1.2.2.1])) mvX4_85 (by omega) rfl rfl rfl (Nat.le_of_ble_eq_true rfl) ?_
        refine st_icmp_eq (tgt := 125) hc dX4_followCode_103 (by decide) (fun h103 => ?_) (fun h103 => ?_)
        · have h103 : cA2 μ (pg μ k) c = 10 * pN μ := nI_inj (by omega) (by omega) h103
          refine st_inc hc dX4_followCode_125 rfl (by decide) rfl ?_
          rw [nI_1]
          refine st_goto (tgt := 5) hc dX4_followCode_128 (by decide) ?_
          first
           | (refine hfin _ (fun b hb => ?_) (by simp [up_eq]) (by simp [up_eq]) (by simp [up_eq]) (fun j hj => by simp [up_eq, hj]) (by simp [up_eq]) (fun j hj => by rw [lg_i (by decide), lg_i (by decide)]) ?_
              · have q1 : ¬ b = 52 := by omega
                have q2 : ¬ b = 60 := by omega
                rw [up_o b q2, up_o b q1]
              · rw [lg_i (by decide), lg_i (by decide), hlg]; unfold wS; rw [if_neg (fun z => z.2 h103)]; done)
           | (refine hfin _ (fun b hb => ?_) (by simp [up_eq, upL_eq]) (by simp [up_eq, upL_eq]) (by simp [up_eq, upL_eq]) (fun j hj => by simp [up_eq, upL_eq, hj]) (by simp [up_eq, upL_eq]) (fun j hj => by rw [lg_up, if_neg (fun z => hj z.2), lg_i (by decide), lg_i (by decide)]) ?_
              · have q1 : ¬ b = 52 := by omega
                have q2 : ¬ b = 60 := by omega
                have q3 : ¬ b = 59 := by omega
                rw [upL_o b q3, up_o b q2, up_o b q1]
              · rw [lg_up, if_pos ⟨rfl, rfl⟩]; unfold wS; rw [if_pos ⟨hm, h103⟩])
        · have h103 : ¬ cA2 μ (pg μ k) c = 10 * pN μ := fun z => h103 (by rw [z])
          refine st_aload_n hc dX4_followCode_106 rfl rfl ?_
          refine st_getr hc dX4_followCode_107 flX4_32 rfl rfl ?_
          refine st_iload hc dX4_followCode_110 rfl ?_
          refine st_dup2 hc dX4_followCode_112 rfl rfl ?_
          refine st_laldN (k := k) hc dX4_followCode_113 rfl (rfl) (by omega) (by first | decide | omega)  ?_
          rw [show ∀ σ' : St, jn (σ' 59 (2 * k)) (σ' 59 (2 * k + 1)) = lg σ' 59 k from fun _ => rfl, lg_i (by decide), lg_i (by decide), hlg]
          refine st_lconst (v := 1) hc dX4_followCode_114 (by decide) ?_
          refine st_aload_n hc dX4_followCode_115 rfl rfl ?_
          refine st_getr hc dX4_followCode_116 flX4_35 rfl rfl ?_
          refine st_iload hc dX4_followCode_119 rfl ?_
          refine st_ialdN (k := k) hc dX4_followCode_121 rfl (rfl) (by omega) (by first | decide | omega) ((by simp [up_eq] : _ = nI (cA2 μ (pg μ k) c))) ?_
          refine st_lshl hc dX4_followCode_122 ?_
          rw [wb_1 (by omega)]
          refine st_lor hc dX4_followCode_123 ?_
          rw [wb_or (Nat.lt_trans hWk.2 (by decide)) (Nat.lt_trans (p62 (by omega)) (by decide))]
          refine st_lastN (k := k) hc dX4_followCode_124 rfl (rfl) (by omega) (by first | decide | omega)  ?_
          refine st_inc hc dX4_followCode_125 rfl (by decide) rfl ?_
          rw [nI_1]
          refine st_goto (tgt := 5) hc dX4_followCode_128 (by decide) ?_
          first
           | (refine hfin _ (fun b hb => ?_) (by simp [up_eq]) (by simp [up_eq]) (by simp [up_eq]) (fun j hj => by simp [up_eq, hj]) (by simp [up_eq]) (fun j hj => by rw [lg_i (by decide), lg_i (by decide)]) ?_
              · have q1 : ¬ b = 52 := by omega
                have q2 : ¬ b = 60 := by omega
                rw [up_o b q2, up_o b q1]
              · rw [lg_i (by decide), lg_i (by decide), hlg]; unfold wS; rw [if_neg (fun z => z.2 h103)]; done)
           | (refine hfin _ (fun b hb => ?_) (by simp [up_eq, upL_eq]) (by simp [up_eq, upL_eq]) (by simp [up_eq, upL_eq]) (fun j hj => by simp [up_eq, upL_eq, hj]) (by simp [up_eq, upL_eq]) (fun j hj => by rw [lg_up, if_neg (fun z => hj z.2), lg_i (by decide), lg_i (by decide)]) ?_
              · have q1 : ¬ b = 52 := by omega
                have q2 : ¬ b = 60 := by omega
                have q3 : ¬ b = 59 := by omega
                rw [upL_o b q3, up_o b q2, up_o b q1]
              · rw [lg_up, if_pos ⟨rfl, rfl⟩]; unfold wS; rw [if_pos ⟨hm, h103⟩])
      refine st_iload hc dX4_followCode_5 rfl ?_
      refine st_aload_n hc dX4_followCode_7 rfl rfl ?_
      refine st_getE hc dX4_followCode_8 flX4_38 rfl rfl ((f2.trans (r1.trans e43))) ?_
      refine st_icmp_ge (tgt := 131) hc dX4_followCode_11 (by decide) (fun h11 => ?_) (fun h11 => ?_)
      · exact absurd h11 (nI_ge hk (by omega))
      · refine st_aload_n hc dX4_followCode_14 rfl rfl ?_
        refine st_getr hc dX4_followCode_15 flX4_9 rfl rfl ?_
        refine st_iload hc dX4_followCode_18 rfl ?_
        refine st_ialdN (k := k) hc dX4_followCode_20 rfl (rfl) (by omega) (by first | decide | omega) ((by rw [f1 53 (by omega)]; exact s1 : _ = μ 30 k)) ?_
        refine st_istore hc dX4_followCode_21 (by decide) rfl ?_
        refine st_iload hc dX4_followCode_23 rfl ?_
        refine st_if_eq (tgt := 56) hc dX4_followCode_25 (by decide) (fun h25 => ?_) (fun h25 => ?_)
        · have h25 : k = 0 := nI_inj (b := 0) (by omega) (by decide) h25
          have hm : meant μ c k = true := by rw [h25]; rfl
          exact hyes hm _
        · have h25 : 0 < k := by
            rcases Nat.eq_zero_or_pos k with z | z
            · exact absurd (by rw [z]; rfl) h25
            · exact z
          obtain ⟨⟨q1, q2⟩, q3, q4⟩ := g3 h25
          have eq : μ 30 k = nI (pf μ k) := (nI_nat q1).symm
          have hms := meant_s hp c hk h25
          have hbit : lN (fbits k (meant μ c) / 2 ^ pf μ k % 2) = lN (if meant μ c (pf μ k) = true then 1 else 0) := by
            have hz := fbits_bit k (meant μ c) (pf μ k)
            rw [Nat.testBit_eq_decide_div_mod_eq, decide_eq_true q2, Bool.true_and] at hz
            rw [← hz]
            have := Nat.mod_two_eq_zero_or_one (fbits k (meant μ c) / 2 ^ pf μ k)
            rcases this with z | z <;> simp [z]
          refine st_lload_n hc dX4_followCode_28 rfl rfl ?_
          refine st_iload hc dX4_followCode_29 rfl ?_
          refine st_lushr hc dX4_followCode_31 ?_
          rw [eq]
          refine st_lconst (v := 1) hc dX4_followCode_32 (by decide) ?_
          refine st_land hc dX4_followCode_33 ?_
          rw [wb_bit (Nat.lt_trans hM (by decide)) (by omega), hbit]
          refine st_lconst (v := 0) hc dX4_followCode_34 (by decide) ?_
          refine st_lcmp hc dX4_followCode_35 ?_
          refine st_if_eq (tgt := 125) hc dX4_followCode_36 (by decide) (fun h36 => ?_) (fun h36 => ?_)
          · have h36 : meant μ c (pf μ k) = false := by
              rcases hz : meant μ c (pf μ k) with _ | _
              · rfl
              · rw [hz] at h36; exact absurd ((lg_0 _ _).mp h36) (by decide)
            have hm : meant μ c k = false := by rw [hms, h36, Bool.and_false]
            refine st_inc hc dX4_followCode_125 rfl (by decide) rfl ?_
            rw [nI_1]
            refine st_goto (tgt := 5) hc dX4_followCode_128 (by decide) ?_
            exact hnot hm _
          · have h36 : meant μ c (pf μ k) = true := by
              rcases hz : meant μ c (pf μ k) with _ | _
              · rw [hz] at h36; exact absurd ((lg_0 _ _).mpr rfl) h36
              · rfl
            refine st_aload_n hc dX4_followCode_39 rfl rfl ?_
            refine st_getr hc dX4_followCode_40 flX4_35 rfl rfl ?_
            refine st_iload hc dX4_followCode_43 rfl ?_
            refine st_ialdN (k := pf μ k) hc dX4_followCode_45 rfl (rfl) (by omega) (by first | decide | omega) (f5 (pf μ k) q2 h36) ?_
            refine st_aload_n hc dX4_followCode_46 rfl rfl ?_
            refine st_getr hc dX4_followCode_47 flX4_15 rfl rfl ?_
            refine st_iload hc dX4_followCode_50 rfl ?_
            refine st_ialdN (k := k) hc dX4_followCode_52 rfl (rfl) (by omega) (by first | decide | omega) ((by rw [f1 54 (by omega)]; exact s2 : _ = μ 31 k)) ?_
            refine st_icmp_ne (tgt := 125) hc dX4_followCode_53 (by decide) (fun h53 => ?_) (fun h53 => ?_)
            · have hm : meant μ c k = false := by rw [hms, beq_false_of_ne h53]; rfl
              refine st_inc hc dX4_followCode_125 rfl (by decide) rfl ?_
              rw [nI_1]
              refine st_goto (tgt := 5) hc dX4_followCode_128 (by decide) ?_
              exact hnot hm _
            · have hm : meant μ c k = true := by rw [hms, h36, h53]; simp
              exact hyes hm _
  refine st_lconst (v := 0) hc dX4_followCode_0 (by decide) ?_
  refine st_lstore_n hc dX4_followCode_1 rfl (by decide) rfl ?_
  refine st_iconst (v := 0) hc dX4_followCode_2 (by decide) ?_
  refine st_istore hc dX4_followCode_3 (by decide) rfl ?_
  refine k5 σ ⟨fun _ _ => rfl, rfl, rfl, hG, fun j hj => absurd hj (Nat.not_lt_zero j), fun j hj => ?_⟩
  rw [if_neg (Nat.not_lt_zero j)]
  exact (hW j hj).1

