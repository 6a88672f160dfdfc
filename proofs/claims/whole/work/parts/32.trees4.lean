theorem T_s {g : Gx} {dd : Nat} {σ : St} {t : TD} {Q : Option Value → St → Prop} (hc : cX g YM RX12 cX12_trees 10 none (dd + 1)) (ht : tOK t) (hP5 : pN σ ≤ 5) (hP : σ 0 0 = nI (pN σ)) (hfu : tfu t = 10 * pN σ) (hN : σ 0 2 = nI (tN2 t)) (hN4 : tN2 t ≤ 4096) (hL : ∀ k, k < tn t → tL t k < 4096)
    (hQ : ∀ υ, TI σ t υ → TB t υ (2 ^ tn t) → Q none υ) (τ0 : St) (h1 : TI σ t τ0) :
    aW g YM 10 Q 58 [some (.ref 0), some (.int (bI (tpo t))), none, none, none, none, none, none, none, none] [] τ0 := by
  have hn10 := ht.1
  have h10 : 2 ^ tn t ≤ 1024 := Nat.pow_le_pow_right (by decide) ht.1
  have hp0 := Nat.two_pow_pos (tn t)
  have k60 : aW g YM 10 Q 60 [some (.ref 0), some (.int (bI (tpo t))), some (.int (nI 1)), none, none, none, none, none, none, none] [] τ0 := by
    refine lpF (i0 := 1) (n := 2 ^ tn t) (F := fun s => ∀ τ, TI σ t τ → TB t τ s → aW g YM 10 Q 60 [some (.ref 0), some (.int (bI (tpo t))), some (.int (nI s)), none, none, none, none, none, none, none] [] τ) (by omega) ?_ (fun s hs1 hs ih => ?_) τ0 h1 (fun p hp0 hp1 => by omega)
    · intro τ hTI hTB
      refine st_iload_n hc dX12_trees_60 rfl rfl ?_
      refine st_iconst (v := 1) hc dX12_trees_61 (by decide) ?_
      refine st_aload_n hc dX12_trees_62 rfl rfl ?_
      refine st_getE hc dX12_trees_63 flX12_164 rfl rfl (hTI.2.1) ?_
      refine st_ishl hc dX12_trees_66 ?_
      rw [nI_shl1 (by omega)]
      refine st_icmp_ge (tgt := 420) hc dX12_trees_67 (by decide) (fun h67 => ?_) (fun h67 => ?_)
      · refine st_vret (st := []) hc dX12_trees_420 rfl ?_
        exact hQ τ hTI hTB
      · exact absurd (nI_le (Nat.le_refl _) (by omega)) h67
    · intro τ hTI hTB
      have kg := fun υ a1 a2 a3 => T_g (dd := dd) (Q := Q) hc ht hP5 hP hfu hN hN4 hL hs (fun υ a1 a2 a3 => by
        have a4 : TB t υ (s + 1) := by
          intro p hp0 hp1
          by_cases q : p = s
          · subst q
            exact RW_c a3 (md_eq ht hs).symm (fun d _ => (ms_eq ht d hs).symm)
          · exact a2 p hp0 (by omega)
        refine st_inc hc dX12_trees_414 rfl (by decide) rfl ?_
        rw [nI_1]
        refine st_goto (tgt := 60) hc dX12_trees_417 (by decide) ?_
        exact st_lvq _ (by simp [lvq, List.set]) (ih υ a1 a4)
        ) υ a1 a2 a3
      -- the rows of s are set back
      have k86 : ∀ τ, TI σ t τ → TB t τ s → τ 14 s = 1000000000 → aW g YM 10 Q 86 [some (.ref 0), some (.int (bI (tpo t))), some (.int (nI s)), some (.int (nI (ones s))), some (.int (nI 0)), none, none, none, none, none] [] τ := by
        intro τ hTI hTB h14
        refine lpN (n := 11) (F := fun d => ∀ τ, TI σ t τ → TB t τ s → τ 14 s = 1000000000 → (∀ e, e < d → τ 16 (1024 * e + s) = 1000000000) → aW g YM 10 Q 86 [some (.ref 0), some (.int (bI (tpo t))), some (.int (nI s)), some (.int (nI (ones s))), some (.int (nI d)), none, none, none, none, none] [] τ) ?_ (fun d hd ih2 => ?_) τ hTI hTB h14 (fun e he => absurd he (Nat.not_lt_zero e))
        · intro τ hTI hTB h14 hall
          have kk := kg τ hTI hTB ⟨⟨h14, fun b hb => by cases hb⟩, fun d hd => ⟨hall d hd, fun b hb => by cases hb⟩⟩
          refine st_iload hc dX12_trees_86 rfl ?_
          refine st_bipush (v := 11) hc dX12_trees_88 (by decide) ?_
          refine st_icmp_ge (tgt := 114) hc dX12_trees_90 (by decide) (fun h90 => ?_) (fun h90 => ?_)
          · refine st_iconst (v := 0) hc dX12_trees_114 (by decide) ?_
            refine st_istore hc dX12_trees_115 (by decide) rfl ?_
            exact st_lvq _ (by simp [lvq, List.set, nI_0]) kk
          · exact absurd (by decide) h90
        · intro τ hTI hTB h14 hall
          refine st_iload hc dX12_trees_86 rfl ?_
          refine st_bipush (v := 11) hc dX12_trees_88 (by decide) ?_
          refine st_icmp_ge (tgt := 114) hc dX12_trees_90 (by decide) (fun h90 => ?_) (fun h90 => ?_)
          · exact absurd h90 (nI_ge (b := 11) hd (by omega))
          · refine st_aload_n hc dX12_trees_93 rfl rfl ?_
            refine st_getr hc dX12_trees_94 flX12_69 rfl rfl ?_
            refine st_sipush (v := 1024) hc dX12_trees_97 (by decide) ?_
            refine st_iload hc dX12_trees_100 rfl ?_
            refine st_imul hc dX12_trees_102 ?_
            refine st_iload_n hc dX12_trees_103 rfl rfl ?_
            refine st_iadd hc dX12_trees_104 ?_
            refine st_ldc hc dX12_trees_105 kcX12_227 ?_
            refine st_iastN (k := 1024 * d + s) hc dX12_trees_107 rfl (by rw [show (1024 : Int32) = nI 1024 from rfl, pk_mul, nI_add]) (by omega) (by first | decide | omega)  ?_
            refine st_inc hc dX12_trees_108 rfl (by decide) rfl ?_
            rw [nI_1]
            refine st_goto (tgt := 86) hc dX12_trees_111 (by decide) ?_
            refine ih2 _ (hTI.v (k := 16) rfl (by decide) (by decide) (by decide) _) (hTB.eq (fun _ _ => rfl) (fun _ _ => rfl) (fun e p hp => ?_) (fun _ _ _ => rfl)) h14 (fun e he => ?_)
            · rw [up_eq, if_neg (fun q => ix_ne hp (by omega) q.2)]
            · rw [up_eq]
              by_cases q : e = d
              · rw [if_pos ⟨rfl, by rw [q]⟩]
              · rw [if_neg (fun z => q (by omega))]; exact hall e (by omega)
      refine st_iload_n hc dX12_trees_60 rfl rfl ?_
      refine st_iconst (v := 1) hc dX12_trees_61 (by decide) ?_
      refine st_aload_n hc dX12_trees_62 rfl rfl ?_
      refine st_getE hc dX12_trees_63 flX12_164 rfl rfl (hTI.2.1) ?_
      refine st_ishl hc dX12_trees_66 ?_
      rw [nI_shl1 (by omega)]
      refine st_icmp_ge (tgt := 420) hc dX12_trees_67 (by decide) (fun h67 => ?_) (fun h67 => ?_)
      · exact absurd h67 (nI_ge hs (by omega))
      · refine st_iload_n hc dX12_trees_70 rfl rfl ?_
        refine st_callSp hc dX12_trees_71 (C12_ones 0 τ s (by omega)) msX12_177 (by omega) rfl rfl (Nat.le_of_ble_eq_true rfl) ?_
        refine st_istore_n hc dX12_trees_74 rfl (by decide) rfl ?_
        refine st_aload_n hc dX12_trees_75 rfl rfl ?_
        refine st_getr hc dX12_trees_76 flX12_63 rfl rfl ?_
        refine st_iload_n hc dX12_trees_79 rfl rfl ?_
        refine st_ldc hc dX12_trees_80 kcX12_227 ?_
        refine st_iastN (k := s) hc dX12_trees_82 rfl (rfl) (by omega) (by first | decide | omega)  ?_
        refine st_iconst (v := 0) hc dX12_trees_83 (by decide) ?_
        refine st_istore hc dX12_trees_84 (by decide) rfl ?_
        refine st_lvq _ (by simp [lvq, List.set, nI_0]) (k86 _ (hTI.v (k := 14) rfl (by decide) (by decide) (by decide) _) (hTB.eq (fun p hp => ?_) (fun _ _ => rfl) (fun _ _ _ => rfl) (fun _ _ _ => rfl)) ?_)
        · rw [up_eq, if_neg (fun q => by omega)]
        · rw [up_eq, if_pos ⟨rfl, rfl⟩]
  refine st_iconst (v := 1) hc dX12_trees_58 (by decide) ?_
  refine st_istore_n hc dX12_trees_59 rfl (by decide) rfl ?_
  exact st_lvq _ (by simp [lvq, List.set]; rfl) k60
/-- the trees' data of the reference, by one pool -/
abbrev tdM (σ : St) (p : Bool) : TD := (lm σ, nN σ, 10 * pN σ, p, fun g k => cA2 σ g (lth σ k), lth σ)
theorem tdM_ok {σ : St} (hm : mOK σ (pN σ) (cN σ) (nN σ) (tN σ) (liN σ)) (hl : lm σ ≤ 10) (p : Bool) : tOK (tdM σ p) := by
  obtain ⟨⟨hP, hC, hP1, hP5, hC1, hC8⟩, -⟩ := hm
  refine ⟨hl, fun k hk => ans_self hC1 hC8 _, fun g k hk => ?_⟩
  have := ans_50 (C := cN σ) hP5 (fun i => nI (pegOf (pN σ) (cN σ) g i)) (lth σ k)
  show ans _ _ _ _ < 60
  omega
theorem C12_trees (d : Nat) (σ : St) (hm : mOK σ (pN σ) (cN σ) (nN σ) (tN σ) (liN σ)) (hl : lm σ ≤ 10) (F w : Nat → Int32) (hF : ∀ k, k < lm σ → F k = nI (lth σ k)) (p : Bool) : Mt YM mX12_trees (d + 3) [.ref 0, .int (bI p)] (lkS σ (lm σ) F w) (fun r τ => r = none ∧ TI σ (tdM σ p) τ ∧ TB (tdM σ p) τ (2 ^ lm σ)) := by
  obtain ⟨hpc, h2, h3, h4, -⟩ := id hm
  obtain ⟨hP, hC, hP1, hP5, hC1, hC8⟩ := id hpc
  have ht := tdM_ok hm hl p
  refine Mt.ofA [some (.ref 0), some (.int (bI p)), none, none, none, none, none, none, none, none] (by decide) (fun _ => Nat.le_of_ble_eq_true rfl) (fun _ => rfl) (fun g hc => ?_)
  generalize hQe : (fun (r : Option Value) (τ : St) => r = none ∧ TI σ (tdM σ p) τ ∧ TB (tdM σ p) τ (2 ^ lm σ)) = Q
  have k2 : ∀ τ, sE σ τ → τ 0 18 = nI (lm σ) → (∀ k, k < lm σ → τ 7 k = nI (lth σ k)) → aW g YM 10 Q 2 [some (.ref 0), some (.int (bI p)), some (.int (nI 0)), none, none, none, none, none, none, none] [] τ := by
    intro τ0 e1 e2 e3
    refine lpN (n := nN σ) (F := fun gg => ∀ τ, sE σ τ → τ 0 18 = nI (lm σ) → (∀ k, k < lm σ → τ 7 k = nI (lth σ k)) → (∀ j, j < gg → ∀ k, k < lm σ → τ 18 (10 * j + k) = nI (cA2 σ j (lth σ k))) → aW g YM 10 Q 2 [some (.ref 0), some (.int (bI p)), some (.int (nI gg)), none, none, none, none, none, none, none] [] τ) ?_ (fun gg hg ih => ?_) τ0 e1 e2 e3 (fun j hj => absurd hj (Nat.not_lt_zero j))
    · intro τ e1 e2 e3 e4
      have kk := T_s (dd := d + 2) (t := tdM σ p) (Q := Q) hc ht hP5 hP rfl h2 h4 (fun k hk => Nat.lt_of_lt_of_le (lth_lt hk) h4) (fun υ a1 a2 => by rw [← hQe]; exact ⟨rfl, a1, a2⟩) τ ⟨e1, e2, e3, e4⟩
      refine st_iload_n hc dX12_trees_2 rfl rfl ?_
      refine st_aload_n hc dX12_trees_3 rfl rfl ?_
      refine st_getE hc dX12_trees_4 flX12_16 rfl rfl ((e1 0 2 rfl).trans h2) ?_
      refine st_icmp_ge (tgt := 58) hc dX12_trees_7 (by decide) (fun h7 => ?_) (fun h7 => ?_)
      · exact st_lvq _ (by simp [lvq]) kk
      · exact absurd (nI_le (Nat.le_refl _) (by omega)) h7
    · intro τ e1 e2 e3 e4
      have k17 : ∀ τ, sE σ τ → τ 0 18 = nI (lm σ) → (∀ k, k < lm σ → τ 7 k = nI (lth σ k)) → (∀ j, j < gg → ∀ k, k < lm σ → τ 18 (10 * j + k) = nI (cA2 σ j (lth σ k))) → (∀ i, i < pN σ → τ 6 i = nI (pegOf (pN σ) (cN σ) gg i)) → aW g YM 10 Q 17 [some (.ref 0), some (.int (bI p)), some (.int (nI gg)), some (.int (nI 0)), none, none, none, none, none, none] [] τ := by
        intro τ e1 e2 e3 e4 e6
        refine lpN (n := lm σ) (F := fun m => ∀ τ, sE σ τ → τ 0 18 = nI (lm σ) → (∀ k, k < lm σ → τ 7 k = nI (lth σ k)) → (∀ j, j < gg → ∀ k, k < lm σ → τ 18 (10 * j + k) = nI (cA2 σ j (lth σ k))) → (∀ k, k < m → τ 18 (10 * gg + k) = nI (cA2 σ gg (lth σ k))) → (∀ i, i < pN σ → τ 6 i = nI (pegOf (pN σ) (cN σ) gg i)) → aW g YM 10 Q 17 [some (.ref 0), some (.int (bI p)), some (.int (nI gg)), some (.int (nI m)), none, none, none, none, none, none] [] τ) ?_ (fun m hm2 ih2 => ?_) τ e1 e2 e3 e4 (fun k hk => absurd hk (Nat.not_lt_zero k)) e6
        · intro τ e1 e2 e3 e4 e5 e6
          refine st_iload_n hc dX12_trees_17 rfl rfl ?_
          refine st_aload_n hc dX12_trees_18 rfl rfl ?_
          refine st_getE hc dX12_trees_19 flX12_164 rfl rfl (e2) ?_
          refine st_icmp_ge (tgt := 52) hc dX12_trees_22 (by decide) (fun h22 => ?_) (fun h22 => ?_)
          · refine st_inc hc dX12_trees_52 rfl (by decide) rfl ?_
            rw [nI_1]
            refine st_goto (tgt := 2) hc dX12_trees_55 (by decide) ?_
            refine st_lvq _ (by simp [lvq, List.set]) (ih τ e1 e2 e3 (fun j hj k hk => ?_))
            by_cases q : j = gg
            · subst q; exact e5 k hk
            · exact e4 j (by omega) k hk
          · exact absurd (nI_le (Nat.le_refl _) (by omega)) h22
        · intro τ e1 e2 e3 e4 e5 e6
          have hl2 := lth_lt hm2
          refine st_iload_n hc dX12_trees_17 rfl rfl ?_
          refine st_aload_n hc dX12_trees_18 rfl rfl ?_
          refine st_getE hc dX12_trees_19 flX12_164 rfl rfl (e2) ?_
          refine st_icmp_ge (tgt := 52) hc dX12_trees_22 (by decide) (fun h22 => ?_) (fun h22 => ?_)
          · exact absurd h22 (nI_ge hm2 (by omega))
          · refine st_aload_n hc dX12_trees_25 rfl rfl ?_
            refine st_getr hc dX12_trees_26 flX12_76 rfl rfl ?_
            refine st_bipush (v := 10) hc dX12_trees_29 (by decide) ?_
            refine st_iload_n hc dX12_trees_31 rfl rfl ?_
            refine st_imul hc dX12_trees_32 ?_
            refine st_iload_n hc dX12_trees_33 rfl rfl ?_
            refine st_iadd hc dX12_trees_34 ?_
            refine st_aload_n hc dX12_trees_35 rfl rfl ?_
            refine st_aload_n hc dX12_trees_36 rfl rfl ?_
            refine st_getr hc dX12_trees_37 flX12_42 rfl rfl ?_
            refine st_iload_n hc dX12_trees_40 rfl rfl ?_
            refine st_ialdN (k := m) hc dX12_trees_41 rfl (rfl) (by omega) (by first | decide | omega) (e3 m hm2) ?_
            refine st_callVp hc dX12_trees_42 (C12_answers 0 τ (e1.pc hpc) (lth σ m) (by omega)) mvX12_160 (by omega) rfl rfl rfl (Nat.le_of_ble_eq_true rfl) ?_
            rw [ans_congr e6]
            refine st_iastN (k := 10 * gg + m) hc dX12_trees_45 rfl (by rw [show (10 : Int32) = nI 10 from rfl, pk_mul, nI_add]) (by omega) (by first | decide | omega)  ?_
            refine st_inc hc dX12_trees_46 rfl (by decide) rfl ?_
            rw [nI_1]
            refine st_goto (tgt := 17) hc dX12_trees_49 (by decide) ?_
            refine ih2 _ (e1.v (k := 18) rfl (by decide) _) e2 e3 (fun j hj k hk => ?_) (fun k hk => ?_) e6
            · rw [up_eq, if_neg (fun z => by omega)]; exact e4 j hj k hk
            · rw [up_eq]
              by_cases q : k = m
              · rw [if_pos ⟨rfl, by rw [q]⟩, q]
              · rw [if_neg (fun z => q (by omega))]; exact e5 k (by omega)
      refine st_iload_n hc dX12_trees_2 rfl rfl ?_
      refine st_aload_n hc dX12_trees_3 rfl rfl ?_
      refine st_getE hc dX12_trees_4 flX12_16 rfl rfl ((e1 0 2 rfl).trans h2) ?_
      refine st_icmp_ge (tgt := 58) hc dX12_trees_7 (by decide) (fun h7 => ?_) (fun h7 => ?_)
      · exact absurd h7 (nI_ge hg (by omega))
      · refine st_aload_n hc dX12_trees_10 rfl rfl ?_
        refine st_iload_n hc dX12_trees_11 rfl rfl ?_
        refine st_callVn hc dX12_trees_12 (C12_guessCode (d + 1) τ (e1.pc hpc) gg (by omega)) mvX12_214 (by omega) rfl rfl rfl (Nat.le_of_ble_eq_true rfl) ?_
        rintro _ ⟨w3, hw3, rfl⟩
        refine st_iconst (v := 0) hc dX12_trees_15 (by decide) ?_
        refine st_istore_n hc dX12_trees_16 rfl (by decide) rfl ?_
        exact st_lvq _ (by simp [lvq, List.set, nI_0]) (k17 _ (e1.v rfl (by decide) w3) e2 e3 e4 (by rw [vu_s]; exact hw3))
  refine st_iconst (v := 0) hc dX12_trees_0 (by decide) ?_
  refine st_istore_n hc dX12_trees_1 rfl (by decide) rfl ?_
  exact st_lvq _ (by simp [lvq, List.set, nI_0]) (k2 _ (sE.lk _ _ _ _) rfl hF)

