theorem RW_c {τ : St} {s : Nat} {a b : Option (Nat × Nat)} {c e : Nat → Option (Nat × Nat)} (h : RW τ s a c) (h1 : a = b) (h2 : ∀ d, d < 11 → c d = e d) : RW τ s b e := by
  subst h1
  exact ⟨h.1, fun d hd => by rw [← h2 d hd]; exact h.2 d hd⟩
/-- the tables of one store are those of another -/
theorem RW_t {τ υ : St} {s : Nat} {a : Option (Nat × Nat)} {c : Nat → Option (Nat × Nat)} (h : RW τ s a c) (h14 : υ 14 = τ 14) (h15 : υ 15 = τ 15) (h16 : υ 16 = τ 16) (h17 : υ 17 = τ 17) : RW υ s a c := by
  unfold RW at *
  rw [h14, h15, h16, h17]
  exact h
theorem T_g {g : Gx} {dd : Nat} {σ : St} {t : TD} {Q : Option Value → St → Prop} {s : Nat} (hc : cX g YM RX12 cX12_trees 10 none (dd + 1)) (ht : tOK t) (hP5 : pN σ ≤ 5) (hP : σ 0 0 = nI (pN σ)) (hfu : tfu t = 10 * pN σ) (hN : σ 0 2 = nI (tN2 t)) (hN4 : tN2 t ≤ 4096) (hL : ∀ k, k < tn t → tL t k < 4096) (hs : s < 2 ^ tn t)
    (k : ∀ υ, TI σ t υ → TB t υ s → RW υ s (bstO (mdC t (md t) s) (tN2 t)) (fun e => bstO (msC t (ms t) e s) (tN2 t)) → aW g YM 10 Q 414 [some (.ref 0), some (.int (bI (tpo t))), some (.int (nI s)), some (.int (nI (ones s))), none, none, none, none, none, none] [] υ) (τ0 : St) (h1 : TI σ t τ0) (h2 : TB t τ0 s) (h3 : RW τ0 s none (fun _ => none)) :
    aW g YM 10 Q 117 [some (.ref 0), some (.int (bI (tpo t))), some (.int (nI s)), some (.int (nI (ones s))), some (.int (nI 0)), none, none, none, none, none] [] τ0 := by
  have hn10 := ht.1
  have h10 : 2 ^ tn t ≤ 1024 := Nat.pow_le_pow_right (by decide) ht.1
  have hon : ones s ≤ 11 := cnt_le _ _
  refine lpN (n := tN2 t) (F := fun gg => ∀ τ, TI σ t τ → TB t τ s → RW τ s (bstO (mdC t (md t) s) gg) (fun e => bstO (msC t (ms t) e s) gg) → aW g YM 10 Q 117 [some (.ref 0), some (.int (bI (tpo t))), some (.int (nI s)), some (.int (nI (ones s))), some (.int (nI gg)), none, none, none, none, none] [] τ) ?_ (fun gg hg ih => ?_) τ0 h1 h2 h3
  · intro τ hTI hTB hRW
    have kk := k τ hTI hTB hRW
    refine st_iload hc dX12_trees_117 rfl ?_
    refine st_aload_n hc dX12_trees_119 rfl rfl ?_
    refine st_getE hc dX12_trees_120 flX12_16 rfl rfl ((hTI.1 0 2 rfl).trans hN) ?_
    refine st_icmp_ge (tgt := 414) hc dX12_trees_123 (by decide) (fun h123 => ?_) (fun h123 => ?_)
    · exact st_lvq _ (by simp [lvq]) kk
    · exact absurd (nI_le (Nat.le_refl _) (by omega)) h123
  · intro τ hTI hTB hRW
    have k408 : ∀ υ, TI σ t υ → TB t υ s → RW υ s (bstO (mdC t (md t) s) (gg + 1)) (fun e => bstO (msC t (ms t) e s) (gg + 1)) → aW g YM 10 Q 408 [some (.ref 0), some (.int (bI (tpo t))), some (.int (nI s)), some (.int (nI (ones s))), some (.int (nI gg)), none, none, none, none, none] [] υ := by
      intro υ a1 a2 a3
      refine st_inc hc dX12_trees_408 rfl (by decide) rfl ?_
      rw [nI_1]
      refine st_goto (tgt := 117) hc dX12_trees_411 (by decide) ?_
      exact ih υ a1 a2 a3
    -- a guess that may not be made
    have kno : cand t gg s = false → ∀ υ, TI σ t υ → TB t υ s → RW υ s (bstO (mdC t (md t) s) gg) (fun e => bstO (msC t (ms t) e s) gg) → aW g YM 10 Q 408 [some (.ref 0), some (.int (bI (tpo t))), some (.int (nI s)), some (.int (nI (ones s))), some (.int (nI gg)), none, none, none, none, none] [] υ := by
      intro hno υ a1 a2 a3
      refine k408 υ a1 a2 (RW_c a3 ?_ (fun d _ => ?_))
      · exact (bst_no (by unfold mdC; rw [if_neg (by rw [hno]; decide)])).symm
      · exact (bst_no (by unfold msC; rw [if_neg (by rw [hno]; decide)])).symm
    -- behind the question whether it is a member
    have k149 : ((tpo t || ones s == 1) && !inS (tn t) (tL t) s gg) = false → aW g YM 10 Q 149 [some (.ref 0), some (.int (bI (tpo t))), some (.int (nI s)), some (.int (nI (ones s))), some (.int (nI gg)), none, none, none, none, none] [] τ := by
      intro hok
      have ecand : cand t gg s = !((npt t gg s + (if hasFu t gg s = true then 1 else 0) == 1) && decide (1 < ones s)) := by unfold cand; rw [hok]; rfl
      have kdone : ∀ (M : Nat) (pa : Nat → Nat) (w19 w20 : Nat → Int32), PI s (tA t gg) (10 * pN σ) (tn t) M pa w19 w20 → ((M + (if hasFu t gg s = true then 1 else 0) == 1) && decide (1 < ones s)) = false → aW g YM 10 Q 168 [some (.ref 0), some (.int (bI (tpo t))), some (.int (nI s)), some (.int (nI (ones s))), some (.int (nI gg)), none, none, none, none, none] [] (spS τ M w19 w20) := by
        intro M pa w19 w20 hPI hq
        rw [← hfu] at hPI
        have hc2 : cand t gg s = true := by rw [ecand, PI_npt hPI, hq]; rfl
        exact T_dep hc ht hs hg hN4 hc2 hPI k408 _ (hTI.sp M w19 w20) (hTB.eq (fun _ _ => rfl) (fun _ _ => rfl) (fun _ _ _ => rfl) (fun _ _ _ => rfl)) rfl rfl (RW_t hRW rfl rfl rfl rfl)
      have knd : ∀ (M : Nat) (pa : Nat → Nat) (w19 w20 : Nat → Int32), PI s (tA t gg) (10 * pN σ) (tn t) M pa w19 w20 → ((M + (if hasFu t gg s = true then 1 else 0) == 1) && decide (1 < ones s)) = true → aW g YM 10 Q 408 [some (.ref 0), some (.int (bI (tpo t))), some (.int (nI s)), some (.int (nI (ones s))), some (.int (nI gg)), none, none, none, none, none] [] (spS τ M w19 w20) := by
        intro M pa w19 w20 hPI hq
        rw [← hfu] at hPI
        exact kno (by rw [ecand, PI_npt hPI, hq]; rfl) _ (hTI.sp M w19 w20) (hTB.eq (fun _ _ => rfl) (fun _ _ => rfl) (fun _ _ _ => rfl) (fun _ _ _ => rfl)) (RW_t hRW rfl rfl rfl rfl)
      have hfu2 : anyN (tn t) (mem s (tA t gg) (10 * pN σ)) = hasFu t gg s := by unfold hasFu; rw [hfu]
      refine st_aload_n hc dX12_trees_149 rfl rfl ?_
      refine st_iload hc dX12_trees_150 rfl ?_
      refine st_iload_n hc dX12_trees_152 rfl rfl ?_
      refine st_callV hc dX12_trees_153 (C12_split 0 τ (n := tn t) (gg := gg) (s := s) (P := pN σ) (A := tA t gg) hTI.2.1 hn10 ((hTI.1 0 0 rfl).trans hP) hP5 (by omega) (by omega) (fun k hk => ⟨hTI.2.2.2 gg hg k hk, ht.2.2 gg k hk⟩)) mvX12_245 (by omega) rfl rfl rfl (Nat.le_of_ble_eq_true rfl) ?_
      rintro r υ ⟨M, pa, w19, w20, rfl, hPI, rfl⟩
      have hMn : M ≤ 10 := Nat.le_trans hPI.1 hn10
      rw [hfu2]
      simp only [Option.toList_some, List.cons_append, List.nil_append]
      refine st_iconst (v := 1) hc dX12_trees_156 (by decide) ?_
      refine st_icmp_ne (tgt := 168) hc dX12_trees_157 (by decide) (fun h157 => ?_) (fun h157 => ?_)
      · have hq : ((M + (if hasFu t gg s = true then 1 else 0) == 1) && decide (1 < ones s)) = false := by
          rw [beq_eq_false_iff_ne.mpr (fun q => h157 (by rw [q]; rfl))]
          rfl
        exact kdone M pa w19 w20 hPI hq
      · have h157 : M + (if hasFu t gg s = true then 1 else 0) = 1 := nI_inj (b := 1) (by split <;> omega) (by decide) h157
        refine st_iload_n hc dX12_trees_160 rfl rfl ?_
        refine st_iconst (v := 1) hc dX12_trees_161 (by decide) ?_
        refine st_icmp_le (tgt := 168) hc dX12_trees_162 (by decide) (fun h162 => ?_) (fun h162 => ?_)
        · have hq : ((M + (if hasFu t gg s = true then 1 else 0) == 1) && decide (1 < ones s)) = false := by
            rw [decide_eq_false (fun q => absurd ((nI_leI (b := 1) (by omega) (by decide)).mp h162) (by omega)), Bool.and_false]
          exact kdone M pa w19 w20 hPI hq
        · have hq : ((M + (if hasFu t gg s = true then 1 else 0) == 1) && decide (1 < ones s)) = true := by
            rw [beq_iff_eq.mpr h157, decide_eq_true (Nat.lt_of_not_le (fun q => h162 (nI_le (b := 1) q (by decide))))]
            rfl
          refine st_goto (tgt := 408) hc dX12_trees_165 (by decide) ?_
          exact knd M pa w19 w20 hPI hq
    have k136 : (tpo t || ones s == 1) = true → aW g YM 10 Q 136 [some (.ref 0), some (.int (bI (tpo t))), some (.int (nI s)), some (.int (nI (ones s))), some (.int (nI gg)), none, none, none, none, none] [] τ := by
      intro ho
      refine st_aload_n hc dX12_trees_136 rfl rfl ?_
      refine st_iload hc dX12_trees_137 rfl ?_
      refine st_iload_n hc dX12_trees_139 rfl rfl ?_
      refine st_callVp hc dX12_trees_140 (C12_isIn 0 τ hTI.2.1 hn10 (fun k hk => ⟨hTI.2.2.1 k hk, hL k hk⟩) gg s (by omega) (by omega)) mvX12_241 (by omega) rfl rfl rfl (Nat.le_of_ble_eq_true rfl) ?_
      refine st_if_ne (tgt := 149) hc dX12_trees_143 (by decide) (fun h143 => ?_) (fun h143 => ?_)
      · have e : inS (tn t) (tL t) s gg = true := by
          rcases hb : inS (tn t) (tL t) s gg with _ | _
          · exact absurd (bI_0.mpr hb) h143
          · rfl
        exact k149 (by rw [e]; simp)
      · have e : inS (tn t) (tL t) s gg = false := bI_0.mp h143
        refine st_goto (tgt := 408) hc dX12_trees_146 (by decide) ?_
        exact kno (by unfold cand; rw [ho, e]; rfl) τ hTI hTB hRW
    refine st_iload hc dX12_trees_117 rfl ?_
    refine st_aload_n hc dX12_trees_119 rfl rfl ?_
    refine st_getE hc dX12_trees_120 flX12_16 rfl rfl ((hTI.1 0 2 rfl).trans hN) ?_
    refine st_icmp_ge (tgt := 414) hc dX12_trees_123 (by decide) (fun h123 => ?_) (fun h123 => ?_)
    · exact absurd h123 (nI_ge hg (by omega))
    · refine st_iload_n hc dX12_trees_126 rfl rfl ?_
      refine st_iconst (v := 1) hc dX12_trees_127 (by decide) ?_
      refine st_icmp_eq (tgt := 136) hc dX12_trees_128 (by decide) (fun h128 => ?_) (fun h128 => ?_)
      · have e1 : tpo t = true := bI_1.mp h128
        first
          | exact k136 (by rw [e1]; rfl)
          | exact k136 (by rw [e2]; simp)
      · have e1 : tpo t = false := by
          rcases hb : tpo t with _ | _
          · rfl
          · rw [hb] at h128; exact absurd rfl h128
        refine st_iload_n hc dX12_trees_131 rfl rfl ?_
        refine st_iconst (v := 1) hc dX12_trees_132 (by decide) ?_
        refine st_icmp_ne (tgt := 149) hc dX12_trees_133 (by decide) (fun h133 => ?_) (fun h133 => ?_)
        · have e2 : ¬ ones s = 1 := fun q => h133 (by rw [q]; rfl)
          exact k149 (by rw [e1, beq_eq_false_iff_ne.mpr e2]; rfl)
        · have e2 : ones s = 1 := nI_inj (b := 1) (by omega) (by decide) h133
          first
            | exact k136 (by rw [e1]; rfl)
            | exact k136 (by rw [e2]; simp)

