/-! ===== the sort of the hand ===== -/
def blankH (P : Nat) (h : Nat → Int32) : Bool := anyN P (fun i => decide (h i < 0))
/-- the hand's number -/
def numH (C : Nat) (h : Nat → Int32) (i : Nat) : Nat := match i with
  | 0 => 0
  | i + 1 => C * numH C h i + nat (h i)
def hOK (σ : St) : Prop := ∀ i, i < pN σ → σ 2 i = -1 ∨ (0 ≤ σ 2 i ∧ nat (σ 2 i) < cN σ)
theorem numH_lt {C : Nat} {h : Nat → Int32} (i : Nat) (hh : ∀ j, j < i → nat (h j) < C) : numH C h i < C ^ i := by
  induction i with
  | zero => simp [numH]
  | succ i ih =>
    have h1 := ih (fun j hj => hh j (by omega))
    have h2 := hh i (by omega)
    have e : numH C h (i + 1) = C * numH C h i + nat (h i) := rfl
    rw [e, Nat.pow_succ, Nat.mul_comm _ C]
    calc C * numH C h i + nat (h i) < C * numH C h i + C := by omega
      _ = C * (numH C h i + 1) := by rw [Nat.mul_add, Nat.mul_one]
      _ ≤ C * C ^ i := Nat.mul_le_mul_left _ h1
/-- two of the first n have one value -/
def dupN (n : Nat) (f : Nat → Nat) : Bool := anyN n (fun k => anyN k (fun m => f k == f m))
/-- the k-th code that is left -/
abbrev lth (σ : St) (k : Nat) : Nat := nthT (nN σ) (mLs σ) k
theorem lth_lt {σ : St} {k : Nat} (h : k < lm σ) : lth σ k < nN σ := (nthT_ok h).1
def sortS (σ : St) : Int32 :=
  if blankH (pN σ) (σ 2) = true then 3 else if mLs σ (numH (cN σ) (σ 2) (pN σ)) = false then 0 else if lm σ = 1 then 4 else if dupN (lm σ) (fun k => ans (pN σ) (cN σ) (σ 2) (lth σ k)) = true then 1 else 2
theorem anyN_nth {n : Nat} {p : Nat → Bool} {c : Nat} (hc : c < n) : anyN (cnt n p) (fun k => nthT n p k == c) = p c := by
  rw [Bool.eq_iff_iff, anyN_iff]
  constructor
  · rintro ⟨k, h1, h2⟩
    obtain ⟨-, h4, -⟩ := nthT_ok h1
    have : nthT n p k = c := by simpa using h2
    rw [this] at h4
    exact h4
  · intro h
    have hk := cnt_lt hc h
    refine ⟨cnt c p, hk, ?_⟩
    obtain ⟨h3, h4, h5⟩ := nthT_ok hk
    have : nthT n p (cnt c p) = c := by
      rcases Nat.lt_trichotomy (nthT n p (cnt c p)) c with q | q | q
      · have := cnt_lt q h4; omega
      · exact q
      · have := cnt_lt q h; omega
    simpa using this
theorem anyN_false {n : Nat} {p : Nat → Bool} (h : anyN n p = false) (i : Nat) (hi : i < n) : p i = false := by
  rcases hb : p i with _ | _
  · rfl
  · rw [(anyN_iff n p).mpr ⟨i, hi, hb⟩] at h; cases h
theorem anyN_s (n : Nat) (p : Nat → Bool) : anyN (n + 1) p = (anyN n p || p n) := rfl
theorem ans_lt (P C : Nat) (hP : P ≤ 5) (hC : C ≤ 8) (w : Nat → Int32) (c : Nat) : ans P C w c < 2 ^ 20 := by
  have h1 := blacks_le P C w c
  have h2 := alike_le P C w c
  have h3 : C * P ≤ 40 := Nat.le_trans (Nat.mul_le_mul hC hP) (by decide)
  unfold ans
  omega
theorem W12_sortOf {g : Gx} {d : Nat} {σ : St} {Q : Option Value → St → Prop} (hc : cX g YM RX12 cX12_sortOf 5 (some .int) (d + 4)) (hm : MI σ) (hh : hOK σ) (hQ : ∀ τ, sE σ τ → Q (some (.int (sortS σ))) τ) : aW g YM 5 Q 0 [some (.ref 0), none, none, none, none] [] σ := by
  obtain ⟨hm, ht⟩ := hm
  obtain ⟨hpc, h2, h3, h4, hT, hT2, hLi, hL2, hls⟩ := id hm
  obtain ⟨hP, hC, hP1, hP5, hC1, hC8⟩ := id hpc
  have hlm : lm σ ≤ 4096 := Nat.le_trans (cnt_le _ _) h4
  have k123 : ∀ F w, (∀ k, k < lm σ → F k = nI (lth σ k)) → (∀ i, i < pN σ → w i = σ 2 i) → blankH (pN σ) (σ 2) = false → mLs σ (numH (cN σ) (σ 2) (pN σ)) = true → ¬ lm σ = 1 → aW g YM 5 Q 123 [some (.ref 0), none, none, some (.int (nI 0)), none] [] (lkS σ (lm σ) F w) := by
    intro F w hF hw hbl hin h1
    have hs : sortS σ = if dupN (lm σ) (fun k => ans (pN σ) (cN σ) (σ 2) (lth σ k)) = true then 1 else 2 := by unfold sortS; rw [if_neg (by rw [hbl]; decide), if_neg (by rw [hin]; decide), if_neg h1]
    have hpc' : mPC (lkS σ (lm σ) F w) (pN σ) (cN σ) := hpc
    have hsE := sE.lk σ (lm σ) F w
    refine lpN (n := lm σ) (F := fun k => anyN k (fun k => anyN k (fun m => ans (pN σ) (cN σ) (σ 2) (lth σ k) == ans (pN σ) (cN σ) (σ 2) (lth σ m))) = false → aW g YM 5 Q 123 [some (.ref 0), none, none, some (.int (nI k)), none] [] (lkS σ (lm σ) F w)) ?_ (fun k hk ih => ?_) rfl
    · intro hd
      have hd : dupN (lm σ) (fun k => ans (pN σ) (cN σ) (σ 2) (lth σ k)) = false := hd
      rw [if_neg (by rw [hd]; decide)] at hs
      refine st_iload_n hc dX12_sortOf_123 rfl rfl ?_
      refine st_aload_n hc dX12_sortOf_124 rfl rfl ?_
      refine st_getE hc dX12_sortOf_125 flX12_164 rfl rfl (show _ = nI (lm σ) from rfl) ?_
      refine st_icmp_ge (tgt := 178) hc dX12_sortOf_128 (by decide) (fun h128 => ?_) (fun h128 => ?_)
      · refine st_iconst (v := 2) hc dX12_sortOf_178 (by decide) ?_
        refine st_iret (st := []) hc dX12_sortOf_179 rfl ?_
        rw [← hs]; exact hQ _ hsE
      · exact absurd (nI_le (Nat.le_refl _) (by omega)) h128
    · intro hd
      have k134 : aW g YM 5 Q 134 [some (.ref 0), none, none, some (.int (nI k)), some (.int (nI 0))] [] (lkS σ (lm σ) F w) := by
        refine lpN (n := k) (F := fun m => anyN m (fun m => ans (pN σ) (cN σ) (σ 2) (lth σ k) == ans (pN σ) (cN σ) (σ 2) (lth σ m)) = false → aW g YM 5 Q 134 [some (.ref 0), none, none, some (.int (nI k)), some (.int (nI m))] [] (lkS σ (lm σ) F w)) ?_ (fun m hmk ih2 => ?_) rfl
        · intro hd2
          refine st_iload hc dX12_sortOf_134 rfl ?_
          refine st_iload_n hc dX12_sortOf_136 rfl rfl ?_
          refine st_icmp_ge (tgt := 172) hc dX12_sortOf_137 (by decide) (fun h137 => ?_) (fun h137 => ?_)
          · refine st_inc hc dX12_sortOf_172 rfl (by decide) rfl ?_
            rw [nI_1]
            refine st_goto (tgt := 123) hc dX12_sortOf_175 (by decide) ?_
            exact st_lvq _ (by simp [lvq, List.set]) (ih (by rw [anyN_s, hd, hd2]; rfl))
          · exact absurd (nI_le (Nat.le_refl _) (by omega)) h137
        · intro hd2
          have l1 := lth_lt hk
          have l2 := lth_lt (σ := σ) (show m < lm σ by omega)
          have a1 := ans_lt (pN σ) (cN σ) hP5 hC8 (σ 2) (lth σ k)
          have a2 := ans_lt (pN σ) (cN σ) hP5 hC8 (σ 2) (lth σ m)
          refine st_iload hc dX12_sortOf_134 rfl ?_
          refine st_iload_n hc dX12_sortOf_136 rfl rfl ?_
          refine st_icmp_ge (tgt := 172) hc dX12_sortOf_137 (by decide) (fun h137 => ?_) (fun h137 => ?_)
          · exact absurd h137 (nI_ge hmk (by omega))
          · refine st_aload_n hc dX12_sortOf_140 rfl rfl ?_
            refine st_aload_n hc dX12_sortOf_141 rfl rfl ?_
            refine st_getr hc dX12_sortOf_142 flX12_42 rfl rfl ?_
            refine st_iload_n hc dX12_sortOf_145 rfl rfl ?_
            refine st_ialdN (k := k) hc dX12_sortOf_146 rfl (rfl) (by omega) (by decide) (hF k hk) ?_
            refine st_callVp hc dX12_sortOf_147 (C12_answers d _ hpc' (lth σ k) (by omega)) mvX12_160 (by omega) rfl rfl rfl (Nat.le_of_ble_eq_true rfl) ?_
            refine st_aload_n hc dX12_sortOf_150 rfl rfl ?_
            refine st_aload_n hc dX12_sortOf_151 rfl rfl ?_
            refine st_getr hc dX12_sortOf_152 flX12_42 rfl rfl ?_
            refine st_iload hc dX12_sortOf_155 rfl ?_
            refine st_ialdN (k := m) hc dX12_sortOf_157 rfl (rfl) (by omega) (by decide) (hF m (by omega)) ?_
            refine st_callVp hc dX12_sortOf_158 (C12_answers d _ hpc' (lth σ m) (by omega)) mvX12_160 (by omega) rfl rfl rfl (Nat.le_of_ble_eq_true rfl) ?_
            rw [show lkS σ (lm σ) F w 6 = w from rfl, ans_congr hw, ans_congr hw]
            refine st_icmp_ne (tgt := 166) hc dX12_sortOf_161 (by decide) (fun h161 => ?_) (fun h161 => ?_)
            · refine st_inc hc dX12_sortOf_166 rfl (by decide) rfl ?_
              rw [nI_1]
              refine st_goto (tgt := 134) hc dX12_sortOf_169 (by decide) ?_
              exact ih2 (by rw [anyN_s, hd2, Bool.false_or]; simpa using fun q => h161 (by rw [q]))
            · have hd3 : dupN (lm σ) (fun k => ans (pN σ) (cN σ) (σ 2) (lth σ k)) = true := (anyN_iff _ _).mpr ⟨k, hk, (anyN_iff _ _).mpr ⟨m, hmk, by simpa using nI_inj (by omega) (by omega) h161⟩⟩
              rw [if_pos hd3] at hs
              refine st_iconst (v := 1) hc dX12_sortOf_164 (by decide) ?_
              refine st_iret (st := []) hc dX12_sortOf_165 rfl ?_
              rw [← hs]; exact hQ _ hsE
      refine st_iload_n hc dX12_sortOf_123 rfl rfl ?_
      refine st_aload_n hc dX12_sortOf_124 rfl rfl ?_
      refine st_getE hc dX12_sortOf_125 flX12_164 rfl rfl (show _ = nI (lm σ) from rfl) ?_
      refine st_icmp_ge (tgt := 178) hc dX12_sortOf_128 (by decide) (fun h128 => ?_) (fun h128 => ?_)
      · exact absurd h128 (nI_ge hk (by omega))
      · refine st_iconst (v := 0) hc dX12_sortOf_131 (by decide) ?_
        refine st_istore hc dX12_sortOf_132 (by decide) rfl ?_
        exact st_lvq _ (by simp [lvq, List.set, nI_0]) k134
  have k67 : ∀ F w, (∀ k, k < lm σ → F k = nI (lth σ k)) → blankH (pN σ) (σ 2) = false → aW g YM 5 Q 67 [some (.ref 0), some (.int (nI (numH (cN σ) (σ 2) (pN σ)))), some (.int (bI false)), some (.int (nI 0)), none] [] (lkS σ (lm σ) F w) := by
    intro F w hF hbl
    have hnl : numH (cN σ) (σ 2) (pN σ) < nN σ := by
      rw [h3]
      refine numH_lt _ (fun j hj => ?_)
      rcases hh j hj with q | q
      · have := anyN_false hbl j hj; rw [q] at this; exact absurd this (by decide)
      · exact q.2
    refine lpN (n := lm σ) (F := fun k => aW g YM 5 Q 67 [some (.ref 0), some (.int (nI (numH (cN σ) (σ 2) (pN σ)))), some (.int (bI (anyN k (fun k => lth σ k == numH (cN σ) (σ 2) (pN σ))))), some (.int (nI k)), none] [] (lkS σ (lm σ) F w)) ?_ (fun k hk ih => ?_)
    · rw [anyN_nth hnl]
      have hpc' : mPC (lkS σ (lm σ) F w) (pN σ) (cN σ) := hpc
      have hsE := sE.lk σ (lm σ) F w
      refine st_iload_n hc dX12_sortOf_67 rfl rfl ?_
      refine st_aload_n hc dX12_sortOf_68 rfl rfl ?_
      refine st_getE hc dX12_sortOf_69 flX12_164 rfl rfl (show _ = nI (lm σ) from rfl) ?_
      refine st_icmp_ge (tgt := 101) hc dX12_sortOf_72 (by decide) (fun h72 => ?_) (fun h72 => ?_)
      · refine st_iload_n hc dX12_sortOf_101 rfl rfl ?_
        refine st_if_ne (tgt := 107) hc dX12_sortOf_102 (by decide) (fun h102 => ?_) (fun h102 => ?_)
        · have e : mLs σ (numH (cN σ) (σ 2) (pN σ)) = true := by rcases hb : mLs σ (numH (cN σ) (σ 2) (pN σ)) with _ | _; exact absurd (bI_0.mpr hb) h102; rfl
          refine st_aload_n hc dX12_sortOf_107 rfl rfl ?_
          refine st_getE hc dX12_sortOf_108 flX12_164 rfl rfl (show _ = nI (lm σ) from rfl) ?_
          refine st_iconst (v := 1) hc dX12_sortOf_111 (by decide) ?_
          refine st_icmp_ne (tgt := 117) hc dX12_sortOf_112 (by decide) (fun h112 => ?_) (fun h112 => ?_)
          · have e1 : ¬ lm σ = 1 := fun q => h112 (by rw [q]; rfl)
            refine st_aload_n hc dX12_sortOf_117 rfl rfl ?_
            refine st_callVn hc dX12_sortOf_118 (C12_guessHand (d + 2) _ hpc') mvX12_211 (by omega) rfl rfl rfl (Nat.le_of_ble_eq_true rfl) ?_
            rintro _ ⟨w2, hw2, rfl⟩
            rw [vu_vu]
            refine st_iconst (v := 0) hc dX12_sortOf_121 (by decide) ?_
            refine st_istore_n hc dX12_sortOf_122 rfl (by decide) rfl ?_
            exact st_lvq _ (by simp [lvq, List.set, nI_0]) (k123 F w2 hF hw2 hbl e e1)
          · have e1 : lm σ = 1 := nI_inj (by omega) (by omega) h112
            have hs : sortS σ = 4 := by unfold sortS; rw [if_neg (by rw [hbl]; decide), if_neg (by rw [e]; decide), if_pos e1]
            refine st_iconst (v := 4) hc dX12_sortOf_115 (by decide) ?_
            refine st_iret (st := []) hc dX12_sortOf_116 rfl ?_
            rw [← hs]; exact hQ _ hsE
        · have e := bI_0.mp h102
          have hs : sortS σ = 0 := by unfold sortS; rw [if_neg (by rw [hbl]; decide), if_pos e]
          refine st_iconst (v := 0) hc dX12_sortOf_105 (by decide) ?_
          refine st_iret (st := []) hc dX12_sortOf_106 rfl ?_
          rw [← hs]; exact hQ _ hsE
      · exact absurd (nI_le (Nat.le_refl _) (by omega)) h72
    · have l1 := lth_lt hk
      have e3 := nI_eq (show lth σ k < 2 ^ 31 by omega) (show numH (cN σ) (σ 2) (pN σ) < 2 ^ 31 by omega)
      refine st_iload_n hc dX12_sortOf_67 rfl rfl ?_
      refine st_aload_n hc dX12_sortOf_68 rfl rfl ?_
      refine st_getE hc dX12_sortOf_69 flX12_164 rfl rfl (show _ = nI (lm σ) from rfl) ?_
      refine st_icmp_ge (tgt := 101) hc dX12_sortOf_72 (by decide) (fun h72 => ?_) (fun h72 => ?_)
      · exact absurd h72 (nI_ge hk (by omega))
      · refine st_iload_n hc dX12_sortOf_75 rfl rfl ?_
        refine st_if_ne (tgt := 89) hc dX12_sortOf_76 (by decide) (fun h76 => ?_) (fun h76 => ?_)
        · have e : anyN k (fun k => lth σ k == numH (cN σ) (σ 2) (pN σ)) = true := by rcases hb : anyN k (fun k => lth σ k == numH (cN σ) (σ 2) (pN σ)) with _ | _; exact absurd (bI_0.mpr hb) h76; rfl
          refine st_iconst (v := 1) hc dX12_sortOf_89 (by decide) ?_
          refine st_goto (tgt := 94) hc dX12_sortOf_90 (by decide) ?_
          refine st_istore_n hc dX12_sortOf_94 rfl (by decide) rfl ?_
          refine st_inc hc dX12_sortOf_95 rfl (by decide) rfl ?_
          rw [nI_1]
          refine st_goto (tgt := 67) hc dX12_sortOf_98 (by decide) ?_
          refine st_lvq _ ?_ ih
          rw [anyN_s, e]
          simp [lvq, List.set, bI, e3]
        · have e := bI_0.mp h76
          refine st_aload_n hc dX12_sortOf_79 rfl rfl ?_
          refine st_getr hc dX12_sortOf_80 flX12_42 rfl rfl ?_
          refine st_iload_n hc dX12_sortOf_83 rfl rfl ?_
          refine st_ialdN (k := k) hc dX12_sortOf_84 rfl (rfl) (by omega) (by decide) (hF k hk) ?_
          refine st_iload_n hc dX12_sortOf_85 rfl rfl ?_
          refine st_t_icmp_ne (a := 1) (b := 0) hc dX12_sortOf_86 dX12_sortOf_89 dX12_sortOf_90 dX12_sortOf_93 (by decide) (by decide) ?_
          refine st_istore_n hc dX12_sortOf_94 rfl (by decide) rfl ?_
          refine st_inc hc dX12_sortOf_95 rfl (by decide) rfl ?_
          rw [nI_1]
          refine st_goto (tgt := 67) hc dX12_sortOf_98 (by decide) ?_
          refine st_lvq _ ?_ ih
          rw [anyN_s, e]
          simp [lvq, List.set, bI, e3]
  have k31 : blankH (pN σ) (σ 2) = false → aW g YM 5 Q 31 [some (.ref 0), some (.int (nI 0)), some (.int (nI 0)), none, none] [] σ := by
    intro hbl
    have hnz : ∀ i, i < pN σ → 0 ≤ σ 2 i ∧ nat (σ 2 i) < cN σ := fun i hi => by
      rcases hh i hi with q | q
      · have := anyN_false hbl i hi; rw [q] at this; exact absurd this (by decide)
      · exact q
    refine lpN (n := pN σ) (F := fun i => aW g YM 5 Q 31 [some (.ref 0), some (.int (nI (numH (cN σ) (σ 2) i))), some (.int (nI i)), none, none] [] σ) ?_ (fun i hi ih => ?_)
    · refine st_iload_n hc dX12_sortOf_31 rfl rfl ?_
      refine st_aload_n hc dX12_sortOf_32 rfl rfl ?_
      refine st_getE hc dX12_sortOf_33 flX12_7 rfl rfl (hP) ?_
      refine st_icmp_ge (tgt := 59) hc dX12_sortOf_36 (by decide) (fun h36 => ?_) (fun h36 => ?_)
      · refine st_aload_n hc dX12_sortOf_59 rfl rfl ?_
        refine st_callVn hc dX12_sortOf_60 (C12_look d σ hm) mvX12_208 (by omega) rfl rfl rfl (Nat.le_of_ble_eq_true rfl) ?_
        rintro _ ⟨F, w, hF, rfl⟩
        refine st_iconst (v := 0) hc dX12_sortOf_63 (by decide) ?_
        refine st_istore_n hc dX12_sortOf_64 rfl (by decide) rfl ?_
        refine st_iconst (v := 0) hc dX12_sortOf_65 (by decide) ?_
        refine st_istore_n hc dX12_sortOf_66 rfl (by decide) rfl ?_
        exact st_lvq _ (by simp [lvq, List.set, nI_0, bI]) (k67 F w (fun k hk => nthT_at hF hk) hbl)
      · exact absurd (nI_le (Nat.le_refl _) (by omega)) h36
    · refine st_iload_n hc dX12_sortOf_31 rfl rfl ?_
      refine st_aload_n hc dX12_sortOf_32 rfl rfl ?_
      refine st_getE hc dX12_sortOf_33 flX12_7 rfl rfl (hP) ?_
      refine st_icmp_ge (tgt := 59) hc dX12_sortOf_36 (by decide) (fun h36 => ?_) (fun h36 => ?_)
      · exact absurd h36 (nI_ge hi (by omega))
      · refine st_aload_n hc dX12_sortOf_39 rfl rfl ?_
        refine st_getE hc dX12_sortOf_40 flX12_13 rfl rfl (hC) ?_
        refine st_iload_n hc dX12_sortOf_43 rfl rfl ?_
        refine st_imul hc dX12_sortOf_44 ?_
        refine st_aload_n hc dX12_sortOf_45 rfl rfl ?_
        refine st_getr hc dX12_sortOf_46 flX12_23 rfl rfl ?_
        refine st_iload_n hc dX12_sortOf_49 rfl rfl ?_
        refine st_ialdN (k := i) hc dX12_sortOf_50 rfl (rfl) (by omega) (by decide) ((nI_nat (hnz i hi).1).symm) ?_
        refine st_iadd hc dX12_sortOf_51 ?_
        rw [pk_mul, nI_add]
        refine st_istore_n hc dX12_sortOf_52 rfl (by decide) rfl ?_
        refine st_inc hc dX12_sortOf_53 rfl (by decide) rfl ?_
        rw [nI_1]
        refine st_goto (tgt := 31) hc dX12_sortOf_56 (by decide) ?_
        exact ih
  have k2 : aW g YM 5 Q 2 [some (.ref 0), some (.int (nI 0)), none, none, none] [] σ := by
    refine lpN (n := pN σ) (F := fun i => anyN i (fun i => decide (σ 2 i < 0)) = false → aW g YM 5 Q 2 [some (.ref 0), some (.int (nI i)), none, none, none] [] σ) ?_ (fun i hi ih => ?_) rfl
    · intro hbl
      refine st_iload_n hc dX12_sortOf_2 rfl rfl ?_
      refine st_aload_n hc dX12_sortOf_3 rfl rfl ?_
      refine st_getE hc dX12_sortOf_4 flX12_7 rfl rfl (hP) ?_
      refine st_icmp_ge (tgt := 27) hc dX12_sortOf_7 (by decide) (fun h7 => ?_) (fun h7 => ?_)
      · refine st_iconst (v := 0) hc dX12_sortOf_27 (by decide) ?_
        refine st_istore_n hc dX12_sortOf_28 rfl (by decide) rfl ?_
        refine st_iconst (v := 0) hc dX12_sortOf_29 (by decide) ?_
        refine st_istore_n hc dX12_sortOf_30 rfl (by decide) rfl ?_
        exact st_lvq _ (by simp [lvq, List.set, nI_0]) (k31 hbl)
      · exact absurd (nI_le (Nat.le_refl _) (by omega)) h7
    · intro hbl
      refine st_iload_n hc dX12_sortOf_2 rfl rfl ?_
      refine st_aload_n hc dX12_sortOf_3 rfl rfl ?_
      refine st_getE hc dX12_sortOf_4 flX12_7 rfl rfl (hP) ?_
      refine st_icmp_ge (tgt := 27) hc dX12_sortOf_7 (by decide) (fun h7 => ?_) (fun h7 => ?_)
      · exact absurd h7 (nI_ge hi (by omega))
      · refine st_aload_n hc dX12_sortOf_10 rfl rfl ?_
        refine st_getr hc dX12_sortOf_11 flX12_23 rfl rfl ?_
        refine st_iload_n hc dX12_sortOf_14 rfl rfl ?_
        refine st_ialdN (k := i) hc dX12_sortOf_15 rfl (rfl) (by omega) (by decide) rfl ?_
        refine st_if_ge (tgt := 21) hc dX12_sortOf_16 (by decide) (fun h16 => ?_) (fun h16 => ?_)
        · refine st_inc hc dX12_sortOf_21 rfl (by decide) rfl ?_
          rw [nI_1]
          refine st_goto (tgt := 2) hc dX12_sortOf_24 (by decide) ?_
          exact ih (by rw [anyN_s, hbl, Bool.false_or]; exact decide_eq_false (Int32.not_lt.mpr h16))
        · have hs : sortS σ = 3 := by unfold sortS; rw [if_pos]; exact (anyN_iff _ _).mpr ⟨i, hi, decide_eq_true (Int32.not_le.mp h16)⟩
          refine st_iconst (v := 3) hc dX12_sortOf_19 (by decide) ?_
          refine st_iret (st := []) hc dX12_sortOf_20 rfl ?_
          rw [← hs]; exact hQ σ sE.rf
  refine st_iconst (v := 0) hc dX12_sortOf_0 (by decide) ?_
  refine st_istore_n hc dX12_sortOf_1 rfl (by decide) rfl ?_
  exact st_lvq _ (by simp [lvq, List.set, nI_0]) k2
theorem C12_sortOf (d : Nat) (σ : St) (hm : MI σ) (hh : hOK σ) : Mt YM mX12_sortOf (d + 4) [.ref 0] σ (fun r τ => r = some (.int (sortS σ)) ∧ sE σ τ) :=
  Mt.ofA [some (.ref 0), none, none, none, none] (by decide) (fun _ => Nat.le_of_ble_eq_true rfl) (fun _ => rfl) (fun _ hc => W12_sortOf hc hm hh (fun _ h => ⟨rfl, h⟩))
theorem MI.t0 {σ : St} (h : MI σ) : MI (t0 σ) := h
theorem hOK.t0 {σ : St} (h : hOK σ) : hOK (t0 σ) := h
def sp_sort (σ : St) : Int32 × St := (sortS σ, t0 σ)
theorem C12_sort (σ : St) (hm : MI σ) (hh : hOK σ) : Mt YM mX12_sort 9 [.ref 0] σ (fun r τ => r = some (.int (sp_sort σ).1) ∧ sE (sp_sort σ).2 τ) := by
  refine Mt.ofA [some (.ref 0)] (by decide) (fun _ => Nat.le_of_ble_eq_true rfl) (fun _ => rfl) (fun g hc => ?_)
  refine st_aload_n hc dX12_sort_0 rfl rfl ?_
  refine st_iconst (v := 0) hc dX12_sort_1 (by decide) ?_
  refine st_put hc dX12_sort_2 fpX12_139 rfl rfl  ?_
  refine st_aload_n hc dX12_sort_5 rfl rfl ?_
  refine st_callVq hc dX12_sort_6 (C12_sortOf 0 (t0 σ) hm hh) mvX12_205 (by omega) rfl rfl rfl (Nat.le_of_ble_eq_true rfl) ?_
  rintro τ hτ
  refine st_iret (st := []) hc dX12_sort_9 rfl ?_
  exact ⟨rfl, hτ⟩

