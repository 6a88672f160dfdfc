/-! ===== parts, among, turns, counts ===== -/
theorem sw_c (n : Nat) (hn : n < 2 ^ 31) (x : Int32) : (x.toInt < 0 ∨ (n : Int) ≤ x.toInt) ∨ ∃ k, k < n ∧ x = nI k := by
  by_cases h : x < 0
  · refine Or.inl (Or.inl ?_)
    have := Int32.lt_iff_toInt_lt.mp h
    simpa using this
  · obtain ⟨j, hj, rfl⟩ := nI_of h
    by_cases q : j < n
    · exact Or.inr ⟨j, q, rfl⟩
    · refine Or.inl (Or.inr ?_)
      rw [nI_toInt hj]
      omega
theorem nthT_eq {n : Nat} {p : Nat → Bool} {k c : Nat} (hc : c < n) (hp : p c = true) (hk : cnt c p = k) : nthT n p k = c := by
  have hk2 := cnt_lt hc hp
  rw [hk] at hk2
  obtain ⟨h3, h4, h5⟩ := nthT_ok hk2
  rcases Nat.lt_trichotomy (nthT n p k) c with q | q | q
  · have := cnt_lt q h4; omega
  · exact q
  · have := cnt_lt q hp; omega
theorem nI_pm {i c : Nat} (hi : i < 2 ^ 30) (hc : c < 2 ^ 30) : nI i ≤ nI c - 1 ↔ i < c := by
  rw [Int32.le_iff_toInt_le]
  have h1 := pk_sub_toInt (a := c) (b := 1) hc (by decide)
  rw [show nI 1 = (1 : Int32) from rfl] at h1
  rw [h1, nI_toInt (by omega)]
  omega
theorem mOK.t0 {σ : St} {P C N T L : Nat} (h : mOK σ P C N T L) : mOK (t0 σ) P C N T L := h
/-- the hand's answers to the codes that are left -/
abbrev hA (σ : St) (k : Nat) : Nat := ans (pN σ) (cN σ) (σ 2) (lth σ k)
def sp_part (σ : St) (i w : Int32) : Int32 × St :=
  if (0 ≤ i ∧ nat i < npA (lm σ) (hA σ)) ∧ (0 ≤ w ∧ w ≤ 1) then (if w = 0 then nI (nthT 60 (fun a => decide (0 < szA (lm σ) (hA σ) a)) (nat i)) else nI (szA (lm σ) (hA σ) (nthT 60 (fun a => decide (0 < szA (lm σ) (hA σ) a)) (nat i))), t0 σ) else (-1, t0 σ)
theorem szA_congr {n : Nat} {f h : Nat → Nat} (e : ∀ k, k < n → f k = h k) (a : Nat) : szA n f a = szA n h a := cnt_congr (fun k hk => by rw [e k hk])
theorem npA_congr {n : Nat} {f h : Nat → Nat} (e : ∀ k, k < n → f k = h k) : npA n f = npA n h := by
  unfold npA
  exact cnt_congr (fun a _ => by rw [szA_congr e a])
theorem C12_part (σ : St) (hm : MI σ) (i w : Int32) : Mt YM mX12_part 9 [.ref 0, .int i, .int w] σ (fun r τ => r = some (.int (sp_part σ i w).1) ∧ sE (sp_part σ i w).2 τ) := by
  obtain ⟨hm, ht⟩ := hm
  obtain ⟨hpc, h2, h3, h4, hT, hT2, hLi, hL2, hls⟩ := id hm
  have hlm : lm σ ≤ 4096 := Nat.le_trans (cnt_le _ _) h4
  refine Mt.ofA [some (.ref 0), some (.int i), some (.int w), none, none] (by decide) (fun _ => Nat.le_of_ble_eq_true rfl) (fun _ => rfl) (fun g hc => ?_)
  have hnp : npA (lm σ) (hA σ) ≤ 60 := cnt_le _ _
  have hin := in_n (x := i) (n := npA (lm σ) (hA σ)) (by omega)
  generalize hQe : (fun r τ => r = some (Value.int (sp_part σ i w).1) ∧ sE (sp_part σ i w).2 τ) = Q
  have hQ : ∀ τ, sE (t0 σ) τ → ∀ x, x = (sp_part σ i w).1 → Q (some (.int x)) τ := by
    intro τ h1 x h2
    rw [← hQe]
    refine ⟨by rw [h2], ?_⟩
    have : (sp_part σ i w).2 = t0 σ := by unfold sp_part; split <;> rfl
    rw [this]
    exact h1
  have hz : ∀ a, szA (lm σ) (hA σ) a ≤ lm σ := fun a => cnt_le _ _
  have kx : ∀ F w1 w2, (∀ a, a < 60 → w2 a = nI (szA (lm σ) (hA σ) a)) → nat i < npA (lm σ) (hA σ) → 0 ≤ i → (0 ≤ w ∧ w ≤ 1) → ∀ a, a < 60 → decide (0 < szA (lm σ) (hA σ) a) = true → cnt a (fun a => decide (0 < szA (lm σ) (hA σ) a)) = nat i → aW g YM 5 Q 43 [some (.ref 0), some (.int i), some (.int w), some (.int (nI (nat i + 1) - 1)), some (.int (nI (a + 1) - 1))] [] (va_up (lkS (t0 σ) (lm σ) F w1) 9 w2) := by
    intro F w1 w2 hw2 hi hi0 hw a ha hpa hca
    have hsE : sE (t0 σ) (va_up (lkS (t0 σ) (lm σ) F w1) 9 w2) := (sE.lk _ _ _ _).v rfl (by decide) w2
    have en : nthT 60 (fun a => decide (0 < szA (lm σ) (hA σ) a)) (nat i) = a := nthT_eq (p := fun a => decide (0 < szA (lm σ) (hA σ) a)) ha hpa hca
    have es : (sp_part σ i w).1 = if w = 0 then nI a else nI (szA (lm σ) (hA σ) a) := by
      unfold sp_part
      rw [if_pos ⟨⟨hi0, hi⟩, hw⟩, en]
    rw [nI_pred, nI_pred, nI_nat hi0]
    refine st_iload_n hc dX12_part_43 rfl rfl ?_
    refine st_iload_n hc dX12_part_44 rfl rfl ?_
    refine st_icmp_ge (tgt := 72) hc dX12_part_45 (by decide) (fun h45 => ?_) (fun h45 => ?_)
    · refine st_iload_n hc dX12_part_72 rfl rfl ?_
      refine st_if_ne (tgt := 81) hc dX12_part_73 (by decide) (fun h73 => ?_) (fun h73 => ?_)
      · rw [if_neg h73] at es
        refine st_aload_n hc dX12_part_81 rfl rfl ?_
        refine st_getr hc dX12_part_82 flX12_48 rfl rfl ?_
        refine st_iload hc dX12_part_85 rfl ?_
        refine st_ialdN (k := a) hc dX12_part_87 rfl (rfl) (by omega) (by decide) (hw2 a ha) ?_
        refine st_iret (st := []) hc dX12_part_88 rfl ?_
        exact hQ _ hsE _ es.symm
      · rw [if_pos h73] at es
        refine st_iload hc dX12_part_76 rfl ?_
        refine st_goto (tgt := 88) hc dX12_part_78 (by decide) ?_
        refine st_iret (st := []) hc dX12_part_88 rfl ?_
        exact hQ _ hsE _ es.symm
    · exact absurd (Int32.le_refl i) h45
  have k43 : ∀ F w1 w2, (∀ a, a < 60 → w2 a = nI (szA (lm σ) (hA σ) a)) → nat i < npA (lm σ) (hA σ) → 0 ≤ i → (0 ≤ w ∧ w ≤ 1) → aW g YM 5 Q 43 [some (.ref 0), some (.int i), some (.int w), some (.int (nI 0 - 1)), some (.int (nI 0 - 1))] [] (va_up (lkS (t0 σ) (lm σ) F w1) 9 w2) := by
    intro F w1 w2 hw2 hi hi0 hw
    refine lpN (n := 60) (F := fun a => cnt a (fun a => decide (0 < szA (lm σ) (hA σ) a)) ≤ nat i → aW g YM 5 Q 43 [some (.ref 0), some (.int i), some (.int w), some (.int (nI (cnt a (fun a => decide (0 < szA (lm σ) (hA σ) a))) - 1)), some (.int (nI a - 1))] [] (va_up (lkS (t0 σ) (lm σ) F w1) 9 w2)) ?_ (fun a ha ih => ?_) (Nat.zero_le _)
    · intro q
      exact absurd hi (Nat.not_lt.mpr q)
    · intro q
      have hza := hz a
      have hs : cnt (a + 1) (fun a => decide (0 < szA (lm σ) (hA σ) a)) = cnt a (fun a => decide (0 < szA (lm σ) (hA σ) a)) + (if decide (0 < szA (lm σ) (hA σ) a) = true then 1 else 0) := rfl
      have hca : cnt a (fun a => decide (0 < szA (lm σ) (hA σ) a)) ≤ a := cnt_le _ _
      have ei := nI_nat hi0
      refine st_iload_n hc dX12_part_43 rfl rfl ?_
      refine st_iload_n hc dX12_part_44 rfl rfl ?_
      refine st_icmp_ge (tgt := 72) hc dX12_part_45 (by decide) (fun h45 => ?_) (fun h45 => ?_)
      · exfalso
        rw [← ei] at h45
        exact absurd ((nI_pm (by omega) (by omega)).mp h45) (by omega)
      · refine st_inc hc dX12_part_48 rfl (by decide) rfl ?_
        rw [Int32.sub_add_cancel]
        refine st_iload_n hc dX12_part_51 rfl rfl ?_
        refine st_aload_n hc dX12_part_52 rfl rfl ?_
        refine st_getr hc dX12_part_53 flX12_48 rfl rfl ?_
        refine st_iload hc dX12_part_56 rfl ?_
        refine st_ialdN (k := a) hc dX12_part_58 rfl (rfl) (by omega) (by decide) (hw2 a ha) ?_
        refine st_t_if_le (a := 1) (b := 0) hc dX12_part_59 dX12_part_62 dX12_part_63 dX12_part_66 (by decide) (by decide) ?_
        refine st_iadd hc dX12_part_67 ?_
        rw [show (if nI (szA (lm σ) (hA σ) a) ≤ 0 then (0 : Int32) else 1) = nI (if decide (0 < szA (lm σ) (hA σ) a) = true then 1 else 0) by
          by_cases q : 0 < szA (lm σ) (hA σ) a
          · rw [if_neg (nI_nle q (by omega)), if_pos (decide_eq_true q)]; rfl
          · have : szA (lm σ) (hA σ) a = 0 := by omega
            rw [this]; rfl]
        rw [Int32.sub_eq_add_neg, Int32.add_assoc, Int32.add_comm (-1), ← Int32.add_assoc, ← Int32.sub_eq_add_neg, nI_add, ← hs]
        have ea : nI a = nI (a + 1) - 1 := (nI_pred a).symm
        refine st_istore_n hc dX12_part_68 rfl (by decide) rfl ?_
        refine st_goto (tgt := 43) hc dX12_part_69 (by decide) ?_
        by_cases q2 : cnt (a + 1) (fun a => decide (0 < szA (lm σ) (hA σ) a)) ≤ nat i
        · exact st_lvq _ (by simp [lvq, List.set, ea, Int32.sub_eq_add_neg]) (ih q2)
        · have hpa : decide (0 < szA (lm σ) (hA σ) a) = true := by
            rcases hb : decide (0 < szA (lm σ) (hA σ) a) with _ | _
            · rw [hs, hb] at q2; exact absurd q q2
            · rfl
          rw [hpa] at hs
          have e1 : cnt a (fun a => decide (0 < szA (lm σ) (hA σ) a)) = nat i := by simp only [if_true] at hs; omega
          have e2 : cnt (a + 1) (fun a => decide (0 < szA (lm σ) (hA σ) a)) = nat i + 1 := by simp only [if_true] at hs; omega
          exact st_lvq _ (by simp [lvq, List.set, ea, e2, Int32.sub_eq_add_neg]) (kx F w1 w2 hw2 hi hi0 hw a ha hpa e1)
  refine st_aload_n hc dX12_part_0 rfl rfl ?_
  refine st_iconst (v := 0) hc dX12_part_1 (by decide) ?_
  refine st_put hc dX12_part_2 fpX12_139 rfl rfl  ?_
  refine st_aload_n hc dX12_part_5 rfl rfl ?_
  refine st_callVn hc dX12_part_6 (C12_look 3 (t0 σ) hm.t0) mvX12_208 (by omega) rfl rfl rfl (Nat.le_of_ble_eq_true rfl) ?_
  rintro _ ⟨F, w1, hF, rfl⟩
  refine st_aload_n hc dX12_part_9 rfl rfl ?_
  refine st_callVn hc dX12_part_10 (C12_guessHand 3 (lkS (t0 σ) (lm σ) F w1) (P := pN σ) (C := cN σ) hpc) mvX12_211 (by omega) rfl rfl rfl (Nat.le_of_ble_eq_true rfl) ?_
  rintro _ ⟨w3, hw3, rfl⟩
  rw [vu_vu]
  have hnp2 : npA (lm σ) (fun k => ans (pN σ) (cN σ) (lkS (t0 σ) (lm σ) F w3 6) (lth σ k)) = npA (lm σ) (hA σ) := npA_congr (fun k _ => ans_congr hw3 _)
  refine st_iload_n hc dX12_part_13 rfl rfl ?_
  refine st_iconst (v := 0) hc dX12_part_14 (by decide) ?_
  refine st_aload_n hc dX12_part_15 rfl rfl ?_
  refine st_callVq hc dX12_part_16 (C12_partsOf 3 (lkS (t0 σ) (lm σ) F w3) (P := pN σ) (C := cN σ) (n := lm σ) (L := lth σ) hpc rfl hlm (fun k hk => ⟨nthT_at hF hk, Nat.lt_of_lt_of_le (lth_lt hk) h4⟩)) mvX12_223 (by omega) rfl rfl rfl (Nat.le_of_ble_eq_true rfl) ?_
  rintro _ ⟨w2, hw2, rfl⟩
  rw [hnp2]
  have hw2 : ∀ a, a < 60 → w2 a = nI (szA (lm σ) (hA σ) a) := fun a ha => by rw [hw2 a ha]; congr 1; exact szA_congr (fun k _ => ans_congr hw3 _) a
  have hsE : sE (t0 σ) (va_up (lkS (t0 σ) (lm σ) F w3) 9 w2) := (sE.lk _ _ _ _).v rfl (by decide) w2
  refine st_iconst (v := 1) hc dX12_part_19 (by decide) ?_
  refine st_isub hc dX12_part_20 ?_
  refine st_callSp hc dX12_part_21 (C12_in 0 _ i 0 (nI (npA (lm σ) (hA σ)) - 1)) msX12_142 (by omega) rfl rfl (Nat.le_of_ble_eq_true rfl) ?_
  refine st_if_eq (tgt := 36) hc dX12_part_24 (by decide) (fun h24 => ?_) (fun h24 => ?_)
  · have h24 := fun q => it0.mp h24 (hin.mpr q)
    refine st_iconst (v := (-1)) hc dX12_part_36 (by decide) ?_
    refine st_iret (st := []) hc dX12_part_37 rfl ?_
    first
     | exact hQ _ hsE _ (by unfold sp_part; rw [if_neg (fun q => h24 q.1)])
     | exact hQ _ hsE _ (by unfold sp_part; rw [if_neg (fun q => h33 q.2)])
  · have h24 := hin.mp (it1.mp h24)
    refine st_iload_n hc dX12_part_27 rfl rfl ?_
    refine st_iconst (v := 0) hc dX12_part_28 (by decide) ?_
    refine st_iconst (v := 1) hc dX12_part_29 (by decide) ?_
    refine st_callSp hc dX12_part_30 (C12_in 0 _ w 0 1) msX12_142 (by omega) rfl rfl (Nat.le_of_ble_eq_true rfl) ?_
    refine st_if_ne (tgt := 38) hc dX12_part_33 (by decide) (fun h33 => ?_) (fun h33 => ?_)
    · have h33 := it1.mp h33
      refine st_iconst (v := (-1)) hc dX12_part_38 (by decide) ?_
      refine st_istore_n hc dX12_part_39 rfl (by decide) rfl ?_
      refine st_iconst (v := (-1)) hc dX12_part_40 (by decide) ?_
      refine st_istore hc dX12_part_41 (by decide) rfl ?_
      exact k43 F w3 w2 hw2 h24.2 h24.1 h33
    · have h33 := it0.mp h33
      refine st_iconst (v := (-1)) hc dX12_part_36 (by decide) ?_
      refine st_iret (st := []) hc dX12_part_37 rfl ?_
      first
       | exact hQ _ hsE _ (by unfold sp_part; rw [if_neg (fun q => h24 q.1)])
       | exact hQ _ hsE _ (by unfold sp_part; rw [if_neg (fun q => h33 q.2)])
/-! the law's parts of what can be told of all guesses -/
abbrev gA (σ : St) (c k : Nat) : Nat := ans (pN σ) (cN σ) (fun i => nI (pegOf (pN σ) (cN σ) c i)) (lth σ k)
/-- the greatest of the first n -/
def mxN (n : Nat) (f : Nat → Nat) : Nat := match n with
  | 0 => 0
  | n + 1 => if mxN n f < f n then f n else mxN n f
theorem mxN_le {n b : Nat} {f : Nat → Nat} (h : ∀ i, i < n → f i ≤ b) : mxN n f ≤ b := by
  induction n with
  | zero => exact Nat.zero_le _
  | succ n ih =>
    unfold mxN
    split
    · exact h n (by omega)
    · exact ih (fun i hi => h i (by omega))
/-- the least so far and by whom; the most so far and by whom -/
def lsN (f : Nat → Nat) (n : Nat) : Nat × Int32 := match n with
  | 0 => (1000000000, -1)
  | n + 1 => if f n < (lsN f n).1 then (f n, nI n) else lsN f n
def msN (f : Nat → Nat) (n : Nat) : Nat × Int32 := match n with
  | 0 => (0, -1)
  | n + 1 => if (msN f n).1 < f n then (f n, nI n) else msN f n
theorem lsN_le (f : Nat → Nat) (n : Nat) : (lsN f n).1 ≤ 1000000000 := by
  induction n with
  | zero => exact Nat.le_refl _
  | succ n ih => unfold lsN; split <;> omega
theorem msN_le {f : Nat → Nat} {b : Nat} (h : ∀ i, f i ≤ b) (n : Nat) : (msN f n).1 ≤ b := by
  induction n with
  | zero => exact Nat.zero_le _
  | succ n ih =>
    unfold msN
    split
    · exact h n
    · exact ih
abbrev grA (σ : St) (c : Nat) : Nat := mxN 60 (szA (lm σ) (gA σ c))
abbrev naA (σ : St) (c : Nat) : Nat := npA (lm σ) (gA σ c)
def sp_among (σ : St) (w : Int32) : Int32 × St :=
  (if ¬ (0 ≤ w ∧ w ≤ 3) then -1 else if lm σ = 0 then (if w < 2 then 0 else -1) else if 200000 < nN σ * lm σ then -5 else
    if w = 0 then nI (lsN (grA σ) (nN σ)).1 else if w = 1 then nI (msN (naA σ) (nN σ)).1 else if w = 2 then (lsN (grA σ) (nN σ)).2 else (msN (naA σ) (nN σ)).2, t0 σ)
theorem W12_among {g : Gx} {σ : St} {Q : Option Value → St → Prop} {w : Int32} (hc : cX g YM RX12 cX12_among 10 (some .int) 9) (hm : mOK σ (pN σ) (cN σ) (nN σ) (tN σ) (liN σ)) (hw : 0 ≤ w ∧ w ≤ 3) (h0 : ¬ lm σ = 0) (hb : ¬ 200000 < nN σ * lm σ) (hQ : ∀ τ, sE (t0 σ) τ → Q (some (.int (sp_among σ w).1)) τ) (F0 w0 : Nat → Int32) (hF0 : ∀ k, k < lm σ → F0 k = nI (lth σ k)) : aW g YM 10 Q 55 [some (.ref 0), some (.int w), none, none, none, none, none, none, none, none] [] (lkS (t0 σ) (lm σ) F0 w0) := by
  obtain ⟨hpc, h2, h3, h4, hT, hT2, hLi, hL2, hls⟩ := id hm
  have hlm : lm σ ≤ 4096 := Nat.le_trans (cnt_le _ _) h4
  have hgr : ∀ c, grA σ c ≤ lm σ := fun c => mxN_le (fun a _ => cnt_le _ _)
  have hna : ∀ c, naA σ c ≤ 60 := fun c => cnt_le _ _
  have es : (sp_among σ w).1 = if w = 0 then nI (lsN (grA σ) (nN σ)).1 else if w = 1 then nI (msN (naA σ) (nN σ)).1 else if w = 2 then (lsN (grA σ) (nN σ)).2 else (msN (naA σ) (nN σ)).2 := by
    unfold sp_among
    simp only [hw, h0, hb, not_true_eq_false, if_false, and_self]
  have k96 : ∀ (c : Nat) (w1 w2 : Nat → Int32), c < nN σ → (∀ a, a < 60 → w2 a = nI (szA (lm σ) (gA σ c) a)) →
      (∀ (w1 w2 : Nat → Int32), aW g YM 10 Q 69 [some (.ref 0), some (.int w), some (.int (nI (lsN (grA σ) (c + 1)).1)), some (.int (nI (msN (naA σ) (c + 1)).1)), some (.int (lsN (grA σ) (c + 1)).2), some (.int (msN (naA σ) (c + 1)).2), some (.int (nI (c + 1))), none, none, none] [] (va_up (lkS (t0 σ) (lm σ) F0 w1) 9 w2)) →
      aW g YM 10 Q 96 [some (.ref 0), some (.int w), some (.int (nI (lsN (grA σ) c).1)), some (.int (nI (msN (naA σ) c).1)), some (.int (lsN (grA σ) c).2), some (.int (msN (naA σ) c).2), some (.int (nI c)), some (.int (nI (naA σ c))), some (.int (nI 0)), some (.int (nI 0))] [] (va_up (lkS (t0 σ) (lm σ) F0 w1) 9 w2) := by
    intro c w1 w2 hcn hw2 ih
    have hls2 := lsN_le (grA σ) c
    have hms2 := msN_le (f := naA σ) hna c
    have hg : mxN 60 (szA (lm σ) (gA σ c)) ≤ lm σ := hgr c
    have hn := hna c
    refine lpN (n := 60) (F := fun a => aW g YM 10 Q 96 [some (.ref 0), some (.int w), some (.int (nI (lsN (grA σ) c).1)), some (.int (nI (msN (naA σ) c).1)), some (.int (lsN (grA σ) c).2), some (.int (msN (naA σ) c).2), some (.int (nI c)), some (.int (nI (naA σ c))), some (.int (nI (mxN a (szA (lm σ) (gA σ c))))), some (.int (nI a))] [] (va_up (lkS (t0 σ) (lm σ) F0 w1) 9 w2)) ?_ (fun a ha ih2 => ?_)
    · have el : lsN (grA σ) (c + 1) = if grA σ c < (lsN (grA σ) c).1 then (grA σ c, nI c) else lsN (grA σ) c := rfl
      have em : msN (naA σ) (c + 1) = if (msN (naA σ) c).1 < naA σ c then (naA σ c, nI c) else msN (naA σ) c := rfl
      refine st_iload hc dX12_among_96 rfl ?_
      refine st_bipush (v := 60) hc dX12_among_98 (by decide) ?_
      refine st_icmp_ge (tgt := 135) hc dX12_among_100 (by decide) (fun h100 => ?_) (fun h100 => ?_)
      · refine st_iload hc dX12_among_135 rfl ?_
        refine st_iload_n hc dX12_among_137 rfl rfl ?_
        refine st_icmp_ge (tgt := 148) hc dX12_among_138 (by decide) (fun h138 => ?_) (fun h138 => ?_)
        · rw [if_neg (Nat.not_lt.mpr ((nI_leI (by omega) (by omega)).mp h138))] at el
          refine st_iload hc dX12_among_148 rfl ?_
          refine st_iload_n hc dX12_among_150 rfl rfl ?_
          refine st_icmp_le (tgt := 161) hc dX12_among_151 (by decide) (fun h151 => ?_) (fun h151 => ?_)
          · rw [if_neg (Nat.not_lt.mpr ((nI_leI (by omega) (by omega)).mp h151))] at em
            refine st_inc hc dX12_among_161 rfl (by decide) rfl ?_
            rw [nI_1]
            refine st_goto (tgt := 69) hc dX12_among_164 (by decide) ?_
            have ih := ih w1 w2
            rw [el, em] at ih
            exact st_lvq _ (by simp [lvq, List.set]) ih
          · rw [if_pos (Nat.lt_of_not_le (fun q => h151 (nI_le q (by omega))))] at em
            refine st_iload hc dX12_among_154 rfl ?_
            refine st_istore_n hc dX12_among_156 rfl (by decide) rfl ?_
            refine st_iload hc dX12_among_157 rfl ?_
            refine st_istore hc dX12_among_159 (by decide) rfl ?_
            refine st_inc hc dX12_among_161 rfl (by decide) rfl ?_
            rw [nI_1]
            refine st_goto (tgt := 69) hc dX12_among_164 (by decide) ?_
            have ih := ih w1 w2
            rw [el, em] at ih
            exact st_lvq _ (by simp [lvq, List.set]) ih
        · rw [if_pos (Nat.lt_of_not_le (fun q => h138 (nI_le q (by omega))))] at el
          refine st_iload hc dX12_among_141 rfl ?_
          refine st_istore_n hc dX12_among_143 rfl (by decide) rfl ?_
          refine st_iload hc dX12_among_144 rfl ?_
          refine st_istore hc dX12_among_146 (by decide) rfl ?_
          refine st_iload hc dX12_among_148 rfl ?_
          refine st_iload_n hc dX12_among_150 rfl rfl ?_
          refine st_icmp_le (tgt := 161) hc dX12_among_151 (by decide) (fun h151 => ?_) (fun h151 => ?_)
          · rw [if_neg (Nat.not_lt.mpr ((nI_leI (by omega) (by omega)).mp h151))] at em
            refine st_inc hc dX12_among_161 rfl (by decide) rfl ?_
            rw [nI_1]
            refine st_goto (tgt := 69) hc dX12_among_164 (by decide) ?_
            have ih := ih w1 w2
            rw [el, em] at ih
            exact st_lvq _ (by simp [lvq, List.set]) ih
          · rw [if_pos (Nat.lt_of_not_le (fun q => h151 (nI_le q (by omega))))] at em
            refine st_iload hc dX12_among_154 rfl ?_
            refine st_istore_n hc dX12_among_156 rfl (by decide) rfl ?_
            refine st_iload hc dX12_among_157 rfl ?_
            refine st_istore hc dX12_among_159 (by decide) rfl ?_
            refine st_inc hc dX12_among_161 rfl (by decide) rfl ?_
            rw [nI_1]
            refine st_goto (tgt := 69) hc dX12_among_164 (by decide) ?_
            have ih := ih w1 w2
            rw [el, em] at ih
            exact st_lvq _ (by simp [lvq, List.set]) ih
      · exact absurd (by decide) h100
    · have hza : szA (lm σ) (gA σ c) a ≤ lm σ := cnt_le _ _
      have hmx : mxN a (szA (lm σ) (gA σ c)) ≤ lm σ := mxN_le (fun a _ => cnt_le _ _)
      have e : mxN (a + 1) (szA (lm σ) (gA σ c)) = if mxN a (szA (lm σ) (gA σ c)) < szA (lm σ) (gA σ c) a then szA (lm σ) (gA σ c) a else mxN a (szA (lm σ) (gA σ c)) := rfl
      refine st_iload hc dX12_among_96 rfl ?_
      refine st_bipush (v := 60) hc dX12_among_98 (by decide) ?_
      refine st_icmp_ge (tgt := 135) hc dX12_among_100 (by decide) (fun h100 => ?_) (fun h100 => ?_)
      · exact absurd h100 (nI_ge (b := 60) ha (by omega))
      · refine st_aload_n hc dX12_among_103 rfl rfl ?_
        refine st_getr hc dX12_among_104 flX12_48 rfl rfl ?_
        refine st_iload hc dX12_among_107 rfl ?_
        refine st_ialdN (k := a) hc dX12_among_109 rfl (rfl) (by omega) (by decide) (hw2 a ha) ?_
        refine st_iload hc dX12_among_110 rfl ?_
        refine st_icmp_le (tgt := 125) hc dX12_among_112 (by decide) (fun h112 => ?_) (fun h112 => ?_)
        · rw [if_neg (Nat.not_lt.mpr ((nI_leI (by omega) (by omega)).mp h112))] at e
          refine st_iload hc dX12_among_125 rfl ?_
          refine st_istore hc dX12_among_127 (by decide) rfl ?_
          refine st_inc hc dX12_among_129 rfl (by decide) rfl ?_
          rw [nI_1]
          refine st_goto (tgt := 96) hc dX12_among_132 (by decide) ?_
          rw [e] at ih2
          exact ih2
        · rw [if_pos (Nat.lt_of_not_le (fun q => h112 (nI_le q (by omega))))] at e
          refine st_aload_n hc dX12_among_115 rfl rfl ?_
          refine st_getr hc dX12_among_116 flX12_48 rfl rfl ?_
          refine st_iload hc dX12_among_119 rfl ?_
          refine st_ialdN (k := a) hc dX12_among_121 rfl (rfl) (by omega) (by decide) (hw2 a ha) ?_
          refine st_goto (tgt := 127) hc dX12_among_122 (by decide) ?_
          refine st_istore hc dX12_among_127 (by decide) rfl ?_
          refine st_inc hc dX12_among_129 rfl (by decide) rfl ?_
          rw [nI_1]
          refine st_goto (tgt := 96) hc dX12_among_132 (by decide) ?_
          rw [e] at ih2
          exact ih2
  have k69 : ∀ (w1 w2 : Nat → Int32), aW g YM 10 Q 69 [some (.ref 0), some (.int w), some (.int (nI 1000000000)), some (.int (nI 0)), some (.int (-1)), some (.int (-1)), some (.int (nI 0)), none, none, none] [] (va_up (lkS (t0 σ) (lm σ) F0 w1) 9 w2) := by
    refine lpN (n := nN σ) (F := fun c => ∀ (w1 w2 : Nat → Int32), aW g YM 10 Q 69 [some (.ref 0), some (.int w), some (.int (nI (lsN (grA σ) c).1)), some (.int (nI (msN (naA σ) c).1)), some (.int (lsN (grA σ) c).2), some (.int (msN (naA σ) c).2), some (.int (nI c)), none, none, none] [] (va_up (lkS (t0 σ) (lm σ) F0 w1) 9 w2)) ?_ (fun c hcn ih => ?_)
    · intro w1 w2
      have hsE : sE (t0 σ) (va_up (lkS (t0 σ) (lm σ) F0 w1) 9 w2) := (sE.lk _ _ _ _).v rfl (by decide) w2
      have hQ := hQ _ hsE
      rw [es] at hQ
      refine st_iload hc dX12_among_69 rfl ?_
      refine st_aload_n hc dX12_among_71 rfl rfl ?_
      refine st_getE hc dX12_among_72 flX12_16 rfl rfl (h2) ?_
      refine st_icmp_ge (tgt := 167) hc dX12_among_75 (by decide) (fun h75 => ?_) (fun h75 => ?_)
      · refine st_iload_n hc dX12_among_167 rfl rfl ?_
        refine st_if_ne (tgt := 175) hc dX12_among_168 (by decide) (fun h168 => ?_) (fun h168 => ?_)
        · rw [if_neg h168] at hQ
          refine st_iload_n hc dX12_among_175 rfl rfl ?_
          refine st_iconst (v := 1) hc dX12_among_176 (by decide) ?_
          refine st_icmp_ne (tgt := 184) hc dX12_among_177 (by decide) (fun h177 => ?_) (fun h177 => ?_)
          · rw [if_neg h177] at hQ
            refine st_iload_n hc dX12_among_184 rfl rfl ?_
            refine st_iconst (v := 2) hc dX12_among_185 (by decide) ?_
            refine st_icmp_ne (tgt := 194) hc dX12_among_186 (by decide) (fun h186 => ?_) (fun h186 => ?_)
            · rw [if_neg h186] at hQ
              refine st_iload hc dX12_among_194 rfl ?_
              refine st_iret (st := []) hc dX12_among_196 rfl ?_
              exact hQ
            · rw [if_pos h186] at hQ
              refine st_iload hc dX12_among_189 rfl ?_
              refine st_goto (tgt := 196) hc dX12_among_191 (by decide) ?_
              refine st_iret (st := []) hc dX12_among_196 rfl ?_
              exact hQ
          · rw [if_pos h177] at hQ
            refine st_iload_n hc dX12_among_180 rfl rfl ?_
            refine st_goto (tgt := 196) hc dX12_among_181 (by decide) ?_
            refine st_iret (st := []) hc dX12_among_196 rfl ?_
            exact hQ
        · rw [if_pos h168] at hQ
          refine st_iload_n hc dX12_among_171 rfl rfl ?_
          refine st_goto (tgt := 196) hc dX12_among_172 (by decide) ?_
          refine st_iret (st := []) hc dX12_among_196 rfl ?_
          exact hQ
      · exact absurd (nI_le (Nat.le_refl _) (by omega)) h75
    · intro w1 w2
      have hpc' : mPC (va_up (lkS (t0 σ) (lm σ) F0 w1) 9 w2) (pN σ) (cN σ) := hpc
      refine st_iload hc dX12_among_69 rfl ?_
      refine st_aload_n hc dX12_among_71 rfl rfl ?_
      refine st_getE hc dX12_among_72 flX12_16 rfl rfl (h2) ?_
      refine st_icmp_ge (tgt := 167) hc dX12_among_75 (by decide) (fun h75 => ?_) (fun h75 => ?_)
      · exact absurd h75 (nI_ge hcn (by omega))
      · refine st_aload_n hc dX12_among_78 rfl rfl ?_
        refine st_iload hc dX12_among_79 rfl ?_
        refine st_callVn hc dX12_among_81 (C12_guessCode 3 _ hpc' c (by omega)) mvX12_214 (by omega) rfl rfl rfl (Nat.le_of_ble_eq_true rfl) ?_
        rintro _ ⟨w3, hw3, rfl⟩
        rw [show va_up (va_up (lkS (t0 σ) (lm σ) F0 w1) 9 w2) 6 w3 = va_up (lkS (t0 σ) (lm σ) F0 w3) 9 w2 by rw [vu_cm (by decide), vu_vu]]
        have e1 : npA (lm σ) (fun k => ans (pN σ) (cN σ) (va_up (lkS (t0 σ) (lm σ) F0 w3) 9 w2 6) (lth σ k)) = naA σ c := npA_congr (fun k _ => ans_congr hw3 _)
        refine st_aload_n hc dX12_among_84 rfl rfl ?_
        refine st_callVq hc dX12_among_85 (C12_partsOf 3 (va_up (lkS (t0 σ) (lm σ) F0 w3) 9 w2) (P := pN σ) (C := cN σ) (n := lm σ) (L := lth σ) hpc rfl hlm (fun k hk => ⟨hF0 k hk, Nat.lt_of_lt_of_le (lth_lt hk) h4⟩)) mvX12_223 (by omega) rfl rfl rfl (Nat.le_of_ble_eq_true rfl) ?_
        rintro _ ⟨w4, hw4, rfl⟩
        rw [vu_vu, e1]
        have hw4 : ∀ a, a < 60 → w4 a = nI (szA (lm σ) (gA σ c) a) := fun a ha => by rw [hw4 a ha]; congr 1; exact szA_congr (fun k _ => ans_congr hw3 _) a
        refine st_istore hc dX12_among_88 (by decide) rfl ?_
        refine st_iconst (v := 0) hc dX12_among_90 (by decide) ?_
        refine st_istore hc dX12_among_91 (by decide) rfl ?_
        refine st_iconst (v := 0) hc dX12_among_93 (by decide) ?_
        refine st_istore hc dX12_among_94 (by decide) rfl ?_
        exact k96 c w3 w4 hcn hw4 ih
  refine st_ldc hc dX12_among_55 kcX12_227 ?_
  refine st_istore_n hc dX12_among_57 rfl (by decide) rfl ?_
  refine st_iconst (v := 0) hc dX12_among_58 (by decide) ?_
  refine st_istore_n hc dX12_among_59 rfl (by decide) rfl ?_
  refine st_iconst (v := (-1)) hc dX12_among_60 (by decide) ?_
  refine st_istore hc dX12_among_61 (by decide) rfl ?_
  refine st_iconst (v := (-1)) hc dX12_among_63 (by decide) ?_
  refine st_istore hc dX12_among_64 (by decide) rfl ?_
  refine st_iconst (v := 0) hc dX12_among_66 (by decide) ?_
  refine st_istore hc dX12_among_67 (by decide) rfl ?_
  have h := k69 w0 (σ 9)
  rw [show va_up (lkS (t0 σ) (lm σ) F0 w0) 9 (σ 9) = lkS (t0 σ) (lm σ) F0 w0 from vu_id (σ := lkS (t0 σ) (lm σ) F0 w0)] at h
  exact st_lvq _ (by simp [lvq, List.set, nI_0]; rfl) h
theorem C12_among (σ : St) (hm : MI σ) (w : Int32) : Mt YM mX12_among 9 [.ref 0, .int w] σ (fun r τ => r = some (.int (sp_among σ w).1) ∧ sE (sp_among σ w).2 τ) := by
  obtain ⟨hm, ht⟩ := hm
  obtain ⟨hpc, h2, h3, h4, hT, hT2, hLi, hL2, hls⟩ := id hm
  have hlm : lm σ ≤ 4096 := Nat.le_trans (cnt_le _ _) h4
  refine Mt.ofA [some (.ref 0), some (.int w), none, none, none, none, none, none, none, none] (by decide) (fun _ => Nat.le_of_ble_eq_true rfl) (fun _ => rfl) (fun g hc => ?_)
  have hml : nN σ * lm σ < 2 ^ 31 := Nat.lt_of_le_of_lt (Nat.mul_le_mul h4 hlm) (by decide)
  refine st_aload_n hc dX12_among_0 rfl rfl ?_
  refine st_iconst (v := 0) hc dX12_among_1 (by decide) ?_
  refine st_put hc dX12_among_2 fpX12_139 rfl rfl  ?_
  refine st_iload_n hc dX12_among_5 rfl rfl ?_
  refine st_iconst (v := 0) hc dX12_among_6 (by decide) ?_
  refine st_iconst (v := 3) hc dX12_among_7 (by decide) ?_
  refine st_callSp hc dX12_among_8 (C12_in 0 _ w 0 3) msX12_142 (by omega) rfl rfl (Nat.le_of_ble_eq_true rfl) ?_
  refine st_if_ne (tgt := 16) hc dX12_among_11 (by decide) (fun h11 => ?_) (fun h11 => ?_)
  · have h11 := it1.mp h11
    refine st_aload_n hc dX12_among_16 rfl rfl ?_
    refine st_callVn hc dX12_among_17 (C12_look 3 (t0 σ) hm.t0) mvX12_208 (by omega) rfl rfl rfl (Nat.le_of_ble_eq_true rfl) ?_
    rintro _ ⟨F, w1, hF, rfl⟩
    refine st_aload_n hc dX12_among_20 rfl rfl ?_
    refine st_getE hc dX12_among_21 flX12_164 rfl rfl (show _ = nI (lm σ) from rfl) ?_
    refine st_if_ne (tgt := 38) hc dX12_among_24 (by decide) (fun h24 => ?_) (fun h24 => ?_)
    · have h24 : ¬ lm σ = 0 := fun q => h24 (by rw [q]; rfl)
      refine st_aload_n hc dX12_among_38 rfl rfl ?_
      refine st_getE hc dX12_among_39 flX12_16 rfl rfl (h2) ?_
      refine st_aload_n hc dX12_among_42 rfl rfl ?_
      refine st_getE hc dX12_among_43 flX12_164 rfl rfl (show _ = nI (lm σ) from rfl) ?_
      refine st_imul hc dX12_among_46 ?_
      rw [pk_mul]
      refine st_ldc hc dX12_among_47 kcX12_226 ?_
      refine st_icmp_le (tgt := 55) hc dX12_among_49 (by decide) (fun h49 => ?_) (fun h49 => ?_)
      · have h49 : ¬ 200000 < nN σ * lm σ := fun q => absurd ((nI_leI (b := 200000) hml (by decide)).mp h49) (Nat.not_le.mpr q)
        exact W12_among hc hm h11 h24 h49 (fun τ h => ⟨rfl, h⟩) F w1 (fun k hk => nthT_at hF hk)
      · have h49 : 200000 < nN σ * lm σ := Nat.lt_of_not_le (fun q => h49 (nI_le (b := 200000) q (by decide)))
        refine st_bipush (v := (-5)) hc dX12_among_52 (by decide) ?_
        refine st_iret (st := []) hc dX12_among_54 rfl ?_
        exact ⟨by unfold sp_among; rw [if_neg (fun q => q h11), if_neg h24, if_pos h49], sE.lk _ _ _ _⟩
    · have h24 : lm σ = 0 := nI_inj (b := 0) (by omega) (by decide) h24
      refine st_iload_n hc dX12_among_27 rfl rfl ?_
      refine st_iconst (v := 2) hc dX12_among_28 (by decide) ?_
      refine st_t_icmp_ge (a := 0) (b := (-1)) hc dX12_among_29 dX12_among_32 dX12_among_33 dX12_among_36 (by decide) (by decide) ?_
      refine st_iret (st := []) hc dX12_among_37 rfl ?_
      refine ⟨?_, sE.lk _ _ _ _⟩
      unfold sp_among
      have e11 : ¬ ¬ (0 ≤ w ∧ w ≤ 3) := fun q => q h11
      rw [if_neg e11, if_pos h24]
      by_cases q : w < 2
      · rw [if_pos q, if_neg (Int32.not_le.mpr q)]
      · rw [if_neg q, if_pos (Int32.not_lt.mp q)]
  · have h11 := it0.mp h11
    refine st_iconst (v := (-1)) hc dX12_among_14 (by decide) ?_
    refine st_iret (st := []) hc dX12_among_15 rfl ?_
    exact ⟨by unfold sp_among; rw [if_pos h11], sE.rf⟩
def sp_turn (σ : St) (t w : Int32) : Int32 × St :=
  (if ¬ (0 ≤ t ∧ nat t < tN σ) then -1 else if w = 0 then σ 4 (nat t) else if 1 ≤ w ∧ w ≤ σ 0 0 then σ 3 (5 * nat t + (nat w - 1)) else if ¬ w = 6 then -1 else nI (cnt (lm σ) (fun k => isF (pN σ) (cN σ) (σ 3) (σ 4) (lth σ k) (nat t))), t0 σ)
theorem C12_turn (σ : St) (hm : MI σ) (t w : Int32) : Mt YM mX12_turn 9 [.ref 0, .int t, .int w] σ (fun r τ => r = some (.int (sp_turn σ t w).1) ∧ sE (sp_turn σ t w).2 τ) := by
  obtain ⟨hm, ht⟩ := hm
  obtain ⟨hpc, h2, h3, h4, hT, hT2, hLi, hL2, hls⟩ := id hm
  obtain ⟨hP, hC, hP1, hP5, hC1, hC8⟩ := id hpc
  have hlm : lm σ ≤ 4096 := Nat.le_trans (cnt_le _ _) h4
  refine Mt.ofA [some (.ref 0), some (.int t), some (.int w), none, none] (by decide) (fun _ => Nat.le_of_ble_eq_true rfl) (fun _ => rfl) (fun g hc => ?_)
  have hin := in_n (x := t) (n := tN σ) (by omega)
  rw [← hT] at hin
  generalize hQe : (fun r τ => r = some (Value.int (sp_turn σ t w).1) ∧ sE (sp_turn σ t w).2 τ) = Q
  have hQ : ∀ τ, sE (t0 σ) τ → ∀ x, x = (sp_turn σ t w).1 → Q (some (.int x)) τ := by
    intro τ h1 x h2
    rw [← hQe]
    exact ⟨by rw [h2], h1⟩
  have k79 : ∀ F w1, (∀ k, k < lm σ → F k = nI (lth σ k)) → (∀ i, i < pN σ → w1 i = σ 3 (5 * nat t + i)) → nat t < tN σ → (sp_turn σ t w).1 = nI (cnt (lm σ) (fun k => isF (pN σ) (cN σ) (σ 3) (σ 4) (lth σ k) (nat t))) → aW g YM 5 Q 79 [some (.ref 0), some (.int (nI (nat t))), none, some (.int (nI 0)), some (.int (nI 0))] [] (lkS (t0 σ) (lm σ) F w1) := by
    intro F w1 hF hw1 htt es
    refine lpN (n := lm σ) (F := fun k => aW g YM 5 Q 79 [some (.ref 0), some (.int (nI (nat t))), none, some (.int (nI (cnt k (fun k => isF (pN σ) (cN σ) (σ 3) (σ 4) (lth σ k) (nat t))))), some (.int (nI k))] [] (lkS (t0 σ) (lm σ) F w1)) ?_ (fun k hk ih => ?_)
    · refine st_iload hc dX12_turn_79 rfl ?_
      refine st_aload_n hc dX12_turn_81 rfl rfl ?_
      refine st_getE hc dX12_turn_82 flX12_164 rfl rfl (show _ = nI (lm σ) from rfl) ?_
      refine st_icmp_ge (tgt := 122) hc dX12_turn_85 (by decide) (fun h85 => ?_) (fun h85 => ?_)
      · refine st_iload_n hc dX12_turn_122 rfl rfl ?_
        refine st_iret (st := []) hc dX12_turn_123 rfl ?_
        exact hQ _ (sE.lk _ _ _ _) _ es.symm
      · exact absurd (nI_le (Nat.le_refl _) (by omega)) h85
    · have hl := lth_lt hk
      refine st_iload hc dX12_turn_79 rfl ?_
      refine st_aload_n hc dX12_turn_81 rfl rfl ?_
      refine st_getE hc dX12_turn_82 flX12_164 rfl rfl (show _ = nI (lm σ) from rfl) ?_
      refine st_icmp_ge (tgt := 122) hc dX12_turn_85 (by decide) (fun h85 => ?_) (fun h85 => ?_)
      · exact absurd h85 (nI_ge hk (by omega))
      · refine st_iload_n hc dX12_turn_88 rfl rfl ?_
        refine st_aload_n hc dX12_turn_89 rfl rfl ?_
        refine st_aload_n hc dX12_turn_90 rfl rfl ?_
        refine st_getr hc dX12_turn_91 flX12_42 rfl rfl ?_
        refine st_iload hc dX12_turn_94 rfl ?_
        refine st_ialdN (k := k) hc dX12_turn_96 rfl (rfl) (by omega) (by decide) (hF k hk) ?_
        refine st_callVp hc dX12_turn_97 (C12_answers 3 (lkS (t0 σ) (lm σ) F w1) (P := pN σ) (C := cN σ) hpc (lth σ k) (by omega)) mvX12_160 (by omega) rfl rfl rfl (Nat.le_of_ble_eq_true rfl) ?_
        refine st_aload_n hc dX12_turn_100 rfl rfl ?_
        refine st_getr hc dX12_turn_101 flX12_30 rfl rfl ?_
        refine st_iload_n hc dX12_turn_104 rfl rfl ?_
        refine st_ialdN (k := nat t) hc dX12_turn_105 rfl (rfl) (by omega) (by decide) (show _ = σ 4 (nat t) from rfl) ?_
        refine st_t_icmp_eq (a := 1) (b := 0) hc dX12_turn_106 dX12_turn_109 dX12_turn_110 dX12_turn_113 (by decide) (by decide) ?_
        refine st_iadd hc dX12_turn_114 ?_
        rw [show lkS (t0 σ) (lm σ) F w1 6 = w1 from rfl, ans_congr hw1, show (if nI (ans (pN σ) (cN σ) (fun i => σ 3 (5 * nat t + i)) (lth σ k)) = σ 4 (nat t) then (0 : Int32) else 1) = nI (if isF (pN σ) (cN σ) (σ 3) (σ 4) (lth σ k) (nat t) = true then 1 else 0) by
          unfold isF
          by_cases q : nI (ans (pN σ) (cN σ) (fun i => σ 3 (5 * nat t + i)) (lth σ k)) = σ 4 (nat t)
          · rw [if_pos q, q]; simp; rfl
          · rw [if_neg q]; simp [q]; rfl]
        rw [nI_add]
        refine st_istore_n hc dX12_turn_115 rfl (by decide) rfl ?_
        refine st_inc hc dX12_turn_116 rfl (by decide) rfl ?_
        rw [nI_1]
        refine st_goto (tgt := 79) hc dX12_turn_119 (by decide) ?_
        exact ih
  refine st_aload_n hc dX12_turn_0 rfl rfl ?_
  refine st_iconst (v := 0) hc dX12_turn_1 (by decide) ?_
  refine st_put hc dX12_turn_2 fpX12_139 rfl rfl  ?_
  refine st_iload_n hc dX12_turn_5 rfl rfl ?_
  refine st_iconst (v := 0) hc dX12_turn_6 (by decide) ?_
  refine st_aload_n hc dX12_turn_7 rfl rfl ?_
  refine st_getE hc dX12_turn_8 flX12_171 rfl rfl rfl ?_
  refine st_iconst (v := 1) hc dX12_turn_11 (by decide) ?_
  refine st_isub hc dX12_turn_12 ?_
  refine st_callSp hc dX12_turn_13 (C12_in 0 _ t 0 (σ 0 9 - 1)) msX12_142 (by omega) rfl rfl (Nat.le_of_ble_eq_true rfl) ?_
  refine st_if_ne (tgt := 21) hc dX12_turn_16 (by decide) (fun h16 => ?_) (fun h16 => ?_)
  · have h16 := hin.mp (it1.mp h16)
    have et := (nI_nat h16.1).symm
    refine st_iload_n hc dX12_turn_21 rfl rfl ?_
    refine st_if_ne (tgt := 32) hc dX12_turn_22 (by decide) (fun h22 => ?_) (fun h22 => ?_)
    · refine st_iload_n hc dX12_turn_32 rfl rfl ?_
      refine st_iconst (v := 1) hc dX12_turn_33 (by decide) ?_
      refine st_aload_n hc dX12_turn_34 rfl rfl ?_
      refine st_getE hc dX12_turn_35 flX12_7 rfl rfl rfl ?_
      refine st_callSp hc dX12_turn_38 (C12_in 0 _ w 1 (σ 0 0)) msX12_142 (by omega) rfl rfl (Nat.le_of_ble_eq_true rfl) ?_
      refine st_if_eq (tgt := 57) hc dX12_turn_41 (by decide) (fun h41 => ?_) (fun h41 => ?_)
      · have h41 := it0.mp h41
        refine st_iload_n hc dX12_turn_57 rfl rfl ?_
        refine st_bipush (v := 6) hc dX12_turn_58 (by decide) ?_
        refine st_icmp_eq (tgt := 65) hc dX12_turn_60 (by decide) (fun h60 => ?_) (fun h60 => ?_)
        · refine st_aload_n hc dX12_turn_65 rfl rfl ?_
          refine st_callVn hc dX12_turn_66 (C12_look 3 (t0 σ) hm.t0) mvX12_208 (by omega) rfl rfl rfl (Nat.le_of_ble_eq_true rfl) ?_
          rintro _ ⟨F, w1, hF, rfl⟩
          rw [et]
          refine st_aload_n hc dX12_turn_69 rfl rfl ?_
          refine st_iload_n hc dX12_turn_70 rfl rfl ?_
          refine st_callVn hc dX12_turn_71 (C12_guessTurn 3 (lkS (t0 σ) (lm σ) F w1) (P := pN σ) (C := cN σ) hpc (nat t) (by omega)) mvX12_156 (by omega) rfl rfl rfl (Nat.le_of_ble_eq_true rfl) ?_
          rintro _ ⟨w3, hw3, rfl⟩
          rw [vu_vu]
          refine st_iconst (v := 0) hc dX12_turn_74 (by decide) ?_
          refine st_istore_n hc dX12_turn_75 rfl (by decide) rfl ?_
          refine st_iconst (v := 0) hc dX12_turn_76 (by decide) ?_
          refine st_istore hc dX12_turn_77 (by decide) rfl ?_
          exact st_lvq _ (by simp [lvq, List.set, nI_0]) (k79 F w3 (fun k hk => nthT_at hF hk) hw3 h16.2 (by unfold sp_turn; rw [if_neg (fun q => q h16), if_neg h22, if_neg h41, if_neg (fun q => q h60)]))
        · refine st_iconst (v := (-1)) hc dX12_turn_63 (by decide) ?_
          refine st_iret (st := []) hc dX12_turn_64 rfl ?_
          exact hQ _ sE.rf _ (by unfold sp_turn; rw [if_neg (fun q => q h16), if_neg h22, if_neg h41, if_pos h60])
      · have h41 := it1.mp h41
        obtain ⟨ew, hw1, hw2⟩ := in_1n (n := pN σ) hP (by omega) h41
        refine st_aload_n hc dX12_turn_44 rfl rfl ?_
        refine st_getr hc dX12_turn_45 flX12_27 rfl rfl ?_
        refine st_iconst (v := 5) hc dX12_turn_48 (by decide) ?_
        refine st_iload_n hc dX12_turn_49 rfl rfl ?_
        refine st_imul hc dX12_turn_50 ?_
        refine st_iload_n hc dX12_turn_51 rfl rfl ?_
        refine st_iadd hc dX12_turn_52 ?_
        refine st_iconst (v := 1) hc dX12_turn_53 (by decide) ?_
        refine st_isub hc dX12_turn_54 ?_
        refine st_ialdN (k := 5 * nat t + (nat w - 1)) hc dX12_turn_55 rfl (by rw [et, ew, nat_nI (by omega), nat_nI (by omega), show (5 : Int32) = nI 5 from rfl, pk_mul, nI_add, show 5 * nat t + nat w = (5 * nat t + (nat w - 1)) + 1 by omega, nI_pred]) (by omega) (by decide) rfl ?_
        refine st_iret (st := []) hc dX12_turn_56 rfl ?_
        exact hQ _ sE.rf _ (by unfold sp_turn; rw [if_neg (fun q => q h16), if_neg h22, if_pos h41]; rfl)
    · refine st_aload_n hc dX12_turn_25 rfl rfl ?_
      refine st_getr hc dX12_turn_26 flX12_30 rfl rfl ?_
      refine st_iload_n hc dX12_turn_29 rfl rfl ?_
      refine st_ialdN (k := nat t) hc dX12_turn_30 rfl (et) (by omega) (by decide) rfl ?_
      refine st_iret (st := []) hc dX12_turn_31 rfl ?_
      exact hQ _ sE.rf _ (by unfold sp_turn; rw [if_neg (fun q => q h16), if_pos h22]; rfl)
  · have h16 := fun q => it0.mp h16 (hin.mpr q)
    refine st_iconst (v := (-1)) hc dX12_turn_19 (by decide) ?_
    refine st_iret (st := []) hc dX12_turn_20 rfl ?_
    exact hQ _ sE.rf _ (by unfold sp_turn; rw [if_pos h16])
def sp_count (σ : St) (w : Int32) : Int32 × St :=
  (if w = 0 then σ 0 0 else if w = 1 then σ 0 1 else if w = 2 then σ 0 2 else if w = 3 then nI (cnt (nN σ) (okLaw (pN σ) (cN σ) (σ 0 3) (σ 0 4) (σ 1))) else if w = 4 then nI (lm σ) else if w = 5 then σ 0 9 else if w = 6 then nI (npA (lm σ) (hA σ)) else if w = 7 then σ 0 33 else if w = 8 then σ 0 43 else if w = 9 then σ 0 5 else if w = 10 then σ 0 3 else if w = 11 then σ 0 7 else if w = 12 then σ 0 14 else -1, t0 σ)
theorem C12_count (σ : St) (hm : MI σ) (w : Int32) : Mt YM mX12_count 9 [.ref 0, .int w] σ (fun r τ => r = some (.int (sp_count σ w).1) ∧ sE (sp_count σ w).2 τ) := by
  obtain ⟨hm, ht⟩ := hm
  obtain ⟨hpc, h2, h3, h4, hT, hT2, hLi, hL2, hls⟩ := id hm
  have hlm : lm σ ≤ 4096 := Nat.le_trans (cnt_le _ _) h4
  refine Mt.ofA [some (.ref 0), some (.int w)] (by decide) (fun _ => Nat.le_of_ble_eq_true rfl) (fun _ => rfl) (fun g hc => ?_)
  refine st_aload_n hc dX12_count_0 rfl rfl ?_
  refine st_iconst (v := 0) hc dX12_count_1 (by decide) ?_
  refine st_put hc dX12_count_2 fpX12_139 rfl rfl  ?_
  refine st_iload_n hc dX12_count_5 rfl rfl ?_
  rcases sw_c 13 (by decide) w with hsw | ⟨ksw, hksw, esw⟩
  · refine st_tableOut (tgt := 149) hc dX12_count_6 (by rcases hsw with q | q; exact Or.inl q; exact Or.inr (by omega)) (by decide) ?_
    have hne : ∀ j : Nat, j < 13 → ¬ w = nI j := fun j hj q => by
      rw [q, nI_toInt (by omega)] at hsw
      omega
    have n0 : ¬ w = 0 := hne 0 (by decide); have n1 : ¬ w = 1 := hne 1 (by decide); have n2 : ¬ w = 2 := hne 2 (by decide); have n3 : ¬ w = 3 := hne 3 (by decide); have n4 : ¬ w = 4 := hne 4 (by decide); have n5 : ¬ w = 5 := hne 5 (by decide); have n6 : ¬ w = 6 := hne 6 (by decide); have n7 : ¬ w = 7 := hne 7 (by decide); have n8 : ¬ w = 8 := hne 8 (by decide); have n9 : ¬ w = 9 := hne 9 (by decide); have n10 : ¬ w = 10 := hne 10 (by decide); have n11 : ¬ w = 11 := hne 11 (by decide); have n12 : ¬ w = 12 := hne 12 (by decide)
    refine st_iconst (v := (-1)) hc dX12_count_149 (by decide) ?_
    refine st_iret (st := []) hc dX12_count_150 rfl ?_
    refine ⟨?_, sE.rf⟩
    unfold sp_count
    rw [if_neg n0, if_neg n1, if_neg n2, if_neg n3, if_neg n4, if_neg n5, if_neg n6, if_neg n7, if_neg n8, if_neg n9, if_neg n10, if_neg n11, if_neg n12]
  · rcases (show ksw = 0 ∨ ksw = 1 ∨ ksw = 2 ∨ ksw = 3 ∨ ksw = 4 ∨ ksw = 5 ∨ ksw = 6 ∨ ksw = 7 ∨ ksw = 8 ∨ ksw = 9 ∨ ksw = 10 ∨ ksw = 11 ∨ ksw = 12 by omega) with rfl | rfl | rfl | rfl | rfl | rfl | rfl | rfl | rfl | rfl | rfl | rfl | rfl
    · subst esw
      refine st_tableIn (off := 66) (tgt := 72) hc dX12_count_6 (by decide) (by decide) (by decide) (by decide) ?_
      refine st_aload_n hc dX12_count_72 rfl rfl ?_
      refine st_getE hc dX12_count_73 flX12_7 rfl rfl rfl ?_
      refine st_iret (st := []) hc dX12_count_76 rfl ?_
      exact ⟨rfl, sE.rf⟩
    · subst esw
      refine st_tableIn (off := 71) (tgt := 77) hc dX12_count_6 (by decide) (by decide) (by decide) (by decide) ?_
      refine st_aload_n hc dX12_count_77 rfl rfl ?_
      refine st_getE hc dX12_count_78 flX12_13 rfl rfl rfl ?_
      refine st_iret (st := []) hc dX12_count_81 rfl ?_
      exact ⟨rfl, sE.rf⟩
    · subst esw
      refine st_tableIn (off := 76) (tgt := 82) hc dX12_count_6 (by decide) (by decide) (by decide) (by decide) ?_
      refine st_aload_n hc dX12_count_82 rfl rfl ?_
      refine st_getE hc dX12_count_83 flX12_16 rfl rfl rfl ?_
      refine st_iret (st := []) hc dX12_count_86 rfl ?_
      exact ⟨rfl, sE.rf⟩
    · subst esw
      refine st_tableIn (off := 81) (tgt := 87) hc dX12_count_6 (by decide) (by decide) (by decide) (by decide) ?_
      refine st_aload_n hc dX12_count_87 rfl rfl ?_
      refine st_callVp hc dX12_count_88 (C12_allowed 3 (t0 σ) (P := pN σ) (C := cN σ) (N := nN σ) (T := tN σ) (L := liN σ) hm) mvX12_195 (by omega) rfl rfl rfl (Nat.le_of_ble_eq_true rfl) ?_
      refine st_iret (st := []) hc dX12_count_91 rfl ?_
      exact ⟨rfl, sE.rf⟩
    · subst esw
      refine st_tableIn (off := 86) (tgt := 92) hc dX12_count_6 (by decide) (by decide) (by decide) (by decide) ?_
      refine st_aload_n hc dX12_count_92 rfl rfl ?_
      refine st_callVn hc dX12_count_93 (C12_look 3 (t0 σ) hm.t0) mvX12_208 (by omega) rfl rfl rfl (Nat.le_of_ble_eq_true rfl) ?_
      rintro _ ⟨F, w1, hF, rfl⟩
      refine st_aload_n hc dX12_count_96 rfl rfl ?_
      refine st_getE hc dX12_count_97 flX12_164 rfl rfl rfl ?_
      refine st_iret (st := []) hc dX12_count_100 rfl ?_
      exact ⟨rfl, sE.lk _ _ _ _⟩
    · subst esw
      refine st_tableIn (off := 95) (tgt := 101) hc dX12_count_6 (by decide) (by decide) (by decide) (by decide) ?_
      refine st_aload_n hc dX12_count_101 rfl rfl ?_
      refine st_getE hc dX12_count_102 flX12_171 rfl rfl rfl ?_
      refine st_iret (st := []) hc dX12_count_105 rfl ?_
      exact ⟨rfl, sE.rf⟩
    · subst esw
      refine st_tableIn (off := 100) (tgt := 106) hc dX12_count_6 (by decide) (by decide) (by decide) (by decide) ?_
      refine st_aload_n hc dX12_count_106 rfl rfl ?_
      refine st_callVn hc dX12_count_107 (C12_look 3 (t0 σ) hm.t0) mvX12_208 (by omega) rfl rfl rfl (Nat.le_of_ble_eq_true rfl) ?_
      rintro _ ⟨F, w1, hF, rfl⟩
      refine st_aload_n hc dX12_count_110 rfl rfl ?_
      refine st_callVn hc dX12_count_111 (C12_guessHand 3 (lkS (t0 σ) (lm σ) F w1) (P := pN σ) (C := cN σ) hpc) mvX12_211 (by omega) rfl rfl rfl (Nat.le_of_ble_eq_true rfl) ?_
      rintro _ ⟨w3, hw3, rfl⟩
      rw [vu_vu]
      have hnp2 : npA (lm σ) (fun k => ans (pN σ) (cN σ) (lkS (t0 σ) (lm σ) F w3 6) (lth σ k)) = npA (lm σ) (hA σ) := npA_congr (fun k _ => ans_congr hw3 _)
      refine st_aload_n hc dX12_count_114 rfl rfl ?_
      refine st_callVq hc dX12_count_115 (C12_partsOf 3 (lkS (t0 σ) (lm σ) F w3) (P := pN σ) (C := cN σ) (n := lm σ) (L := lth σ) hpc rfl hlm (fun k hk => ⟨nthT_at hF hk, Nat.lt_of_lt_of_le (lth_lt hk) h4⟩)) mvX12_223 (by omega) rfl rfl rfl (Nat.le_of_ble_eq_true rfl) ?_
      rintro _ ⟨w2, hw2, rfl⟩
      rw [hnp2]
      refine st_iret (st := []) hc dX12_count_118 rfl ?_
      exact ⟨rfl, (sE.lk _ _ _ _).v rfl (by decide) w2⟩
    · subst esw
      refine st_tableIn (off := 113) (tgt := 119) hc dX12_count_6 (by decide) (by decide) (by decide) (by decide) ?_
      refine st_aload_n hc dX12_count_119 rfl rfl ?_
      refine st_getE hc dX12_count_120 flX12_186 rfl rfl rfl ?_
      refine st_iret (st := []) hc dX12_count_123 rfl ?_
      exact ⟨rfl, sE.rf⟩
    · subst esw
      refine st_tableIn (off := 118) (tgt := 124) hc dX12_count_6 (by decide) (by decide) (by decide) (by decide) ?_
      refine st_aload_n hc dX12_count_124 rfl rfl ?_
      refine st_getE hc dX12_count_125 flX12_189 rfl rfl rfl ?_
      refine st_iret (st := []) hc dX12_count_128 rfl ?_
      exact ⟨rfl, sE.rf⟩
    · subst esw
      refine st_tableIn (off := 123) (tgt := 129) hc dX12_count_6 (by decide) (by decide) (by decide) (by decide) ?_
      refine st_aload_n hc dX12_count_129 rfl rfl ?_
      refine st_getE hc dX12_count_130 flX12_180 rfl rfl rfl ?_
      refine st_iret (st := []) hc dX12_count_133 rfl ?_
      exact ⟨rfl, sE.rf⟩
    · subst esw
      refine st_tableIn (off := 128) (tgt := 134) hc dX12_count_6 (by decide) (by decide) (by decide) (by decide) ?_
      refine st_aload_n hc dX12_count_134 rfl rfl ?_
      refine st_getE hc dX12_count_135 flX12_150 rfl rfl rfl ?_
      refine st_iret (st := []) hc dX12_count_138 rfl ?_
      exact ⟨rfl, sE.rf⟩
    · subst esw
      refine st_tableIn (off := 133) (tgt := 139) hc dX12_count_6 (by decide) (by decide) (by decide) (by decide) ?_
      refine st_aload_n hc dX12_count_139 rfl rfl ?_
      refine st_getE hc dX12_count_140 flX12_183 rfl rfl rfl ?_
      refine st_iret (st := []) hc dX12_count_143 rfl ?_
      exact ⟨rfl, sE.rf⟩
    · subst esw
      refine st_tableIn (off := 138) (tgt := 144) hc dX12_count_6 (by decide) (by decide) (by decide) (by decide) ?_
      refine st_aload_n hc dX12_count_144 rfl rfl ?_
      refine st_getE hc dX12_count_145 flX12_192 rfl rfl rfl ?_
      refine st_iret (st := []) hc dX12_count_148 rfl ?_
      exact ⟨rfl, sE.rf⟩

