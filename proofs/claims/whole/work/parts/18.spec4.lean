/-! ===== begin, show, turn, parts ===== -/
theorem sumN_add (n : Nat) (f h : Nat → Nat) : sumN n (fun c => f c + h c) = sumN n f + sumN n h := by
  induction n with
  | zero => rfl
  | succ n ih => simp only [sumN]; rw [ih]; omega
theorem sumN_one (n x : Nat) : sumN n (fun c => if (x == c) = true then 1 else 0) ≤ 1 := by
  have h : ∀ n, sumN n (fun c => if (x == c) = true then 1 else 0) = if x < n then 1 else 0 := by
    intro n
    induction n with
    | zero => simp [sumN]
    | succ n ih =>
      simp only [sumN]
      rw [ih]
      by_cases e : x = n
      · subst e; simp
      · by_cases e2 : x < n
        · rw [if_pos e2, if_neg (by simpa using e), if_pos (by omega)]
        · rw [if_neg e2, if_neg (by simpa using e), if_neg (by omega)]
  rw [h]
  split <;> omega
theorem sumN_mono {n : Nat} {f h : Nat → Nat} (hh : ∀ i, i < n → f i ≤ h i) : sumN n f ≤ sumN n h := by
  induction n with
  | zero => exact Nat.le_refl _
  | succ n ih => simp only [sumN]; have := ih (fun i hi => hh i (by omega)); have := hh n (by omega); omega
theorem sum_cnt (C n : Nat) (f : Nat → Nat) : sumN C (fun c => cnt n (fun i => f i == c)) ≤ n := by
  induction n with
  | zero =>
    have : ∀ C, sumN C (fun c => cnt 0 (fun i => f i == c)) = 0 := by
      intro C
      induction C with
      | zero => rfl
      | succ C ih => simp only [sumN]; rw [ih]; rfl
    rw [this]
    exact Nat.le_refl _
  | succ n ih =>
    have e : sumN C (fun c => cnt (n + 1) (fun i => f i == c)) = sumN C (fun c => cnt n (fun i => f i == c)) + sumN C (fun c => if (f n == c) = true then 1 else 0) := by
      rw [← sumN_add]
      rfl
    rw [e]
    have := sumN_one C (f n)
    omega
theorem alike_P (P C : Nat) (w : Nat → Int32) (code : Nat) : alike P C w code ≤ P :=
  Nat.le_trans (sumN_mono (fun c _ => Nat.min_le_right _ _)) (sum_cnt C P (pegOf P C code))
theorem ans_50 {P C : Nat} (hP : P ≤ 5) (w : Nat → Int32) (c : Nat) : ans P C w c ≤ 10 * P := by
  have h1 := blacks_le P C w c
  have h2 := alike_P P C w c
  unfold ans
  omega
def clr (n : Nat) (x : Int32) (f : Nat → Int32) : Nat → Int32 := fun i => if i < n then x else f i
theorem clr_s (n : Nat) (x : Int32) (f : Nat → Int32) : upd (clr n x f) n x = clr (n + 1) x f := by
  funext i
  unfold upd clr
  by_cases e : i = n
  · subst e; simp
  · by_cases e2 : i < n
    · rw [if_neg e, if_pos e2, if_pos (by omega)]
    · rw [if_neg e, if_neg e2, if_neg (by omega)]
theorem clr_0 (x : Int32) (f : Nat → Int32) : clr 0 x f = f := by
  funext i
  unfold clr
  rw [if_neg (Nat.not_lt_zero i)]
/-- the reference behind begin() -/
def bgn (σ : St) (P C N : Nat) : St := up (up (up (up (up (va_up (up (va_up (up (up (up (up (up (up (t0 σ) 0 0 (nI P)) 0 1 (nI C)) 0 2 (nI N)) 0 3 0) 0 4 0) 0 5 0) 1 (clr 4096 0 (σ 1))) 0 7 0) 2 (clr 5 (-1) (σ 2))) 0 9 0) 0 13 (-1)) 0 33 0) 0 43 0) 0 14 0
def sp_begin (σ : St) (p c : Int32) : Int32 × St := if ¬ (1 ≤ p ∧ p ≤ 5) ∨ ¬ (1 ≤ c ∧ c ≤ 8) then (-1, t0 σ) else if 4096 < nat c ^ nat p then (-5, t0 σ) else (nI (nat c ^ nat p), bgn σ (nat p) (nat c) (nat c ^ nat p))
theorem in_1n {x : Int32} {n : Nat} {m : Int32} (hm : m = nI n) (hn : n < 2 ^ 31) (h : 1 ≤ x ∧ x ≤ m) : x = nI (nat x) ∧ 1 ≤ nat x ∧ nat x ≤ n := by
  obtain ⟨h1, h2⟩ := h
  subst hm
  have h0 : 0 ≤ x := Int32.le_trans (by decide) h1
  obtain ⟨j, hj, rfl⟩ := nI_of (Int32.not_lt.mpr h0)
  rw [nat_nI hj]
  exact ⟨rfl, (nI_leI (a := 1) (by decide) hj).mp h1, (nI_leI hj hn).mp h2⟩
theorem pow_le5 {c p : Nat} (hc : c ≤ 8) (hp : p ≤ 5) : c ^ p ≤ 32768 := Nat.le_trans (Nat.pow_le_pow_left hc p) (Nat.le_trans (Nat.pow_le_pow_right (by decide) hp) (by decide))
theorem b120 {g : Gx} {d : Nat} {σ : St} {Q : Option Value → St → Prop} {n : Int32} (hc : cX g YM RX12 cX12_begin 5 (some .int) d) {a1 a2 : Value} (hQ : Q (some (.int n)) (up (up (up (up (up (va_up σ 2 (clr 5 (-1) (σ 2))) 0 9 0) 0 13 (-1)) 0 33 0) 0 43 0) 0 14 0)) : aW g YM 5 Q 120 [some (.ref 0), some a1, some a2, some (.int n), some (.int (nI 0))] [] σ := by
  have h := lpN (n := 5) (F := fun i => aW g YM 5 Q 120 [some (.ref 0), some a1, some a2, some (.int n), some (.int (nI i))] [] (va_up σ 2 (clr i (-1) (σ 2)))) ?_ (fun i hi ih => ?_)
  · rw [clr_0, vu_id] at h
    exact h
  · refine st_iload hc dX12_begin_120 rfl ?_
    refine st_iconst (v := 5) hc dX12_begin_122 (by decide) ?_
    refine st_icmp_ge (tgt := 140) hc dX12_begin_123 (by decide) (fun h123 => ?_) (fun h123 => ?_)
    · refine st_aload_n hc dX12_begin_140 rfl rfl ?_
      refine st_iconst (v := 0) hc dX12_begin_141 (by decide) ?_
      refine st_put hc dX12_begin_142 fpX12_171 rfl rfl  ?_
      refine st_aload_n hc dX12_begin_145 rfl rfl ?_
      refine st_iconst (v := (-1)) hc dX12_begin_146 (by decide) ?_
      refine st_put hc dX12_begin_147 fpX12_36 rfl rfl  ?_
      refine st_aload_n hc dX12_begin_150 rfl rfl ?_
      refine st_iconst (v := 0) hc dX12_begin_151 (by decide) ?_
      refine st_put hc dX12_begin_152 fpX12_186 rfl rfl  ?_
      refine st_aload_n hc dX12_begin_155 rfl rfl ?_
      refine st_iconst (v := 0) hc dX12_begin_156 (by decide) ?_
      refine st_put hc dX12_begin_157 fpX12_189 rfl rfl  ?_
      refine st_aload_n hc dX12_begin_160 rfl rfl ?_
      refine st_iconst (v := 0) hc dX12_begin_161 (by decide) ?_
      refine st_put hc dX12_begin_162 fpX12_192 rfl rfl  ?_
      refine st_iload_n hc dX12_begin_165 rfl rfl ?_
      refine st_iret (st := []) hc dX12_begin_166 rfl ?_
      exact hQ
    · exact absurd (by decide) h123
  · refine st_iload hc dX12_begin_120 rfl ?_
    refine st_iconst (v := 5) hc dX12_begin_122 (by decide) ?_
    refine st_icmp_ge (tgt := 140) hc dX12_begin_123 (by decide) (fun h123 => ?_) (fun h123 => ?_)
    · exact absurd h123 (nI_ge (b := 5) hi (by omega))
    · refine st_aload_n hc dX12_begin_126 rfl rfl ?_
      refine st_getr hc dX12_begin_127 flX12_23 rfl rfl ?_
      refine st_iload hc dX12_begin_130 rfl ?_
      refine st_iconst (v := (-1)) hc dX12_begin_132 (by decide) ?_
      refine st_iastN (k := i) hc dX12_begin_133 rfl (rfl) (by omega) (by decide)  ?_
      rw [vu_up, clr_s]
      refine st_inc hc dX12_begin_134 rfl (by decide) rfl ?_
      rw [nI_1]
      refine st_goto (tgt := 120) hc dX12_begin_137 (by decide) ?_
      exact ih
theorem b90 {g : Gx} {d : Nat} {σ : St} {Q : Option Value → St → Prop} {n : Int32} (hc : cX g YM RX12 cX12_begin 5 (some .int) d) {a1 a2 : Value} (k : aW g YM 5 Q 112 [some (.ref 0), some a1, some a2, some (.int n), none] [] (va_up σ 1 (clr 4096 0 (σ 1)))) : aW g YM 5 Q 90 [some (.ref 0), some a1, some a2, some (.int n), some (.int (nI 0))] [] σ := by
  have h := lpN (n := 4096) (F := fun i => aW g YM 5 Q 90 [some (.ref 0), some a1, some a2, some (.int n), some (.int (nI i))] [] (va_up σ 1 (clr i 0 (σ 1)))) ?_ (fun i hi ih => ?_)
  · rw [clr_0, vu_id] at h
    exact h
  · refine st_iload hc dX12_begin_90 rfl ?_
    refine st_sipush (v := 4096) hc dX12_begin_92 (by decide) ?_
    refine st_icmp_ge (tgt := 112) hc dX12_begin_95 (by decide) (fun h95 => ?_) (fun h95 => ?_)
    · exact st_lvq _ (by simp [lvq]) k
    · exact absurd (by decide) h95
  · refine st_iload hc dX12_begin_90 rfl ?_
    refine st_sipush (v := 4096) hc dX12_begin_92 (by decide) ?_
    refine st_icmp_ge (tgt := 112) hc dX12_begin_95 (by decide) (fun h95 => ?_) (fun h95 => ?_)
    · exact absurd h95 (nI_ge (b := 4096) hi (by omega))
    · refine st_aload_n hc dX12_begin_98 rfl rfl ?_
      refine st_getr hc dX12_begin_99 flX12_19 rfl rfl ?_
      refine st_iload hc dX12_begin_102 rfl ?_
      refine st_iconst (v := 0) hc dX12_begin_104 (by decide) ?_
      refine st_zastN (k := i) hc dX12_begin_105 rfl (rfl) (by omega) (by decide) (Or.inl rfl) ?_
      rw [vu_up, clr_s]
      refine st_inc hc dX12_begin_106 rfl (by decide) rfl ?_
      rw [nI_1]
      refine st_goto (tgt := 90) hc dX12_begin_109 (by decide) ?_
      exact ih
theorem b31 {g : Gx} {d : Nat} {σ : St} {Q : Option Value → St → Prop} {P C : Nat} (hc : cX g YM RX12 cX12_begin 5 (some .int) d) (hp1 : 1 ≤ P) (hp5 : P ≤ 5) (hc1 : 1 ≤ C) (hc8 : C ≤ 8) (hpw : C ^ P ≤ 32768) (hQ1 : 4096 < C ^ P → Q (some (.int (-5))) (t0 σ)) (hQ2 : C ^ P ≤ 4096 → Q (some (.int (nI (C ^ P)))) (bgn σ P C (C ^ P))) : aW g YM 5 Q 31 [some (.ref 0), some (.int (nI P)), some (.int (nI C)), some (.int (nI 1)), some (.int (nI 0))] [] (t0 σ) := by
  have h := lpN (n := P) (F := fun i => aW g YM 5 Q 31 [some (.ref 0), some (.int (nI P)), some (.int (nI C)), some (.int (nI (C ^ i))), some (.int (nI i))] [] (t0 σ)) ?_ (fun i hi ih => ?_)
  · exact h
  · refine st_iload hc dX12_begin_31 rfl ?_
    refine st_iload_n hc dX12_begin_33 rfl rfl ?_
    refine st_icmp_ge (tgt := 47) hc dX12_begin_34 (by decide) (fun h34 => ?_) (fun h34 => ?_)
    · refine st_iload_n hc dX12_begin_47 rfl rfl ?_
      refine st_sipush (v := 4096) hc dX12_begin_48 (by decide) ?_
      refine st_icmp_le (tgt := 57) hc dX12_begin_51 (by decide) (fun h51 => ?_) (fun h51 => ?_)
      · have h51 : C ^ P ≤ 4096 := (nI_leI (b := 4096) (by omega) (by omega)).mp h51
        refine st_aload_n hc dX12_begin_57 rfl rfl ?_
        refine st_iload_n hc dX12_begin_58 rfl rfl ?_
        refine st_put hc dX12_begin_59 fpX12_7 rfl rfl  ?_
        refine st_aload_n hc dX12_begin_62 rfl rfl ?_
        refine st_iload_n hc dX12_begin_63 rfl rfl ?_
        refine st_put hc dX12_begin_64 fpX12_13 rfl rfl  ?_
        refine st_aload_n hc dX12_begin_67 rfl rfl ?_
        refine st_iload_n hc dX12_begin_68 rfl rfl ?_
        refine st_put hc dX12_begin_69 fpX12_16 rfl rfl  ?_
        refine st_aload_n hc dX12_begin_72 rfl rfl ?_
        refine st_iconst (v := 0) hc dX12_begin_73 (by decide) ?_
        refine st_put hc dX12_begin_74 fpX12_150 rfl rfl  ?_
        refine st_aload_n hc dX12_begin_77 rfl rfl ?_
        refine st_iconst (v := 0) hc dX12_begin_78 (by decide) ?_
        refine st_put hc dX12_begin_79 fpX12_153 rfl rfl  ?_
        refine st_aload_n hc dX12_begin_82 rfl rfl ?_
        refine st_iconst (v := 0) hc dX12_begin_83 (by decide) ?_
        refine st_put hc dX12_begin_84 fpX12_180 rfl rfl  ?_
        refine st_iconst (v := 0) hc dX12_begin_87 (by decide) ?_
        refine st_istore hc dX12_begin_88 (by decide) rfl ?_
        refine b90 hc ?_
        refine st_aload_n hc dX12_begin_112 rfl rfl ?_
        refine st_iconst (v := 0) hc dX12_begin_113 (by decide) ?_
        refine st_put hc dX12_begin_114 fpX12_183 rfl rfl  ?_
        refine st_iconst (v := 0) hc dX12_begin_117 (by decide) ?_
        refine st_istore hc dX12_begin_118 (by decide) rfl ?_
        exact b120 hc (hQ2 h51)
      · have h51 : 4096 < C ^ P := Nat.lt_of_not_le (fun q => h51 (nI_le (b := 4096) q (by omega)))
        refine st_bipush (v := (-5)) hc dX12_begin_54 (by decide) ?_
        refine st_iret (st := []) hc dX12_begin_56 rfl ?_
        exact hQ1 h51
    · exact absurd (nI_le (Nat.le_refl _) (by omega)) h34
  · refine st_iload hc dX12_begin_31 rfl ?_
    refine st_iload_n hc dX12_begin_33 rfl rfl ?_
    refine st_icmp_ge (tgt := 47) hc dX12_begin_34 (by decide) (fun h34 => ?_) (fun h34 => ?_)
    · exact absurd h34 (nI_ge hi (by omega))
    · refine st_iload_n hc dX12_begin_37 rfl rfl ?_
      refine st_iload_n hc dX12_begin_38 rfl rfl ?_
      refine st_imul hc dX12_begin_39 ?_
      rw [pk_mul, ← Nat.pow_succ]
      refine st_istore_n hc dX12_begin_40 rfl (by decide) rfl ?_
      refine st_inc hc dX12_begin_41 rfl (by decide) rfl ?_
      rw [nI_1]
      refine st_goto (tgt := 31) hc dX12_begin_44 (by decide) ?_
      exact ih
theorem C12_begin (σ : St) (p c : Int32) : Mt YM mX12_begin 9 [.ref 0, .int p, .int c] σ (fun r τ => r = some (.int (sp_begin σ p c).1) ∧ sE (sp_begin σ p c).2 τ) := by
  refine Mt.ofA [some (.ref 0), some (.int p), some (.int c), none, none] (by decide) (fun _ => Nat.le_of_ble_eq_true rfl) (fun _ => rfl) (fun g hc => ?_)
  unfold sp_begin
  refine st_aload_n hc dX12_begin_0 rfl rfl ?_
  refine st_iconst (v := 0) hc dX12_begin_1 (by decide) ?_
  refine st_put hc dX12_begin_2 fpX12_139 rfl rfl  ?_
  refine st_iload_n hc dX12_begin_5 rfl rfl ?_
  refine st_iconst (v := 1) hc dX12_begin_6 (by decide) ?_
  refine st_iconst (v := 5) hc dX12_begin_7 (by decide) ?_
  refine st_callSp hc dX12_begin_8 (C12_in 0 _ p 1 5) msX12_142 (by omega) rfl rfl (Nat.le_of_ble_eq_true rfl) ?_
  refine st_if_eq (tgt := 24) hc dX12_begin_11 (by decide) (fun h11 => ?_) (fun h11 => ?_)
  · have h11 := it0.mp h11
    refine st_iconst (v := (-1)) hc dX12_begin_24 (by decide) ?_
    refine st_iret (st := []) hc dX12_begin_25 rfl ?_
    first
     | (rw [if_pos (Or.inl h11)]; exact ⟨rfl, sE.rf⟩)
     | (rw [if_pos (Or.inr h21)]; exact ⟨rfl, sE.rf⟩)
  · have h11 := it1.mp h11
    refine st_iload_n hc dX12_begin_14 rfl rfl ?_
    refine st_iconst (v := 1) hc dX12_begin_15 (by decide) ?_
    refine st_bipush (v := 8) hc dX12_begin_16 (by decide) ?_
    refine st_callSp hc dX12_begin_18 (C12_in 0 _ c 1 8) msX12_142 (by omega) rfl rfl (Nat.le_of_ble_eq_true rfl) ?_
    refine st_if_ne (tgt := 26) hc dX12_begin_21 (by decide) (fun h21 => ?_) (fun h21 => ?_)
    · have h21 := it1.mp h21
      rw [if_neg (show ¬ (¬ (1 ≤ p ∧ p ≤ 5) ∨ ¬ (1 ≤ c ∧ c ≤ 8)) by rintro (q | q); exact q h11; exact q h21)]
      obtain ⟨ep, hp1, hp5⟩ := in_1n (n := 5) rfl (by decide) h11
      obtain ⟨ec, hc1, hc8⟩ := in_1n (n := 8) rfl (by decide) h21
      generalize nat p = P at *
      generalize nat c = C at *
      subst ep
      subst ec
      have hpw := pow_le5 hc8 hp5
      refine st_iconst (v := 1) hc dX12_begin_26 (by decide) ?_
      refine st_istore_n hc dX12_begin_27 rfl (by decide) rfl ?_
      refine st_iconst (v := 0) hc dX12_begin_28 (by decide) ?_
      refine st_istore hc dX12_begin_29 (by decide) rfl ?_
      refine b31 hc hp1 hp5 hc1 hc8 hpw ?_ ?_
      · intro h
        rw [if_pos h]
        exact ⟨rfl, sE.rf⟩
      · intro h
        rw [if_neg (Nat.not_lt.mpr h)]
        exact ⟨rfl, sE.rf⟩
    · have h21 := it0.mp h21
      refine st_iconst (v := (-1)) hc dX12_begin_24 (by decide) ?_
      refine st_iret (st := []) hc dX12_begin_25 rfl ?_
      first
       | (rw [if_pos (Or.inl h11)]; exact ⟨rfl, sE.rf⟩)
       | (rw [if_pos (Or.inr h21)]; exact ⟨rfl, sE.rf⟩)
theorem hnd_up {σ : St} {i : Nat} {x : Int32} : up σ 2 i x = va_up σ 2 (upd (σ 2) i x) := rfl
/-- the hand becomes a code -/
def shw (P C code : Nat) (h : Nat → Int32) (n : Nat) : Nat → Int32 := fun i => if i < n then nI (pegOf P C code i) else h i
theorem shw_s (P C code : Nat) (h : Nat → Int32) (n : Nat) : upd (shw P C code h n) n (nI (pegOf P C code n)) = shw P C code h (n + 1) := by
  funext i
  unfold upd shw
  by_cases e : i = n
  · subst e; simp
  · by_cases e2 : i < n
    · rw [if_neg e, if_pos e2, if_pos (by omega)]
    · rw [if_neg e, if_neg e2, if_neg (by omega)]
theorem shw_0 (P C code : Nat) (h : Nat → Int32) : shw P C code h 0 = h := by
  funext i
  unfold shw
  rw [if_neg (Nat.not_lt_zero i)]
abbrev shS (σ : St) (c : Nat) : St := va_up (t0 σ) 2 (shw (pN σ) (cN σ) c (σ 2) (pN σ))
def sp_show (σ : St) (c : Int32) : Int32 × St := if 0 ≤ c ∧ nat c < nN σ then (sortS (shS σ (nat c)), shS σ (nat c)) else (-1, t0 σ)
theorem C12_show (σ : St) (hm : MI σ) (c : Int32) : Mt YM mX12_show 9 [.ref 0, .int c] σ (fun r τ => r = some (.int (sp_show σ c).1) ∧ sE (sp_show σ c).2 τ) := by
  obtain ⟨hm1, ht⟩ := id hm
  obtain ⟨⟨hP, hC, hP1, hP5, hC1, hC8⟩, h2, h3, h4, hT, hT2, hLi, hL2, hls⟩ := id hm1
  refine Mt.ofA [some (.ref 0), some (.int c), none] (by decide) (fun _ => Nat.le_of_ble_eq_true rfl) (fun _ => rfl) (fun g hc => ?_)
  unfold sp_show
  have hib := in_n (x := c) (n := nN σ) (by omega)
  rw [← h2] at hib
  have k17 : 0 ≤ c ∧ nat c < nN σ → aW g YM 3 (fun r τ => r = some (.int (if 0 ≤ c ∧ nat c < nN σ then (sortS (shS σ (nat c)), shS σ (nat c)) else (-1, t0 σ)).1) ∧ sE (if 0 ≤ c ∧ nat c < nN σ then (sortS (shS σ (nat c)), shS σ (nat c)) else (-1, t0 σ)).2 τ) 17 [some (.ref 0), some (.int (nI (nat c))), some (.int (nI 0))] [] (t0 σ) := by
    intro hin
    rw [if_pos hin]
    have h := lpN (n := pN σ) (F := fun i => aW g YM 3 (fun r τ => r = some (.int (sortS (shS σ (nat c)))) ∧ sE (shS σ (nat c)) τ) 17 [some (.ref 0), some (.int (nI (nat c))), some (.int (nI i))] [] (va_up (t0 σ) 2 (shw (pN σ) (cN σ) (nat c) (σ 2) i))) ?_ (fun i hi ih => ?_)
    · rw [shw_0, show va_up (t0 σ) 2 (σ 2) = t0 σ from vu_id (σ := t0 σ)] at h
      exact h
    · refine st_iload_n hc dX12_show_17 rfl rfl ?_
      refine st_aload_n hc dX12_show_18 rfl rfl ?_
      refine st_getE hc dX12_show_19 flX12_7 rfl rfl (hP) ?_
      refine st_icmp_ge (tgt := 43) hc dX12_show_22 (by decide) (fun h22 => ?_) (fun h22 => ?_)
      · refine st_aload_n hc dX12_show_43 rfl rfl ?_
        refine st_callVq hc dX12_show_44 (C12_sortOf 0 (shS σ (nat c)) hm (fun i hi => Or.inr (by rw [show shS σ (nat c) 2 i = nI (pegOf (pN σ) (cN σ) (nat c) i) from if_pos hi]; exact ⟨nI_pos' (Nat.lt_trans (pegOf_lt hC1 _ _) (by omega)), by rw [nat_nI (Nat.lt_trans (pegOf_lt hC1 _ _) (by omega))]; exact pegOf_lt hC1 _ _⟩))) mvX12_205 (by omega) rfl rfl rfl (Nat.le_of_ble_eq_true rfl) ?_
        rintro τ hτ
        refine st_iret (st := []) hc dX12_show_47 rfl ?_
        exact ⟨rfl, hτ⟩
      · exact absurd (nI_le (Nat.le_refl _) (by omega)) h22
    · refine st_iload_n hc dX12_show_17 rfl rfl ?_
      refine st_aload_n hc dX12_show_18 rfl rfl ?_
      refine st_getE hc dX12_show_19 flX12_7 rfl rfl (hP) ?_
      refine st_icmp_ge (tgt := 43) hc dX12_show_22 (by decide) (fun h22 => ?_) (fun h22 => ?_)
      · exact absurd h22 (nI_ge hi (by omega))
      · refine st_aload_n hc dX12_show_25 rfl rfl ?_
        refine st_getr hc dX12_show_26 flX12_23 rfl rfl ?_
        refine st_iload_n hc dX12_show_29 rfl rfl ?_
        refine st_aload_n hc dX12_show_30 rfl rfl ?_
        refine st_iload_n hc dX12_show_31 rfl rfl ?_
        refine st_iload_n hc dX12_show_32 rfl rfl ?_
        refine st_callVp hc dX12_show_33 (C12_peg0 0 (va_up (t0 σ) 2 (shw (pN σ) (cN σ) (nat c) (σ 2) i)) (P := pN σ) (C := cN σ) hP hC hP5 hC1 hC8 (nat c) i hi (by omega)) mvX12_146 (by omega) rfl rfl rfl (Nat.le_of_ble_eq_true rfl) ?_
        refine st_iastN (k := i) hc dX12_show_36 rfl (rfl) (by omega) (by decide)  ?_
        rw [vu_up, shw_s]
        refine st_inc hc dX12_show_37 rfl (by decide) rfl ?_
        rw [nI_1]
        refine st_goto (tgt := 17) hc dX12_show_40 (by decide) ?_
        exact ih
  refine st_aload_n hc dX12_show_0 rfl rfl ?_
  refine st_iconst (v := 0) hc dX12_show_1 (by decide) ?_
  refine st_put hc dX12_show_2 fpX12_139 rfl rfl  ?_
  refine st_aload_n hc dX12_show_5 rfl rfl ?_
  refine st_iload_n hc dX12_show_6 rfl rfl ?_
  refine st_callVp hc dX12_show_7 (C12_isCode 0 (t0 σ) c) mvX12_199 (by omega) rfl rfl rfl (Nat.le_of_ble_eq_true rfl) ?_
  refine st_if_ne (tgt := 15) hc dX12_show_10 (by decide) (fun h10 => ?_) (fun h10 => ?_)
  · have h10 := hib.mp (it1.mp h10)
    refine st_iconst (v := 0) hc dX12_show_15 (by decide) ?_
    refine st_istore_n hc dX12_show_16 rfl (by decide) rfl ?_
    have := k17 h10
    rw [nI_nat h10.1] at this
    exact this
  · have h10 := fun q => it0.mp h10 (hib.mpr q)
    refine st_iconst (v := (-1)) hc dX12_show_13 (by decide) ?_
    refine st_iret (st := []) hc dX12_show_14 rfl ?_
    rw [if_neg h10]; exact ⟨rfl, sE.rf⟩
theorem C12_mayAnswer (d : Nat) (σ : St) {P : Nat} (hP : σ 0 0 = nI P) (hP5 : P ≤ 5) (v : Int32) : Mt YM mX12_mayAnswer d [.ref 0, .int v] σ (fun r τ => r = some (.int (bI (decide (0 ≤ v ∧ nat v / 10 + nat v % 10 ≤ P)))) ∧ τ = σ) := by
  refine Mt.ofA [some (.ref 0), some (.int v)] (by decide) (fun _ => Nat.le_of_ble_eq_true rfl) (fun _ => rfl) (fun g hc => ?_)
  refine st_iload_n hc dX12_mayAnswer_0 rfl rfl ?_
  refine st_if_lt (tgt := 24) hc dX12_mayAnswer_1 (by decide) (fun h1 => ?_) (fun h1 => ?_)
  · have e : ¬ (0 ≤ v ∧ nat v / 10 + nat v % 10 ≤ P) := fun q => absurd h1 (Int32.not_lt.mpr q.1)
    refine st_iconst (v := 0) hc dX12_mayAnswer_24 (by decide) ?_
    refine st_zret (st := []) hc dX12_mayAnswer_25 rfl (by first | exact Or.inl rfl | (split <;> simp)) ?_
    first
     | (rw [decide_eq_false e]; exact ⟨rfl, rfl⟩)
     | (refine ⟨?_, rfl⟩
        by_cases q : n / 10 + n % 10 ≤ P
        · rw [decide_eq_true ⟨hv, q⟩, if_neg (fun z => absurd ((nI_ltI (by omega) (by omega)).mp z) (Nat.not_lt.mpr q))]; rfl
        · rw [decide_eq_false (fun z => q z.2), if_pos ((nI_ltI (by omega) (by omega)).mpr (by omega))]; rfl)
  · have hv := Int32.not_lt.mp h1
    have ev := (nI_nat hv).symm
    have hvl := nat_lt v
    generalize nat v = n at *
    subst ev
    refine st_iload_n hc dX12_mayAnswer_4 rfl rfl ?_
    refine st_bipush (v := 10) hc dX12_mayAnswer_5 (by decide) ?_
    refine st_idiv hc dX12_mayAnswer_7 (by decide) ?_
    rw [show (10 : Int32) = nI 10 from rfl, pk_div (by omega) (by decide) (by decide)]
    refine st_iload_n hc dX12_mayAnswer_8 rfl rfl ?_
    refine st_bipush (v := 10) hc dX12_mayAnswer_9 (by decide) ?_
    refine st_irem hc dX12_mayAnswer_11 (by decide) ?_
    rw [show (10 : Int32) = nI 10 from rfl, pk_rem (by omega) (by decide) (by decide)]
    refine st_iadd hc dX12_mayAnswer_12 ?_
    rw [nI_add]
    refine st_aload_n hc dX12_mayAnswer_13 rfl rfl ?_
    refine st_getE hc dX12_mayAnswer_14 flX12_7 rfl rfl (hP) ?_
    refine st_t_icmp_gt (a := 1) (b := 0) hc dX12_mayAnswer_17 dX12_mayAnswer_20 dX12_mayAnswer_21 dX12_mayAnswer_24 (by decide) (by decide) ?_
    refine st_zret (st := []) hc dX12_mayAnswer_25 rfl (by first | exact Or.inl rfl | (split <;> simp)) ?_
    first
     | (rw [decide_eq_false e]; exact ⟨rfl, rfl⟩)
     | (refine ⟨?_, rfl⟩
        by_cases q : n / 10 + n % 10 ≤ P
        · rw [decide_eq_true ⟨hv, q⟩, if_neg (fun z => absurd ((nI_ltI (by omega) (by omega)).mp z) (Nat.not_lt.mpr q))]; rfl
        · rw [decide_eq_false (fun z => q z.2), if_pos ((nI_ltI (by omega) (by omega)).mpr (by omega))]; rfl)
/-! ===== parts ===== -/
/-- how many of the first n have the value a; how many values there are -/
def szA (n : Nat) (f : Nat → Nat) (a : Nat) : Nat := cnt n (fun k => f k == a)
def npA (n : Nat) (f : Nat → Nat) : Nat := cnt 60 (fun a => decide (0 < szA n f a))
theorem W12_partsOf {g : Gx} {d : Nat} {σ : St} {Q : Option Value → St → Prop} {P C n : Nat} {L : Nat → Nat} (hc : cX g YM RX12 cX12_partsOf 3 (some .int) (d + 2)) (hpc : mPC σ P C) (hn : σ 0 18 = nI n) (hn4 : n ≤ 4096) (hL : ∀ k, k < n → σ 7 k = nI (L k) ∧ L k < 4096) (hQ : ∀ w : Nat → Int32, (∀ a, a < 60 → w a = nI (szA n (fun k => ans P C (σ 6) (L k)) a)) → Q (some (.int (nI (npA n (fun k => ans P C (σ 6) (L k)))))) (va_up σ 9 w)) : aW g YM 3 Q 0 [some (.ref 0), none, none] [] σ := by
  obtain ⟨hP, hC, hP1, hP5, hC1, hC8⟩ := id hpc
  have k60 : ∀ w : Nat → Int32, (∀ a, a < 60 → w a = nI (szA n (fun k => ans P C (σ 6) (L k)) a)) → aW g YM 3 Q 60 [some (.ref 0), some (.int (nI 0)), some (.int (nI 0))] [] (va_up σ 9 w) := by
    intro w hw
    refine lpN (n := 60) (F := fun a => aW g YM 3 Q 60 [some (.ref 0), some (.int (nI (cnt a (fun a => decide (0 < szA n (fun k => ans P C (σ 6) (L k)) a))))), some (.int (nI a))] [] (va_up σ 9 w)) ?_ (fun a ha ih => ?_)
    · refine st_iload_n hc dX12_partsOf_60 rfl rfl ?_
      refine st_bipush (v := 60) hc dX12_partsOf_61 (by decide) ?_
      refine st_icmp_ge (tgt := 89) hc dX12_partsOf_63 (by decide) (fun h63 => ?_) (fun h63 => ?_)
      · refine st_iload_n hc dX12_partsOf_89 rfl rfl ?_
        refine st_iret (st := []) hc dX12_partsOf_90 rfl ?_
        exact hQ w hw
      · exact absurd (by decide) h63
    · have hz : szA n (fun k => ans P C (σ 6) (L k)) a ≤ n := cnt_le _ _
      refine st_iload_n hc dX12_partsOf_60 rfl rfl ?_
      refine st_bipush (v := 60) hc dX12_partsOf_61 (by decide) ?_
      refine st_icmp_ge (tgt := 89) hc dX12_partsOf_63 (by decide) (fun h63 => ?_) (fun h63 => ?_)
      · exact absurd h63 (nI_ge (b := 60) ha (by omega))
      · refine st_iload_n hc dX12_partsOf_66 rfl rfl ?_
        refine st_aload_n hc dX12_partsOf_67 rfl rfl ?_
        refine st_getr hc dX12_partsOf_68 flX12_48 rfl rfl ?_
        refine st_iload_n hc dX12_partsOf_71 rfl rfl ?_
        refine st_ialdN (k := a) hc dX12_partsOf_72 rfl (rfl) (by omega) (by decide) (hw a ha) ?_
        refine st_t_if_le (a := 1) (b := 0) hc dX12_partsOf_73 dX12_partsOf_76 dX12_partsOf_77 dX12_partsOf_80 (by decide) (by decide) ?_
        refine st_iadd hc dX12_partsOf_81 ?_
        rw [show (if nI (szA n (fun k => ans P C (σ 6) (L k)) a) ≤ 0 then (0 : Int32) else 1) = nI (if decide (0 < szA n (fun k => ans P C (σ 6) (L k)) a) = true then 1 else 0) by
          by_cases q : 0 < szA n (fun k => ans P C (σ 6) (L k)) a
          · rw [if_neg (nI_nle q (by omega)), if_pos (decide_eq_true q)]; rfl
          · have : szA n (fun k => ans P C (σ 6) (L k)) a = 0 := by omega
            rw [this]; rfl]
        rw [nI_add]
        refine st_istore_n hc dX12_partsOf_82 rfl (by decide) rfl ?_
        refine st_inc hc dX12_partsOf_83 rfl (by decide) rfl ?_
        rw [nI_1]
        refine st_goto (tgt := 60) hc dX12_partsOf_86 (by decide) ?_
        exact ih
  have k23 : ∀ w : Nat → Int32, (∀ a, a < 60 → w a = nI 0) → aW g YM 3 Q 23 [some (.ref 0), some (.int (nI 0)), none] [] (va_up σ 9 w) := by
    intro w0 hw0
    refine lpN (n := n) (F := fun k => ∀ w : Nat → Int32, (∀ a, a < 60 → w a = nI (szA k (fun k => ans P C (σ 6) (L k)) a)) → aW g YM 3 Q 23 [some (.ref 0), some (.int (nI k)), none] [] (va_up σ 9 w)) ?_ (fun k hk ih => ?_) w0 hw0
    · intro w hw
      refine st_iload_n hc dX12_partsOf_23 rfl rfl ?_
      refine st_aload_n hc dX12_partsOf_24 rfl rfl ?_
      refine st_getE hc dX12_partsOf_25 flX12_164 rfl rfl (hn) ?_
      refine st_icmp_ge (tgt := 56) hc dX12_partsOf_28 (by decide) (fun h28 => ?_) (fun h28 => ?_)
      · refine st_iconst (v := 0) hc dX12_partsOf_56 (by decide) ?_
        refine st_istore_n hc dX12_partsOf_57 rfl (by decide) rfl ?_
        refine st_iconst (v := 0) hc dX12_partsOf_58 (by decide) ?_
        refine st_istore_n hc dX12_partsOf_59 rfl (by decide) rfl ?_
        exact st_lvq _ (by simp [lvq, List.set, nI_0]) (k60 w hw)
      · exact absurd (nI_le (Nat.le_refl _) (by omega)) h28
    · intro w hw
      have ha := ans_50 (C := C) hP5 (σ 6) (L k)
      have hl := (hL k hk).2
      have hpc' : mPC (va_up σ 9 w) P C := hpc.up (by decide) w
      refine st_iload_n hc dX12_partsOf_23 rfl rfl ?_
      refine st_aload_n hc dX12_partsOf_24 rfl rfl ?_
      refine st_getE hc dX12_partsOf_25 flX12_164 rfl rfl (hn) ?_
      refine st_icmp_ge (tgt := 56) hc dX12_partsOf_28 (by decide) (fun h28 => ?_) (fun h28 => ?_)
      · exact absurd h28 (nI_ge hk (by omega))
      · refine st_aload_n hc dX12_partsOf_31 rfl rfl ?_
        refine st_getr hc dX12_partsOf_32 flX12_48 rfl rfl ?_
        refine st_aload_n hc dX12_partsOf_35 rfl rfl ?_
        refine st_aload_n hc dX12_partsOf_36 rfl rfl ?_
        refine st_getr hc dX12_partsOf_37 flX12_42 rfl rfl ?_
        refine st_iload_n hc dX12_partsOf_40 rfl rfl ?_
        refine st_ialdN (k := k) hc dX12_partsOf_41 rfl (rfl) (by omega) (by decide) ((hL k hk).1) ?_
        refine st_callVp hc dX12_partsOf_42 (C12_answers d (va_up σ 9 w) hpc' (L k) (by omega)) mvX12_160 (by omega) rfl rfl rfl (Nat.le_of_ble_eq_true rfl) ?_
        refine st_dup2 hc dX12_partsOf_45 rfl rfl ?_
        refine st_ialdN (k := ans P C (σ 6) (L k)) hc dX12_partsOf_46 rfl (rfl) (by omega) (by decide) (hw _ (by omega)) ?_
        refine st_iconst (v := 1) hc dX12_partsOf_47 (by decide) ?_
        refine st_iadd hc dX12_partsOf_48 ?_
        rw [nI_1]
        refine st_iastN (k := ans P C (σ 6) (L k)) hc dX12_partsOf_49 rfl (rfl) (by omega) (by decide)  ?_
        rw [vu_up]
        refine st_inc hc dX12_partsOf_50 rfl (by decide) rfl ?_
        rw [nI_1]
        refine st_goto (tgt := 23) hc dX12_partsOf_53 (by decide) ?_
        refine ih _ (fun a h60 => ?_)
        by_cases q : a = ans P C (σ 6) (L k)
        · subst q; rw [upd_s]; unfold szA; rw [cnt]; simp
        · have q2 : ¬ ans P C (σ 6) (L k) = a := fun z => q z.symm
          rw [upd_n q, hw a h60]; unfold szA; rw [cnt]; simp [q2]
  have k2 : aW g YM 3 Q 2 [some (.ref 0), some (.int (nI 0)), none] [] σ := by
    have h := lpN (n := 60) (F := fun a => aW g YM 3 Q 2 [some (.ref 0), some (.int (nI a)), none] [] (va_up σ 9 (clr a 0 (σ 9)))) ?_ (fun a ha ih => ?_)
    · rw [clr_0, vu_id] at h
      exact h
    · refine st_iload_n hc dX12_partsOf_2 rfl rfl ?_
      refine st_bipush (v := 60) hc dX12_partsOf_3 (by decide) ?_
      refine st_icmp_ge (tgt := 21) hc dX12_partsOf_5 (by decide) (fun h5 => ?_) (fun h5 => ?_)
      · refine st_iconst (v := 0) hc dX12_partsOf_21 (by decide) ?_
        refine st_istore_n hc dX12_partsOf_22 rfl (by decide) rfl ?_
        exact st_lvq _ (by simp [lvq, List.set, nI_0]) (k23 _ (fun a ha => if_pos ha))
      · exact absurd (by decide) h5
    · refine st_iload_n hc dX12_partsOf_2 rfl rfl ?_
      refine st_bipush (v := 60) hc dX12_partsOf_3 (by decide) ?_
      refine st_icmp_ge (tgt := 21) hc dX12_partsOf_5 (by decide) (fun h5 => ?_) (fun h5 => ?_)
      · exact absurd h5 (nI_ge (b := 60) ha (by omega))
      · refine st_aload_n hc dX12_partsOf_8 rfl rfl ?_
        refine st_getr hc dX12_partsOf_9 flX12_48 rfl rfl ?_
        refine st_iload_n hc dX12_partsOf_12 rfl rfl ?_
        refine st_iconst (v := 0) hc dX12_partsOf_13 (by decide) ?_
        refine st_iastN (k := a) hc dX12_partsOf_14 rfl (rfl) (by omega) (by decide)  ?_
        rw [vu_up, clr_s]
        refine st_inc hc dX12_partsOf_15 rfl (by decide) rfl ?_
        rw [nI_1]
        refine st_goto (tgt := 2) hc dX12_partsOf_18 (by decide) ?_
        exact ih
  refine st_iconst (v := 0) hc dX12_partsOf_0 (by decide) ?_
  refine st_istore_n hc dX12_partsOf_1 rfl (by decide) rfl ?_
  exact st_lvq _ (by simp [lvq, List.set, nI_0]) k2
theorem C12_partsOf (d : Nat) (σ : St) {P C n : Nat} {L : Nat → Nat} (hpc : mPC σ P C) (hn : σ 0 18 = nI n) (hn4 : n ≤ 4096) (hL : ∀ k, k < n → σ 7 k = nI (L k) ∧ L k < 4096) : Mt YM mX12_partsOf (d + 2) [.ref 0] σ (fun r τ => r = some (.int (nI (npA n (fun k => ans P C (σ 6) (L k))))) ∧ ∃ w : Nat → Int32, (∀ a, a < 60 → w a = nI (szA n (fun k => ans P C (σ 6) (L k)) a)) ∧ τ = va_up σ 9 w) :=
  Mt.ofA [some (.ref 0), none, none] (by decide) (fun _ => Nat.le_of_ble_eq_true rfl) (fun _ => rfl) (fun _ hc => W12_partsOf hc hpc hn hn4 hL (fun w h => ⟨rfl, w, h, rfl⟩))

