/-! ===== tell, and what quarrels ===== -/
/-- the false turns of a code, as a number -/
abbrev fbM (σ : St) (P C T c : Nat) : Nat := fbits T (isF P C (σ 3) (σ 4) c)
abbrev okM (σ : St) (P C c : Nat) : Bool := okLaw P C (σ 0 3) (σ 0 4) (σ 1) c
/-- a set of turns that quarrels: every allowed code has more of them false than there are lies -/
def qP (σ : St) (P C T L s : Nat) : Nat → Bool := fun c => okM σ P C c && decide (ones (fbM σ P C T c &&& s) ≤ L)
def qB (σ : St) (P C N T L s : Nat) : Bool := !anyN N (qP σ P C T L s)
def qbst (σ : St) (P C N T L s : Nat) : Option Nat := match s with
  | 0 => none
  | s + 1 => match qbst σ P C N T L s with
    | some b => if ones b ≤ ones s then some b else if qB σ P C N T L s = true then some s else some b
    | none => if qB σ P C N T L s = true then some s else none
def oI (o : Option Nat) : Int32 := match o with
  | none => -1
  | some x => nI x
theorem qbst_lt {σ : St} {P C N T L : Nat} : ∀ s b, qbst σ P C N T L s = some b → b < s := by
  intro s
  induction s with
  | zero => intro b h; cases h
  | succ s ih =>
    intro b h
    rw [qbst] at h
    cases hq : qbst σ P C N T L s with
    | none =>
      rw [hq] at h
      simp only at h
      split at h
      · cases h; omega
      · cases h
    | some x =>
      rw [hq] at h
      have := ih x hq
      simp only at h
      split at h
      · cases h; omega
      · split at h
        · cases h; omega
        · cases h; omega
/-- the quarrel as bits -/
def qSet (σ : St) (P C N T L : Nat) : Nat := (qbst σ P C N T L (2 ^ T)).getD (2 ^ T - 1)
theorem m1bit : ∀ t, t < 12 → ¬ ((-1 : Int32) >>> (nI t &&& 31) &&& 1) = 0 := by decide +kernel
def qrow (f : Nat → Int32) (n : Nat) (p : Nat → Bool) : Nat → Int32 := fun j => if j < cnt n p then nI (nthT n p j) else f j
theorem qrow_s {f : Nat → Int32} {n : Nat} {p : Nat → Bool} (h : p n = true) : upd (qrow f n p) (cnt n p) (nI n) = qrow f (n + 1) p := by
  have e : cnt (n + 1) p = cnt n p + 1 := by rw [cnt]; simp [h]
  funext j
  unfold upd qrow
  rw [e]
  by_cases q : j = cnt n p
  · subst q
    rw [if_pos rfl, if_pos (by omega), nthT_eq (show n < n + 1 by omega) h rfl]
  · rw [if_neg q]
    by_cases q2 : j < cnt n p
    · rw [if_pos q2, if_pos (by omega)]
      have : nthT (n + 1) p j = nthT n p j := by
        rw [nthT]
        rw [if_neg]
        simp only [Bool.and_eq_true, beq_iff_eq, not_and]
        intro _ z
        exact q z.symm
      rw [this]
    · rw [if_neg q2, if_neg (by omega)]
theorem qrow_n {f : Nat → Int32} {n : Nat} {p : Nat → Bool} (h : p n = false) : qrow f (n + 1) p = qrow f n p := by
  have e : cnt (n + 1) p = cnt n p := by rw [cnt]; simp [h]
  funext j
  unfold qrow
  rw [e]
  by_cases q2 : j < cnt n p
  · rw [if_pos q2, if_pos q2]
    have : nthT (n + 1) p j = nthT n p j := by
      rw [nthT]
      rw [if_neg]
      simp [h]
    rw [this]
  · rw [if_neg q2, if_neg q2]
theorem qrow_0 {f : Nat → Int32} {p : Nat → Bool} : qrow f 0 p = f := by
  funext j
  unfold qrow
  rw [if_neg (show ¬ j < cnt 0 p from Nat.not_lt_zero j)]
theorem W12_quarrels {g : Gx} {d : Nat} {σ : St} {Q : Option Value → St → Prop} {P C N T L : Nat} (hc : cX g YM RX12 cX12_quarrels 6 none (d + 3)) (hm : mOK σ P C N T L) (hT10 : T ≤ 10) (hQ : ∀ w8 w6, Q none (va_up (va_up (up (va_up σ 5 (qrow (σ 5) T (fun t => (qSet σ P C N T L).testBit t))) 0 13 (nI (cnt T (fun t => (qSet σ P C N T L).testBit t)))) 8 w8) 6 w6)) : aW g YM 6 Q 0 [some (.ref 0), some (.int (nI T)), none, none, none, none] [] σ := by
  obtain ⟨hpc, h2, h3, h4, hT, hT2, hLi, hL2, hls⟩ := id hm
  have h2T : 2 ^ T ≤ 1024 := Nat.pow_le_pow_right (by decide) hT10
  have h2T0 : 0 < 2 ^ T := Nat.two_pow_pos T
  have hfl : ∀ c, fbM σ P C T c < 2 ^ 31 := fun c => fbits_lt31 (by omega) _
  have k152 : ∀ w8 w6, aW g YM 6 Q 152 [some (.ref 0), some (.int (nI T)), some (.int (oI (qbst σ P C N T L (2 ^ T)))), some (.int (nI 0)), none, none] [] (va_up (va_up (up σ 0 13 (nI 0)) 8 w8) 6 w6) := by
    intro w8 w6
    have hbit : ∀ t, t < T → ((oI (qbst σ P C N T L (2 ^ T)) >>> (nI t &&& 31) &&& 1) = 0 ↔ (qSet σ P C N T L).testBit t = false) := by
      intro t ht
      unfold qSet
      cases hq : qbst σ P C N T L (2 ^ T) with
      | none =>
        simp only [oI, Option.getD_none]
        rw [Nat.testBit_two_pow_sub_one]
        constructor
        · intro q; exact absurd q (m1bit t (by omega))
        · intro q; simp at q; omega
      | some b =>
        have hb := qbst_lt _ _ hq
        simp only [oI, Option.getD_some]
        rw [nI_bit (by omega) (by omega)]
        cases b.testBit t <;> simp <;> decide
    generalize hp : (fun t => (qSet σ P C N T L).testBit t) = p at hQ
    have hpt : ∀ t, p t = (qSet σ P C N T L).testBit t := fun t => by rw [← hp]
    have h := lpN (n := T) (F := fun t => aW g YM 6 Q 152 [some (.ref 0), some (.int (nI T)), some (.int (oI (qbst σ P C N T L (2 ^ T)))), some (.int (nI t)), none, none] [] (va_up (va_up (up (va_up σ 5 (qrow (σ 5) t p)) 0 13 (nI (cnt t p))) 8 w8) 6 w6)) ?_ (fun t ht ih => ?_)
    · rw [qrow_0, vu_id] at h
      exact h
    · refine st_iload_n hc dX12_quarrels_152 rfl rfl ?_
      refine st_iload_n hc dX12_quarrels_153 rfl rfl ?_
      refine st_icmp_ge (tgt := 194) hc dX12_quarrels_154 (by decide) (fun h154 => ?_) (fun h154 => ?_)
      · refine st_vret (st := []) hc dX12_quarrels_194 rfl ?_
        exact hQ w8 w6
      · exact absurd (nI_le (Nat.le_refl _) (by omega)) h154
    · have hcl := cnt_le t p
      refine st_iload_n hc dX12_quarrels_152 rfl rfl ?_
      refine st_iload_n hc dX12_quarrels_153 rfl rfl ?_
      refine st_icmp_ge (tgt := 194) hc dX12_quarrels_154 (by decide) (fun h154 => ?_) (fun h154 => ?_)
      · exact absurd h154 (nI_ge ht (by omega))
      · refine st_iload_n hc dX12_quarrels_157 rfl rfl ?_
        refine st_iload_n hc dX12_quarrels_158 rfl rfl ?_
        refine st_ishr hc dX12_quarrels_159 ?_
        refine st_iconst (v := 1) hc dX12_quarrels_160 (by decide) ?_
        refine st_iand hc dX12_quarrels_161 ?_
        refine st_if_ne (tgt := 168) hc dX12_quarrels_162 (by decide) (fun h162 => ?_) (fun h162 => ?_)
        · have e : p t = true := by
            rcases hb : p t with _ | _
            · exact absurd ((hbit t ht).mpr ((hpt t).symm.trans hb)) h162
            · rfl
          have e2 : cnt (t + 1) p = cnt t p + 1 := by rw [cnt]; simp [e]
          rw [e2, ← qrow_s e] at ih
          refine st_aload_n hc dX12_quarrels_168 rfl rfl ?_
          refine st_getr hc dX12_quarrels_169 flX12_33 rfl rfl ?_
          refine st_aload_n hc dX12_quarrels_172 rfl rfl ?_
          refine st_getE hc dX12_quarrels_173 flX12_36 rfl rfl rfl ?_
          refine st_iload_n hc dX12_quarrels_176 rfl rfl ?_
          refine st_iastN (k := cnt t p) hc dX12_quarrels_177 rfl (rfl) (by omega) (by decide)  ?_
          refine st_aload_n hc dX12_quarrels_178 rfl rfl ?_
          refine st_dup hc dX12_quarrels_179 rfl ?_
          refine st_getE hc dX12_quarrels_180 flX12_36 rfl rfl (show _ = nI (cnt t p) from rfl) ?_
          refine st_iconst (v := 1) hc dX12_quarrels_183 (by decide) ?_
          refine st_iadd hc dX12_quarrels_184 ?_
          rw [nI_1]
          refine st_put hc dX12_quarrels_185 fpX12_36 rfl rfl  ?_
          refine st_inc hc dX12_quarrels_188 rfl (by decide) rfl ?_
          rw [nI_1]
          refine st_goto (tgt := 152) hc dX12_quarrels_191 (by decide) ?_
          first
           | exact ih
           | (refine aW_st ?_ ih
              simp (decide := true) only [vu_up, up_up, vu_put, vu_vu]
              done)
        · have e : p t = false := (hpt t).trans ((hbit t ht).mp h162)
          have e2 : cnt (t + 1) p = cnt t p := by rw [cnt]; simp [e]
          rw [e2, qrow_n e] at ih
          refine st_goto (tgt := 188) hc dX12_quarrels_165 (by decide) ?_
          refine st_inc hc dX12_quarrels_188 rfl (by decide) rfl ?_
          rw [nI_1]
          refine st_goto (tgt := 152) hc dX12_quarrels_191 (by decide) ?_
          first
           | exact ih
           | (refine aW_st ?_ ih
              simp (decide := true) only [vu_up, up_up, vu_put, vu_vu]
              done)
  have ones11 : ∀ b, ones b ≤ 11 := fun b => cnt_le _ _
  have k75 : ∀ w8 w6 s b, s < 2 ^ T → (∀ c, c < N → w8 c = if okM σ P C c = true then nI (fbM σ P C T c) else -1) → aW g YM 6 Q 139 [some (.ref 0), some (.int (nI T)), some (.int (if qB σ P C N T L s = true then nI s else b)), some (.int (nI s)), none, none] [] (va_up (va_up σ 8 w8) 6 w6) → aW g YM 6 Q 75 [some (.ref 0), some (.int (nI T)), some (.int b), some (.int (nI s)), some (.int 1), some (.int (nI 0))] [] (va_up (va_up σ 8 w8) 6 w6) := by
    intro w8 w6 s b hs hw8 kk
    have kx : ∀ (c : Int32) (q : Bool), qB σ P C N T L s = q → aW g YM 6 Q 132 [some (.ref 0), some (.int (nI T)), some (.int b), some (.int (nI s)), some (.int (bI q)), some (.int c)] [] (va_up (va_up σ 8 w8) 6 w6) := by
      intro c q hq
      rw [hq] at kk
      refine st_iload hc dX12_quarrels_132 rfl ?_
      refine st_if_eq (tgt := 139) hc dX12_quarrels_134 (by decide) (fun h134 => ?_) (fun h134 => ?_)
      · rw [bI_0.mp h134] at kk
        exact st_lvq _ (by simp [lvq, List.set]) kk
      · have e : q = true := by cases q; exact absurd rfl h134; rfl
        rw [e] at kk
        refine st_iload_n hc dX12_quarrels_137 rfl rfl ?_
        refine st_istore_n hc dX12_quarrels_138 rfl (by decide) rfl ?_
        exact st_lvq _ (by simp [lvq, List.set]) kk
    refine lpN (n := N) (F := fun c => anyN c (qP σ P C T L s) = false → aW g YM 6 Q 75 [some (.ref 0), some (.int (nI T)), some (.int b), some (.int (nI s)), some (.int 1), some (.int (nI c))] [] (va_up (va_up σ 8 w8) 6 w6)) ?_ (fun c hcn ih => ?_) rfl
    · intro hall
      refine st_iload hc dX12_quarrels_75 rfl ?_
      refine st_aload_n hc dX12_quarrels_77 rfl rfl ?_
      refine st_getE hc dX12_quarrels_78 flX12_16 rfl rfl (h2) ?_
      refine st_icmp_ge (tgt := 132) hc dX12_quarrels_81 (by decide) (fun h81 => ?_) (fun h81 => ?_)
      · exact kx _ true (by unfold qB; rw [hall]; rfl)
      · exact absurd (nI_le (Nat.le_refl _) (by omega)) h81
    · intro hall
      have hsl : fbM σ P C T c &&& s < 2 ^ 31 := Nat.lt_of_le_of_lt Nat.and_le_left (hfl c)
      have ho := ones11 (fbM σ P C T c &&& s)
      have kf : ∀ q : Bool, qP σ P C T L s c = !q → aW g YM 6 Q 124 [some (.ref 0), some (.int (nI T)), some (.int b), some (.int (nI s)), some (.int 1), some (.int (nI c))] [.int (bI q)] (va_up (va_up σ 8 w8) 6 w6) := by
        intro q hq
        refine st_istore hc dX12_quarrels_124 (by decide) rfl ?_
        refine st_inc hc dX12_quarrels_126 rfl (by decide) rfl ?_
        rw [nI_1]
        refine st_goto (tgt := 75) hc dX12_quarrels_129 (by decide) ?_
        cases q with
        | true => exact ih (by rw [anyN_s, hall, hq]; rfl)
        | false =>
          have eB : qB σ P C N T L s = false := by
            unfold qB
            rw [(anyN_iff _ _).mpr ⟨c, hcn, hq⟩]
            rfl
          refine st_iload hc dX12_quarrels_75 rfl ?_
          refine st_aload_n hc dX12_quarrels_77 rfl rfl ?_
          refine st_getE hc dX12_quarrels_78 flX12_16 rfl rfl (h2) ?_
          refine st_icmp_ge (tgt := 132) hc dX12_quarrels_81 (by decide) (fun h81 => ?_) (fun h81 => ?_)
          · exact kx _ false eB
          · refine st_iload hc dX12_quarrels_84 rfl ?_
            refine st_if_eq (tgt := 132) hc dX12_quarrels_86 (by decide) (fun h86 => ?_) (fun h86 => ?_)
            · exact kx _ false eB
            · exact absurd rfl h86
      refine st_iload hc dX12_quarrels_75 rfl ?_
      refine st_aload_n hc dX12_quarrels_77 rfl rfl ?_
      refine st_getE hc dX12_quarrels_78 flX12_16 rfl rfl (h2) ?_
      refine st_icmp_ge (tgt := 132) hc dX12_quarrels_81 (by decide) (fun h81 => ?_) (fun h81 => ?_)
      · exact absurd h81 (nI_ge hcn (by omega))
      · refine st_iload hc dX12_quarrels_84 rfl ?_
        refine st_if_eq (tgt := 132) hc dX12_quarrels_86 (by decide) (fun h86 => ?_) (fun h86 => ?_)
        · exact absurd h86 (by decide)
        · refine st_aload_n hc dX12_quarrels_89 rfl rfl ?_
          refine st_getr hc dX12_quarrels_90 flX12_45 rfl rfl ?_
          refine st_iload hc dX12_quarrels_93 rfl ?_
          refine st_ialdN (k := c) hc dX12_quarrels_95 rfl (rfl) (by omega) (by decide) (hw8 c hcn) ?_
          refine st_iconst (v := (-1)) hc dX12_quarrels_96 (by decide) ?_
          refine st_icmp_eq (tgt := 119) hc dX12_quarrels_97 (by decide) (fun h97 => ?_) (fun h97 => ?_)
          · have eo : okM σ P C c = false := by
              rcases hb : okM σ P C c with _ | _
              · rfl
              · rw [hb, if_pos rfl] at h97
                exact absurd (by rw [← h97]; exact nI_pos' (hfl c)) (show ¬ (0 : Int32) ≤ -1 by decide)
            have hk := kf true (by unfold qP; rw [eo]; rfl)
            refine st_iconst (v := 1) hc dX12_quarrels_119 (by decide) ?_
            refine st_goto (tgt := 124) hc dX12_quarrels_120 (by decide) ?_
            exact hk
          · have eo : okM σ P C c = true := by
              rcases hb : okM σ P C c with _ | _
              · rw [hb] at h97; exact absurd rfl h97
              · rfl
            refine st_aload_n hc dX12_quarrels_100 rfl rfl ?_
            refine st_getr hc dX12_quarrels_101 flX12_45 rfl rfl ?_
            refine st_iload hc dX12_quarrels_104 rfl ?_
            refine st_ialdN (k := c) hc dX12_quarrels_106 rfl (rfl) (by omega) (by decide) ((hw8 c hcn).trans (if_pos eo)) ?_
            refine st_iload_n hc dX12_quarrels_107 rfl rfl ?_
            refine st_iand hc dX12_quarrels_108 ?_
            rw [nI_and]
            refine st_callSp hc dX12_quarrels_109 (C12_ones d _ _ hsl) msX12_177 (by omega) rfl rfl (Nat.le_of_ble_eq_true rfl) ?_
            refine st_aload_n hc dX12_quarrels_112 rfl rfl ?_
            refine st_getE hc dX12_quarrels_113 flX12_180 rfl rfl (hLi) ?_
            refine st_t_icmp_le (a := 1) (b := 0) hc dX12_quarrels_116 dX12_quarrels_119 dX12_quarrels_120 dX12_quarrels_123 (by decide) (by decide) ?_
            rw [show (if nI (ones (fbM σ P C T c &&& s)) ≤ nI L then (0 : Int32) else 1) = bI (decide (¬ ones (fbM σ P C T c &&& s) ≤ L)) by
              by_cases q : ones (fbM σ P C T c &&& s) ≤ L
              · rw [if_pos (nI_le q (by omega)), decide_eq_false (fun z => z q)]; rfl
              · rw [if_neg (fun z => q ((nI_leI (by omega) (by omega)).mp z)), decide_eq_true q]; rfl]
            have hk := kf (decide (¬ ones (fbM σ P C T c &&& s) ≤ L)) (by unfold qP; rw [eo, Bool.true_and]; by_cases q : ones (fbM σ P C T c &&& s) ≤ L <;> simp [q])
            exact hk
  have k44 : ∀ w8 w6, (∀ c, c < N → w8 c = if okM σ P C c = true then nI (fbM σ P C T c) else -1) → aW g YM 6 Q 44 [some (.ref 0), some (.int (nI T)), some (.int (-1)), some (.int (nI 0)), none, none] [] (va_up (va_up σ 8 w8) 6 w6) := by
    intro w8 w6 hw8
    refine lpN (n := 2 ^ T) (F := fun s => aW g YM 6 Q 44 [some (.ref 0), some (.int (nI T)), some (.int (oI (qbst σ P C N T L s))), some (.int (nI s)), none, none] [] (va_up (va_up σ 8 w8) 6 w6)) ?_ (fun s hs ih => ?_)
    · refine st_iload_n hc dX12_quarrels_44 rfl rfl ?_
      refine st_iconst (v := 1) hc dX12_quarrels_45 (by decide) ?_
      refine st_iload_n hc dX12_quarrels_46 rfl rfl ?_
      refine st_ishl hc dX12_quarrels_47 ?_
      rw [nI_shl1 (by omega)]
      refine st_icmp_ge (tgt := 145) hc dX12_quarrels_48 (by decide) (fun h48 => ?_) (fun h48 => ?_)
      · refine st_aload_n hc dX12_quarrels_145 rfl rfl ?_
        refine st_iconst (v := 0) hc dX12_quarrels_146 (by decide) ?_
        refine st_put hc dX12_quarrels_147 fpX12_36 rfl rfl  ?_
        refine st_iconst (v := 0) hc dX12_quarrels_150 (by decide) ?_
        refine st_istore_n hc dX12_quarrels_151 rfl (by decide) rfl ?_
        refine aW_st ?_ (st_lvq _ (by simp [lvq, List.set, nI_0]) (k152 w8 w6))
        simp (decide := true) only [vu_put, nI_0]
      · exact absurd (nI_le (Nat.le_refl _) (by omega)) h48
    · have kn : aW g YM 6 Q 139 [some (.ref 0), some (.int (nI T)), some (.int (oI (qbst σ P C N T L (s + 1)))), some (.int (nI s)), none, none] [] (va_up (va_up σ 8 w8) 6 w6) := by
        refine st_inc hc dX12_quarrels_139 rfl (by decide) rfl ?_
        rw [nI_1]
        refine st_goto (tgt := 44) hc dX12_quarrels_142 (by decide) ?_
        exact ih
      cases hq : qbst σ P C N T L s with
      | none =>
        have e : oI (qbst σ P C N T L (s + 1)) = if qB σ P C N T L s = true then nI s else -1 := by
          rw [qbst, hq]
          by_cases q : qB σ P C N T L s = true <;> simp [q, oI]
        rw [e] at kn
        refine st_iload_n hc dX12_quarrels_44 rfl rfl ?_
        refine st_iconst (v := 1) hc dX12_quarrels_45 (by decide) ?_
        refine st_iload_n hc dX12_quarrels_46 rfl rfl ?_
        refine st_ishl hc dX12_quarrels_47 ?_
        rw [nI_shl1 (by omega)]
        refine st_icmp_ge (tgt := 145) hc dX12_quarrels_48 (by decide) (fun h48 => ?_) (fun h48 => ?_)
        · exact absurd h48 (nI_ge hs (by omega))
        · refine st_iload_n hc dX12_quarrels_51 rfl rfl ?_
          refine st_if_lt (tgt := 69) hc dX12_quarrels_52 (by decide) (fun h52 => ?_) (fun h52 => ?_)
          · refine st_iconst (v := 1) hc dX12_quarrels_69 (by decide) ?_
            refine st_istore hc dX12_quarrels_70 (by decide) rfl ?_
            refine st_iconst (v := 0) hc dX12_quarrels_72 (by decide) ?_
            refine st_istore hc dX12_quarrels_73 (by decide) rfl ?_
            exact st_lvq _ (by simp [lvq, List.set, nI_0, oI]) (k75 w8 w6 s (-1) hs hw8 kn)
          · exact absurd (by decide) h52
      | some b =>
        have hb := qbst_lt _ _ hq
        have e : oI (qbst σ P C N T L (s + 1)) = if ones b ≤ ones s then nI b else if qB σ P C N T L s = true then nI s else nI b := by
          rw [qbst, hq]
          by_cases q1 : ones b ≤ ones s
          · simp [q1, oI]
          · by_cases q : qB σ P C N T L s = true <;> simp [q1, q, oI]
        rw [e] at kn
        have ho1 := ones11 b
        have ho2 := ones11 s
        refine st_iload_n hc dX12_quarrels_44 rfl rfl ?_
        refine st_iconst (v := 1) hc dX12_quarrels_45 (by decide) ?_
        refine st_iload_n hc dX12_quarrels_46 rfl rfl ?_
        refine st_ishl hc dX12_quarrels_47 ?_
        rw [nI_shl1 (by omega)]
        refine st_icmp_ge (tgt := 145) hc dX12_quarrels_48 (by decide) (fun h48 => ?_) (fun h48 => ?_)
        · exact absurd h48 (nI_ge hs (by omega))
        · refine st_iload_n hc dX12_quarrels_51 rfl rfl ?_
          refine st_if_lt (tgt := 69) hc dX12_quarrels_52 (by decide) (fun h52 => ?_) (fun h52 => ?_)
          · exact absurd h52 (nI_pos (by omega))
          · refine st_iload_n hc dX12_quarrels_55 rfl rfl ?_
            refine st_callSp hc dX12_quarrels_56 (C12_ones d _ s (by omega)) msX12_177 (by omega) rfl rfl (Nat.le_of_ble_eq_true rfl) ?_
            refine st_iload_n hc dX12_quarrels_59 rfl rfl ?_
            refine st_callSp hc dX12_quarrels_60 (C12_ones d _ b (by omega)) msX12_177 (by omega) rfl rfl (Nat.le_of_ble_eq_true rfl) ?_
            refine st_icmp_lt (tgt := 69) hc dX12_quarrels_63 (by decide) (fun h63 => ?_) (fun h63 => ?_)
            · have hlt : ¬ ones b ≤ ones s := fun q => absurd ((nI_ltI (by omega) (by omega)).mp h63) (Nat.not_lt.mpr q)
              rw [if_neg hlt] at kn
              refine st_iconst (v := 1) hc dX12_quarrels_69 (by decide) ?_
              refine st_istore hc dX12_quarrels_70 (by decide) rfl ?_
              refine st_iconst (v := 0) hc dX12_quarrels_72 (by decide) ?_
              refine st_istore hc dX12_quarrels_73 (by decide) rfl ?_
              exact st_lvq _ (by simp [lvq, List.set, nI_0, oI]) (k75 w8 w6 s (nI b) hs hw8 kn)
            · have hle : ones b ≤ ones s := Nat.le_of_not_lt (fun q => h63 ((nI_ltI (by omega) (by omega)).mpr q))
              rw [if_pos hle] at kn
              refine st_goto (tgt := 139) hc dX12_quarrels_66 (by decide) ?_
              exact kn
  have k2 : ∀ w6, aW g YM 6 Q 2 [some (.ref 0), some (.int (nI T)), some (.int (nI 0)), none, none, none] [] (va_up (va_up σ 8 (σ 8)) 6 w6) := by
    refine lpN (n := N) (F := fun c => ∀ w8, (∀ j, j < c → w8 j = if okM σ P C j = true then nI (fbM σ P C T j) else -1) → ∀ w6, aW g YM 6 Q 2 [some (.ref 0), some (.int (nI T)), some (.int (nI c)), none, none, none] [] (va_up (va_up σ 8 w8) 6 w6)) ?_ (fun c hcn ih => ?_) (σ 8) (fun j hj => absurd hj (Nat.not_lt_zero j))
    · intro w8 hw8 w6
      refine st_iload_n hc dX12_quarrels_2 rfl rfl ?_
      refine st_aload_n hc dX12_quarrels_3 rfl rfl ?_
      refine st_getE hc dX12_quarrels_4 flX12_16 rfl rfl (h2) ?_
      refine st_icmp_ge (tgt := 40) hc dX12_quarrels_7 (by decide) (fun h7 => ?_) (fun h7 => ?_)
      · refine st_iconst (v := (-1)) hc dX12_quarrels_40 (by decide) ?_
        refine st_istore_n hc dX12_quarrels_41 rfl (by decide) rfl ?_
        refine st_iconst (v := 0) hc dX12_quarrels_42 (by decide) ?_
        refine st_istore_n hc dX12_quarrels_43 rfl (by decide) rfl ?_
        exact st_lvq _ (by simp [lvq, List.set, nI_0]) (k44 w8 w6 hw8)
      · exact absurd (nI_le (Nat.le_refl _) (by omega)) h7
    · intro w8 hw8 w6
      have hpc' : mPC (va_up (va_up σ 8 w8) 6 w6) P C := hpc
      refine st_iload_n hc dX12_quarrels_2 rfl rfl ?_
      refine st_aload_n hc dX12_quarrels_3 rfl rfl ?_
      refine st_getE hc dX12_quarrels_4 flX12_16 rfl rfl (h2) ?_
      refine st_icmp_ge (tgt := 40) hc dX12_quarrels_7 (by decide) (fun h7 => ?_) (fun h7 => ?_)
      · exact absurd h7 (nI_ge hcn (by omega))
      · refine st_aload_n hc dX12_quarrels_10 rfl rfl ?_
        refine st_getr hc dX12_quarrels_11 flX12_45 rfl rfl ?_
        refine st_iload_n hc dX12_quarrels_14 rfl rfl ?_
        refine st_aload_n hc dX12_quarrels_15 rfl rfl ?_
        refine st_iload_n hc dX12_quarrels_16 rfl rfl ?_
        refine st_callVp hc dX12_quarrels_17 (C12_isAllowed (d + 1) (va_up (va_up σ 8 w8) 6 w6) hpc' c (by omega) (hls c (by omega))) mvX12_167 (by omega) rfl rfl rfl (Nat.le_of_ble_eq_true rfl) ?_
        refine st_if_eq (tgt := 32) hc dX12_quarrels_20 (by decide) (fun h20 => ?_) (fun h20 => ?_)
        · have eo : okM σ P C c = false := bI_0.mp h20
          refine st_iconst (v := (-1)) hc dX12_quarrels_32 (by decide) ?_
          refine st_iastN (k := c) hc dX12_quarrels_33 rfl (rfl) (by omega) (by decide)  ?_
          rw [vu_put (by decide), vu_up]
          refine st_inc hc dX12_quarrels_34 rfl (by decide) rfl ?_
          rw [nI_1]
          refine st_goto (tgt := 2) hc dX12_quarrels_37 (by decide) ?_
          refine ih _ (fun j hj => ?_) _
          by_cases q : j = c
          · subst q; rw [upd_s, eo]; rfl
          · rw [upd_n q]; exact hw8 j (by omega)
        · have eo : okM σ P C c = true := by
            rcases hb : okM σ P C c with _ | _
            · exact absurd (bI_0.mpr hb) h20
            · rfl
          refine st_aload_n hc dX12_quarrels_23 rfl rfl ?_
          refine st_iload_n hc dX12_quarrels_24 rfl rfl ?_
          refine st_iload_n hc dX12_quarrels_25 rfl rfl ?_
          refine st_callVq hc dX12_quarrels_26 (C12_falseOf d (va_up (va_up σ 8 w8) 6 w6) hpc' c (by omega) T hT2) mvX12_174 (by omega) rfl rfl rfl (Nat.le_of_ble_eq_true rfl) ?_
          rintro _ ⟨w2, rfl⟩
          rw [vu_vu]
          refine st_goto (tgt := 33) hc dX12_quarrels_29 (by decide) ?_
          refine st_iastN (k := c) hc dX12_quarrels_33 rfl (rfl) (by omega) (by decide)  ?_
          rw [vu_put (by decide), vu_up]
          refine st_inc hc dX12_quarrels_34 rfl (by decide) rfl ?_
          rw [nI_1]
          refine st_goto (tgt := 2) hc dX12_quarrels_37 (by decide) ?_
          refine ih _ (fun j hj => ?_) _
          by_cases q : j = c
          · subst q; rw [upd_s, eo]; rfl
          · rw [upd_n q]; exact hw8 j (by omega)
  refine st_iconst (v := 0) hc dX12_quarrels_0 (by decide) ?_
  refine st_istore_n hc dX12_quarrels_1 rfl (by decide) rfl ?_
  have h := k2 (σ 6)
  rw [vu_id, vu_id] at h
  exact st_lvq _ (by simp [lvq, List.set, nI_0]) h
theorem C12_quarrels (d : Nat) (σ : St) {P C N T L : Nat} (hm : mOK σ P C N T L) (hT10 : T ≤ 10) : Mt YM mX12_quarrels (d + 3) [.ref 0, .int (nI T)] σ (fun r τ => r = none ∧ ∃ w8 w6, τ = va_up (va_up (up (va_up σ 5 (qrow (σ 5) T (fun t => (qSet σ P C N T L).testBit t))) 0 13 (nI (cnt T (fun t => (qSet σ P C N T L).testBit t)))) 8 w8) 6 w6) :=
  Mt.ofA [some (.ref 0), some (.int (nI T)), none, none, none, none] (by decide) (fun _ => Nat.le_of_ble_eq_true rfl) (fun _ => rfl) (fun _ hc => W12_quarrels hc hm hT10 (fun w8 w6 => ⟨rfl, w8, w6, rfl⟩))
theorem qbst_sE {σ τ : St} (h : sE σ τ) (P C N T L : Nat) : ∀ s, qbst τ P C N T L s = qbst σ P C N T L s := by
  have hp : ∀ s, qP τ P C T L s = qP σ P C T L s := by
    intro s
    funext c
    simp only [qP, okM, fbM, h.c 1 (by decide) rfl, h.c 3 (by decide) rfl, h.c 4 (by decide) rfl, h 0 3 rfl, h 0 4 rfl]
  have hb : ∀ s, qB τ P C N T L s = qB σ P C N T L s := fun s => by unfold qB; rw [hp]
  intro s
  induction s with
  | zero => rfl
  | succ s ih => rw [qbst, qbst, ih, hb]
theorem qSet_sE {σ τ : St} (h : sE σ τ) (P C N T L : Nat) : qSet τ P C N T L = qSet σ P C N T L := by
  unfold qSet
  rw [qbst_sE h]
/-- the reference with one turn more -/
abbrev tlS (σ : St) (a : Int32) : St := up (up (va_up (t0 σ) 3 (rng (5 * tN σ) (pN σ) (σ 2) (σ 3))) 4 (tN σ) a) 0 9 (nI (tN σ + 1))
abbrev tlL (σ : St) (a : Int32) : Nat := cnt (nN σ) (mL (tlS σ a) (pN σ) (cN σ) (tN σ + 1) (liN σ))
abbrev tlQ (σ : St) (a : Int32) : Nat := qSet (tlS σ a) (pN σ) (cN σ) (nN σ) (tN σ + 1) (liN σ)
def sp_tell (σ : St) (a : Int32) : Int32 × St :=
  if ¬ (0 ≤ a ∧ nat a / 10 + nat a % 10 ≤ pN σ) then (-1, t0 σ) else if tN σ = 10 then (-2, t0 σ) else if 0 < tlL σ a then (nI (tlL σ a), tlS σ a) else
  (-4, up (up (va_up (tlS σ a) 5 (qrow (σ 5) (tN σ + 1) (fun t => (tlQ σ a).testBit t))) 0 13 (nI (cnt (tN σ + 1) (fun t => (tlQ σ a).testBit t)))) 0 9 (nI (tN σ)))
theorem C12_tell (σ : St) (hm : MI σ) (a : Int32) : Mt YM mX12_tell 9 [.ref 0, .int a] σ (fun r τ => r = some (.int (sp_tell σ a).1) ∧ sE (sp_tell σ a).2 τ) := by
  obtain ⟨hm, ht⟩ := hm
  obtain ⟨hpc, h2, h3, h4, hT, hT2, hLi, hL2, hls⟩ := id hm
  obtain ⟨hP, hC, hP1, hP5, hC1, hC8⟩ := id hpc
  refine Mt.ofA [some (.ref 0), some (.int a), none] (by decide) (fun _ => Nat.le_of_ble_eq_true rfl) (fun _ => rfl) (fun g hc => ?_)
  unfold sp_tell
  generalize hQe : (fun r τ => r = some (Value.int (if ¬ (0 ≤ a ∧ nat a / 10 + nat a % 10 ≤ pN σ) then (-1, t0 σ) else if tN σ = 10 then (-2, t0 σ) else if 0 < tlL σ a then (nI (tlL σ a), tlS σ a) else (-4, up (up (va_up (tlS σ a) 5 (qrow (σ 5) (tN σ + 1) (fun t => (tlQ σ a).testBit t))) 0 13 (nI (cnt (tN σ + 1) (fun t => (tlQ σ a).testBit t)))) 0 9 (nI (tN σ)))).1) ∧ sE (if ¬ (0 ≤ a ∧ nat a / 10 + nat a % 10 ≤ pN σ) then (-1, t0 σ) else if tN σ = 10 then (-2, t0 σ) else if 0 < tlL σ a then (nI (tlL σ a), tlS σ a) else (-4, up (up (va_up (tlS σ a) 5 (qrow (σ 5) (tN σ + 1) (fun t => (tlQ σ a).testBit t))) 0 13 (nI (cnt (tN σ + 1) (fun t => (tlQ σ a).testBit t)))) 0 9 (nI (tN σ)))).2 τ) = Q
  have k29 : (0 ≤ a ∧ nat a / 10 + nat a % 10 ≤ pN σ) → ¬ tN σ = 10 → aW g YM 3 Q 29 [some (.ref 0), some (.int a), some (.int (nI 0))] [] (t0 σ) := by
    intro ha hn10
    have h10 : tN σ < 10 := by omega
    have ha' : ¬ ¬ (0 ≤ a ∧ nat a / 10 + nat a % 10 ≤ pN σ) := fun q => q ha
    have hm' : mOK (tlS σ a) (pN σ) (cN σ) (nN σ) (tN σ + 1) (liN σ) := ⟨hpc, h2, h3, h4, rfl, by omega, hLi, hL2, hls⟩
    have hll : tlL σ a ≤ 4096 := Nat.le_trans (cnt_le _ _) h4
    have h := lpN (n := pN σ) (F := fun i => aW g YM 3 Q 29 [some (.ref 0), some (.int a), some (.int (nI i))] [] (va_up (t0 σ) 3 (rng (5 * tN σ) i (σ 2) (σ 3)))) ?_ (fun i hi ih => ?_)
    · rw [rng_0, show va_up (t0 σ) 3 (σ 3) = t0 σ from vu_id (σ := t0 σ)] at h
      exact h
    · refine st_iload_n hc dX12_tell_29 rfl rfl ?_
      refine st_aload_n hc dX12_tell_30 rfl rfl ?_
      refine st_getE hc dX12_tell_31 flX12_7 rfl rfl (hP) ?_
      refine st_icmp_ge (tgt := 62) hc dX12_tell_34 (by decide) (fun h34 => ?_) (fun h34 => ?_)
      · refine st_aload_n hc dX12_tell_62 rfl rfl ?_
        refine st_getr hc dX12_tell_63 flX12_30 rfl rfl ?_
        refine st_aload_n hc dX12_tell_66 rfl rfl ?_
        refine st_getE hc dX12_tell_67 flX12_171 rfl rfl (hT) ?_
        refine st_iload_n hc dX12_tell_70 rfl rfl ?_
        refine st_iastN (k := tN σ) hc dX12_tell_71 rfl (rfl) (by omega) (by decide)  ?_
        refine st_aload_n hc dX12_tell_72 rfl rfl ?_
        refine st_dup hc dX12_tell_73 rfl ?_
        refine st_getE hc dX12_tell_74 flX12_171 rfl rfl (hT) ?_
        refine st_iconst (v := 1) hc dX12_tell_77 (by decide) ?_
        refine st_iadd hc dX12_tell_78 ?_
        rw [nI_1]
        refine st_put hc dX12_tell_79 fpX12_171 rfl rfl  ?_
        refine st_aload_n hc dX12_tell_82 rfl rfl ?_
        refine st_callVn hc dX12_tell_83 (C12_look 3 (tlS σ a) hm') mvX12_208 (by omega) rfl rfl rfl (Nat.le_of_ble_eq_true rfl) ?_
        rintro _ ⟨F, w, hF, rfl⟩
        refine st_aload_n hc dX12_tell_86 rfl rfl ?_
        refine st_getE hc dX12_tell_87 flX12_164 rfl rfl (show _ = nI (tlL σ a) from rfl) ?_
        refine st_if_le (tgt := 98) hc dX12_tell_90 (by decide) (fun h90 => ?_) (fun h90 => ?_)
        · have h90 : ¬ 0 < tlL σ a := fun q => nI_nle q (by omega) h90
          refine st_aload_n hc dX12_tell_98 rfl rfl ?_
          refine st_aload_n hc dX12_tell_99 rfl rfl ?_
          refine st_getE hc dX12_tell_100 flX12_171 rfl rfl (show _ = nI (tN σ + 1) from rfl) ?_
          refine st_callVn hc dX12_tell_103 (C12_quarrels 3 (lkS (tlS σ a) (tlL σ a) F w) (P := pN σ) (C := cN σ) (N := nN σ) (T := tN σ + 1) (L := liN σ) hm' (by omega)) mvX12_220 (by omega) rfl rfl rfl (Nat.le_of_ble_eq_true rfl) ?_
          rintro _ ⟨w8, w6, rfl⟩
          refine st_aload_n hc dX12_tell_106 rfl rfl ?_
          refine st_dup hc dX12_tell_107 rfl ?_
          refine st_getE hc dX12_tell_108 flX12_171 rfl rfl (show _ = nI (tN σ + 1) from rfl) ?_
          refine st_iconst (v := 1) hc dX12_tell_111 (by decide) ?_
          refine st_isub hc dX12_tell_112 ?_
          rw [nI_pred]
          refine st_put hc dX12_tell_113 fpX12_171 rfl rfl  ?_
          refine st_bipush (v := (-4)) hc dX12_tell_116 (by decide) ?_
          refine st_iret (st := []) hc dX12_tell_118 rfl ?_
          rw [← hQe, if_neg ha', if_neg hn10, if_neg h90]
          refine ⟨rfl, ?_⟩
          have hE : sE (tlS σ a) (lkS (tlS σ a) (tlL σ a) F w) := sE.lk _ _ _ _
          have eq : qSet (lkS (tlS σ a) (tlL σ a) F w) (pN σ) (cN σ) (nN σ) (tN σ + 1) (liN σ) = tlQ σ a := qSet_sE hE _ _ _ _ _
          rw [eq]
          exact ((((hE.vu 5 _).up 0 13 _).v rfl (by decide) w8).v rfl (by decide) w6).up 0 9 _
        · have h90 : 0 < tlL σ a := Nat.pos_of_ne_zero (fun q => h90 (by rw [q]; decide))
          refine st_aload_n hc dX12_tell_93 rfl rfl ?_
          refine st_getE hc dX12_tell_94 flX12_164 rfl rfl (show _ = nI (tlL σ a) from rfl) ?_
          refine st_iret (st := []) hc dX12_tell_97 rfl ?_
          rw [← hQe, if_neg ha', if_neg hn10, if_pos h90]; exact ⟨rfl, sE.lk _ _ _ _⟩
      · exact absurd (nI_le (Nat.le_refl _) (by omega)) h34
    · refine st_iload_n hc dX12_tell_29 rfl rfl ?_
      refine st_aload_n hc dX12_tell_30 rfl rfl ?_
      refine st_getE hc dX12_tell_31 flX12_7 rfl rfl (hP) ?_
      refine st_icmp_ge (tgt := 62) hc dX12_tell_34 (by decide) (fun h34 => ?_) (fun h34 => ?_)
      · exact absurd h34 (nI_ge hi (by omega))
      · refine st_aload_n hc dX12_tell_37 rfl rfl ?_
        refine st_getr hc dX12_tell_38 flX12_27 rfl rfl ?_
        refine st_iconst (v := 5) hc dX12_tell_41 (by decide) ?_
        refine st_aload_n hc dX12_tell_42 rfl rfl ?_
        refine st_getE hc dX12_tell_43 flX12_171 rfl rfl (hT) ?_
        refine st_imul hc dX12_tell_46 ?_
        refine st_iload_n hc dX12_tell_47 rfl rfl ?_
        refine st_iadd hc dX12_tell_48 ?_
        refine st_aload_n hc dX12_tell_49 rfl rfl ?_
        refine st_getr hc dX12_tell_50 flX12_23 rfl rfl ?_
        refine st_iload_n hc dX12_tell_53 rfl rfl ?_
        refine st_ialdN (k := i) hc dX12_tell_54 rfl (rfl) (by omega) (by decide) (show _ = σ 2 i from rfl) ?_
        refine st_iastN (k := 5 * tN σ + i) hc dX12_tell_55 rfl (by rw [show (5 : Int32) = nI 5 from rfl, pk_mul, nI_add]) (by omega) (by decide)  ?_
        rw [vu_up, rng_s]
        refine st_inc hc dX12_tell_56 rfl (by decide) rfl ?_
        rw [nI_1]
        refine st_goto (tgt := 29) hc dX12_tell_59 (by decide) ?_
        exact ih
  refine st_aload_n hc dX12_tell_0 rfl rfl ?_
  refine st_iconst (v := 0) hc dX12_tell_1 (by decide) ?_
  refine st_put hc dX12_tell_2 fpX12_139 rfl rfl  ?_
  refine st_aload_n hc dX12_tell_5 rfl rfl ?_
  refine st_iload_n hc dX12_tell_6 rfl rfl ?_
  refine st_callVp hc dX12_tell_7 (C12_mayAnswer 0 (t0 σ) (P := pN σ) hP hP5 a) mvX12_217 (by omega) rfl rfl rfl (Nat.le_of_ble_eq_true rfl) ?_
  refine st_if_ne (tgt := 15) hc dX12_tell_10 (by decide) (fun h10 => ?_) (fun h10 => ?_)
  · have h10 : 0 ≤ a ∧ nat a / 10 + nat a % 10 ≤ pN σ := by
      rcases hb : decide (0 ≤ a ∧ nat a / 10 + nat a % 10 ≤ pN σ) with _ | _
      · exact absurd (bI_0.mpr hb) h10
      · exact of_decide_eq_true hb
    refine st_aload_n hc dX12_tell_15 rfl rfl ?_
    refine st_getE hc dX12_tell_16 flX12_171 rfl rfl (hT) ?_
    refine st_bipush (v := 10) hc dX12_tell_19 (by decide) ?_
    refine st_icmp_ne (tgt := 27) hc dX12_tell_21 (by decide) (fun h21 => ?_) (fun h21 => ?_)
    · have h21 : ¬ tN σ = 10 := fun q => h21 (by rw [q]; rfl)
      refine st_iconst (v := 0) hc dX12_tell_27 (by decide) ?_
      refine st_istore_n hc dX12_tell_28 rfl (by decide) rfl ?_
      exact st_lvq _ (by simp [lvq, List.set, nI_0]) (k29 h10 h21)
    · have h21 : tN σ = 10 := nI_inj (b := 10) (by omega) (by decide) h21
      refine st_bipush (v := (-2)) hc dX12_tell_24 (by decide) ?_
      refine st_iret (st := []) hc dX12_tell_26 rfl ?_
      rw [← hQe, if_neg (fun q => q h10), if_pos h21]; exact ⟨rfl, sE.rf⟩
  · have h10 : ¬ (0 ≤ a ∧ nat a / 10 + nat a % 10 ≤ pN σ) := of_decide_eq_false (bI_0.mp h10)
    refine st_iconst (v := (-1)) hc dX12_tell_13 (by decide) ?_
    refine st_iret (st := []) hc dX12_tell_14 rfl ?_
    rw [← hQe, if_pos h10]; exact ⟨rfl, sE.rf⟩

