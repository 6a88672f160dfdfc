theorem aW_st {g : Gx} {Y : List Sh} {nL : Nat} {Q : Option Value → St → Prop} {pc : Nat} {lv : List (Option Value)} {st : List Value} {σ τ : St} (h : σ = τ) (k : aW g Y nL Q pc lv st τ) : aW g Y nL Q pc lv st σ := h ▸ k
theorem upd_upd {f : Nat → Int32} {i : Nat} {x y : Int32} : upd (upd f i x) i y = upd f i y := by
  funext j
  unfold upd
  by_cases e : j = i <;> simp [e]
theorem vu_put {σ : St} {k j i : Nat} {x : Int32} {w : Nat → Int32} (h : j ≠ k) : up (va_up σ k w) j i x = va_up (up σ j i x) k w := by
  funext a
  unfold up va_up
  by_cases e : a = j
  · subst e; simp [h]
  · simp [e]
theorem up_up {σ : St} {k i : Nat} {x y : Int32} : up (up σ k i x) k i y = up σ k i y := by
  funext a
  unfold up va_up
  by_cases e : a = k
  · subst e; simp [upd_upd]
  · simp [e]
theorem upd_id {f : Nat → Int32} {i : Nat} : upd f i (f i) = f := by
  funext j
  unfold upd
  by_cases e : j = i <;> simp [e]
theorem cnt_mono {i j : Nat} (p : Nat → Bool) (h : i ≤ j) : cnt i p ≤ cnt j p := by
  induction j with
  | zero => have : i = 0 := by omega
            subst this; exact Nat.le_refl _
  | succ j ih =>
    by_cases e : i = j + 1
    · subst e; exact Nat.le_refl _
    · have := ih (by omega)
      have e2 : cnt (j + 1) p = cnt j p + (if p j then 1 else 0) := rfl
      rw [e2]
      exact Nat.le_trans this (Nat.le_add_right _ _)
theorem cnt_lt {i j : Nat} {p : Nat → Bool} (h : i < j) (hp : p i = true) : cnt i p < cnt j p := by
  have h1 : cnt (i + 1) p = cnt i p + 1 := by rw [cnt]; simp [hp]
  have := cnt_mono p (show i + 1 ≤ j from h)
  omega
def bI (b : Bool) : Int32 := if b then 1 else 0
theorem bI_01 (b : Bool) : bI b = 0 ∨ bI b = 1 := by cases b <;> simp [bI]
theorem bI_0 {b : Bool} : bI b = 0 ↔ b = false := by cases b <;> simp [bI]
theorem bI_1 {b : Bool} : bI b = 1 ↔ b = true := by cases b <;> simp [bI]
theorem bI_n (b : Bool) : bI b = nI (if b = true then 1 else 0) := by cases b <;> rfl
theorem lg0 {a b : Nat} (ha : a < 2 ^ 31) (hb : b < 2 ^ 31) : lg_cmp (lN a) (lN b) = 0 ↔ a = b := by
  unfold lg_cmp
  by_cases e : a = b
  · subst e; simp [Int64.lt_irrefl]
  · have : ¬ lN a = lN b := fun q => e ((lN_eq ha hb).mp q)
    simp only [this, if_false, e, iff_false]
    split <;> decide
theorem lg_0 (x y : Int64) : lg_cmp x y = 0 ↔ x = y := by
  unfold lg_cmp
  by_cases e : x = y
  · subst e; simp [Int64.lt_irrefl]
  · simp only [e, if_false, iff_false]
    split <;> decide
/-- the sum of a code's colours is what was told -/
theorem sum_told {s : Nat} (hs : s < 2 ^ 31) (t : Int32) : (lN s = t.toInt64) ↔ nI s = t := by
  rw [← nI_l hs]
  constructor
  · intro h
    have := congrArg Int64.toInt32 h
    simpa using this
  · intro h; rw [h]
theorem W12_isAllowed {g : Gx} {d : Nat} {σ : St} {Q : Option Value → St → Prop} {P C code : Nat} (hc : cX g YM RX12 cX12_isAllowed 7 (some .boolean) (d + 1)) (hm : mPC σ P C) (hcode : code < 4096) (hli : σ 1 code = 0 ∨ σ 1 code = 1) (hQ : Q (some (.int (bI (okLaw P C (σ 0 3) (σ 0 4) (σ 1) code)))) σ) : aW g YM 7 Q 0 [some (.ref 0), some (.int (nI code)), none, none, none, none, none] [] σ := by
  obtain ⟨h1, h2, h3, h4, h5, h6⟩ := id hm
  have hpl : ∀ i, pegOf P C code i < 8 := fun i => Nat.lt_of_lt_of_le (pegOf_lt h5 code i) h6
  have hsl : ∀ i, sumN i (pegOf P C code) ≤ i * 8 := fun i => sumN_le (fun j _ => Nat.le_of_lt (hpl j))
  have k32 : σ 0 3 ≠ 0 → σ 0 3 ≠ 3 → aW g YM 7 Q 32 [some (.ref 0), some (.int (nI code)), some (.long (lN 0)), none, some (.int (bI false)), some (.int (nI 0)), none] [] σ := by
    intro l0 l3
    refine lpN (n := P) (F := fun i => aW g YM 7 Q 32 [some (.ref 0), some (.int (nI code)), some (.long (lN (sumN i (pegOf P C code)))), none, some (.int (bI (anyN i (fun i => anyN i (fun k => pegOf P C code i == pegOf P C code k))))), some (.int (nI i)), none] [] σ) ?_ (fun i hi ih => ?_)
    · have hs := hsl P
      refine st_iload hc dX12_isAllowed_32 rfl ?_
      refine st_aload_n hc dX12_isAllowed_34 rfl rfl ?_
      refine st_getE hc dX12_isAllowed_35 flX12_7 rfl rfl (h1) ?_
      refine st_icmp_ge (tgt := 103) hc dX12_isAllowed_38 (by decide) (fun h38 => ?_) (fun h38 => ?_)
      · refine st_aload_n hc dX12_isAllowed_103 rfl rfl ?_
        refine st_getE hc dX12_isAllowed_104 flX12_150 rfl rfl rfl ?_
        refine st_iconst (v := 1) hc dX12_isAllowed_107 (by decide) ?_
        refine st_icmp_ne (tgt := 124) hc dX12_isAllowed_108 (by decide) (fun h108 => ?_) (fun h108 => ?_)
        · have ok : okLaw P C (σ 0 3) (σ 0 4) (σ 1) code = (nI (sumC P C code) == σ 0 4) := by unfold okLaw; simp [l0, l3, h108]
          refine st_lload_n hc dX12_isAllowed_124 rfl rfl ?_
          refine st_aload_n hc dX12_isAllowed_125 rfl rfl ?_
          refine st_getE hc dX12_isAllowed_126 flX12_153 rfl rfl rfl ?_
          refine st_i2l hc dX12_isAllowed_129 ?_
          refine st_lcmp hc dX12_isAllowed_130 ?_
          refine st_t_if_ne (a := 1) (b := 0) hc dX12_isAllowed_131 dX12_isAllowed_134 dX12_isAllowed_135 dX12_isAllowed_138 (by decide) (by decide) ?_
          rw [show (if lg_cmp (lN (sumN P (pegOf P C code))) (σ 0 4).toInt64 = 0 then (1 : Int32) else 0) = bI (nI (sumC P C code) == σ 0 4) by unfold bI; simp only [lg_0, sum_told (show sumN P (pegOf P C code) < 2 ^ 31 by omega)]; simp [sumC]]
          rw [ok] at hQ
          refine st_zret (st := []) hc dX12_isAllowed_139 rfl (by first | exact bI_01 _ | simp) ?_
          exact hQ
        · have ok : okLaw P C (σ 0 3) (σ 0 4) (σ 1) code = !twiceC P C code := by unfold okLaw; simp [l0, l3, h108]
          refine st_iload hc dX12_isAllowed_111 rfl ?_
          refine st_if_ne (tgt := 120) hc dX12_isAllowed_113 (by decide) (fun h113 => ?_) (fun h113 => ?_)
          · have e : twiceC P C code = true := by rcases hb : twiceC P C code with _ | _; exact absurd (bI_0.mpr hb) h113; rfl
            rw [ok, e] at hQ
            refine st_iconst (v := 0) hc dX12_isAllowed_120 (by decide) ?_
            refine st_goto (tgt := 139) hc dX12_isAllowed_121 (by decide) ?_
            refine st_zret (st := []) hc dX12_isAllowed_139 rfl (by first | exact bI_01 _ | simp) ?_
            exact hQ
          · have e : twiceC P C code = false := bI_0.mp h113
            rw [ok, e] at hQ
            refine st_iconst (v := 1) hc dX12_isAllowed_116 (by decide) ?_
            refine st_goto (tgt := 139) hc dX12_isAllowed_117 (by decide) ?_
            refine st_zret (st := []) hc dX12_isAllowed_139 rfl (by first | exact bI_01 _ | simp) ?_
            exact hQ
      · exact absurd (nI_le (Nat.le_refl _) (by omega)) h38
    · have hs := hsl i
      have k55 : aW g YM 7 Q 55 [some (.ref 0), some (.int (nI code)), some (.long (lN (sumN (i + 1) (pegOf P C code)))), none, some (.int (bI (anyN i (fun i => anyN i (fun k => pegOf P C code i == pegOf P C code k)) || false))), some (.int (nI i)), some (.int (nI 0))] [] σ := by
        refine lpN (n := i) (F := fun k => aW g YM 7 Q 55 [some (.ref 0), some (.int (nI code)), some (.long (lN (sumN (i + 1) (pegOf P C code)))), none, some (.int (bI (anyN i (fun i => anyN i (fun k => pegOf P C code i == pegOf P C code k)) || anyN k (fun k => pegOf P C code i == pegOf P C code k)))), some (.int (nI i)), some (.int (nI k))] [] σ) ?_ (fun k hk ih2 => ?_)
        · refine st_iload hc dX12_isAllowed_55 rfl ?_
          refine st_iload hc dX12_isAllowed_57 rfl ?_
          refine st_icmp_ge (tgt := 97) hc dX12_isAllowed_59 (by decide) (fun h59 => ?_) (fun h59 => ?_)
          · refine st_inc hc dX12_isAllowed_97 rfl (by decide) rfl ?_
            rw [nI_1]
            refine st_goto (tgt := 32) hc dX12_isAllowed_100 (by decide) ?_
            exact st_lvq _ (by simp [lvq, List.set, anyN]) ih
          · exact absurd (nI_le (Nat.le_refl _) (by omega)) h59
        · refine st_iload hc dX12_isAllowed_55 rfl ?_
          refine st_iload hc dX12_isAllowed_57 rfl ?_
          refine st_icmp_ge (tgt := 97) hc dX12_isAllowed_59 (by decide) (fun h59 => ?_) (fun h59 => ?_)
          · exact absurd h59 (nI_ge hk (by omega))
          · refine st_iload hc dX12_isAllowed_62 rfl ?_
            refine st_if_ne (tgt := 84) hc dX12_isAllowed_64 (by decide) (fun h64 => ?_) (fun h64 => ?_)
            · have e : (anyN i (fun i => anyN i (fun k => pegOf P C code i == pegOf P C code k)) || anyN k (fun k => pegOf P C code i == pegOf P C code k)) = true := by
                rcases hb : (anyN i (fun i => anyN i (fun k => pegOf P C code i == pegOf P C code k)) || anyN k (fun k => pegOf P C code i == pegOf P C code k)) with _ | _
                · exact absurd (bI_0.mpr hb) h64
                · rfl
              refine st_iconst (v := 1) hc dX12_isAllowed_84 (by decide) ?_
              refine st_goto (tgt := 89) hc dX12_isAllowed_85 (by decide) ?_
              refine st_istore hc dX12_isAllowed_89 (by decide) rfl ?_
              refine st_inc hc dX12_isAllowed_91 rfl (by decide) rfl ?_
              rw [nI_1]
              refine st_goto (tgt := 55) hc dX12_isAllowed_94 (by decide) ?_
              refine st_lvq _ ?_ ih2
              have e3 := nI_eq (show pegOf P C code i < 2 ^ 31 from Nat.lt_trans (hpl i) (by decide)) (show pegOf P C code k < 2 ^ 31 from Nat.lt_trans (hpl k) (by decide))
              rw [anyN, ← Bool.or_assoc, e]
              simp [lvq, List.set, bI, e3]
            · have e := bI_0.mp h64
              refine st_aload_n hc dX12_isAllowed_67 rfl rfl ?_
              refine st_iload_n hc dX12_isAllowed_68 rfl rfl ?_
              refine st_iload hc dX12_isAllowed_69 rfl ?_
              refine st_callVp hc dX12_isAllowed_71 (C12_peg0 d σ h1 h2 h4 h5 h6 code i hi (by omega)) mvX12_146 (by omega) rfl rfl rfl (Nat.le_of_ble_eq_true rfl) ?_
              refine st_aload_n hc dX12_isAllowed_74 rfl rfl ?_
              refine st_iload_n hc dX12_isAllowed_75 rfl rfl ?_
              refine st_iload hc dX12_isAllowed_76 rfl ?_
              refine st_callVp hc dX12_isAllowed_78 (C12_peg0 d σ h1 h2 h4 h5 h6 code k (by omega) (by omega)) mvX12_146 (by omega) rfl rfl rfl (Nat.le_of_ble_eq_true rfl) ?_
              refine st_t_icmp_ne (a := 1) (b := 0) hc dX12_isAllowed_81 dX12_isAllowed_84 dX12_isAllowed_85 dX12_isAllowed_88 (by decide) (by decide) ?_
              refine st_istore hc dX12_isAllowed_89 (by decide) rfl ?_
              refine st_inc hc dX12_isAllowed_91 rfl (by decide) rfl ?_
              rw [nI_1]
              refine st_goto (tgt := 55) hc dX12_isAllowed_94 (by decide) ?_
              refine st_lvq _ ?_ ih2
              have e3 := nI_eq (show pegOf P C code i < 2 ^ 31 from Nat.lt_trans (hpl i) (by decide)) (show pegOf P C code k < 2 ^ 31 from Nat.lt_trans (hpl k) (by decide))
              rw [anyN, ← Bool.or_assoc, e]
              simp [lvq, List.set, bI, e3]
      refine st_iload hc dX12_isAllowed_32 rfl ?_
      refine st_aload_n hc dX12_isAllowed_34 rfl rfl ?_
      refine st_getE hc dX12_isAllowed_35 flX12_7 rfl rfl (h1) ?_
      refine st_icmp_ge (tgt := 103) hc dX12_isAllowed_38 (by decide) (fun h38 => ?_) (fun h38 => ?_)
      · exact absurd h38 (nI_ge hi (by omega))
      · refine st_lload_n hc dX12_isAllowed_41 rfl rfl ?_
        refine st_aload_n hc dX12_isAllowed_42 rfl rfl ?_
        refine st_iload_n hc dX12_isAllowed_43 rfl rfl ?_
        refine st_iload hc dX12_isAllowed_44 rfl ?_
        refine st_callVp hc dX12_isAllowed_46 (C12_peg0 d σ h1 h2 h4 h5 h6 code i hi (by omega)) mvX12_146 (by omega) rfl rfl rfl (Nat.le_of_ble_eq_true rfl) ?_
        refine st_i2l hc dX12_isAllowed_49 ?_
        rw [nI_l (Nat.lt_trans (hpl i) (by decide))]
        refine st_ladd hc dX12_isAllowed_50 ?_
        rw [lN_add]
        refine st_lstore_n hc dX12_isAllowed_51 rfl (by decide) rfl ?_
        refine st_iconst (v := 0) hc dX12_isAllowed_52 (by decide) ?_
        refine st_istore hc dX12_isAllowed_53 (by decide) rfl ?_
        exact st_lvq _ (by simp [lvq, List.set, sumN, nI_0]) k55
  refine st_aload_n hc dX12_isAllowed_0 rfl rfl ?_
  refine st_getE hc dX12_isAllowed_1 flX12_150 rfl rfl rfl ?_
  refine st_if_ne (tgt := 9) hc dX12_isAllowed_4 (by decide) (fun h4 => ?_) (fun h4 => ?_)
  · refine st_aload_n hc dX12_isAllowed_9 rfl rfl ?_
    refine st_getE hc dX12_isAllowed_10 flX12_150 rfl rfl rfl ?_
    refine st_iconst (v := 3) hc dX12_isAllowed_13 (by decide) ?_
    refine st_icmp_ne (tgt := 24) hc dX12_isAllowed_14 (by decide) (fun h14 => ?_) (fun h14 => ?_)
    · refine st_lconst (v := 0) hc dX12_isAllowed_24 (by decide) ?_
      refine st_lstore_n hc dX12_isAllowed_25 rfl (by decide) rfl ?_
      refine st_iconst (v := 0) hc dX12_isAllowed_26 (by decide) ?_
      refine st_istore hc dX12_isAllowed_27 (by decide) rfl ?_
      refine st_iconst (v := 0) hc dX12_isAllowed_29 (by decide) ?_
      refine st_istore hc dX12_isAllowed_30 (by decide) rfl ?_
      exact k32 h4 h14
    · have ok : bI (okLaw P C (σ 0 3) (σ 0 4) (σ 1) code) = σ 1 code := by unfold okLaw; rw [h14]; rcases hli with h | h <;> simp [h, bI]
      rw [ok] at hQ
      refine st_aload_n hc dX12_isAllowed_17 rfl rfl ?_
      refine st_getr hc dX12_isAllowed_18 flX12_19 rfl rfl ?_
      refine st_iload_n hc dX12_isAllowed_21 rfl rfl ?_
      refine st_zaldN (k := code) hc dX12_isAllowed_22 rfl (rfl) (by omega) (by decide) rfl ?_
      refine st_zret (st := []) hc dX12_isAllowed_23 rfl (hli) ?_
      exact hQ
  · have ok : okLaw P C (σ 0 3) (σ 0 4) (σ 1) code = true := by unfold okLaw; simp [h4]
    rw [ok] at hQ
    refine st_iconst (v := 1) hc dX12_isAllowed_7 (by decide) ?_
    refine st_zret (st := []) hc dX12_isAllowed_8 rfl (by simp) ?_
    exact hQ
theorem C12_isAllowed (d : Nat) (σ : St) {P C : Nat} (hm : mPC σ P C) (code : Nat) (hcode : code < 4096) (hli : σ 1 code = 0 ∨ σ 1 code = 1) : Mt YM mX12_isAllowed (d + 1) [.ref 0, .int (nI code)] σ (fun r τ => r = some (.int (bI (okLaw P C (σ 0 3) (σ 0 4) (σ 1) code))) ∧ τ = σ) :=
  Mt.ofA [some (.ref 0), some (.int (nI code)), none, none, none, none, none] (by decide) (fun _ => Nat.le_of_ble_eq_true rfl) (fun _ => rfl) (fun _ hc => W12_isAllowed hc hm hcode hli ⟨rfl, rfl⟩)
/-! what is left -/
/-- the code is left: allowed, and false for no more turns than there are lies -/
def isL (P C : Nat) (law told : Int32) (listed pegs answers : Nat → Int32) (turns lies code : Nat) : Bool :=
  okLaw P C law told listed code && decide (ones (fbits turns (isF P C pegs answers code)) ≤ lies)
/-- the reference's numbers: places, colours, codes, turns, lies -/
def mOK (σ : St) (P C N T L : Nat) : Prop := mPC σ P C ∧ σ 0 2 = nI N ∧ N = C ^ P ∧ N ≤ 4096 ∧ σ 0 9 = nI T ∧ T ≤ 11 ∧ σ 0 5 = nI L ∧ L ≤ 2 ∧ ∀ c, c < 4096 → σ 1 c = 0 ∨ σ 1 c = 1
abbrev mL (σ : St) (P C T L : Nat) : Nat → Bool := isL P C (σ 0 3) (σ 0 4) (σ 1) (σ 3) (σ 4) T L
theorem W12_allowed {g : Gx} {d : Nat} {σ : St} {Q : Option Value → St → Prop} {P C N T L : Nat} (hc : cX g YM RX12 cX12_allowed 3 (some .int) (d + 2)) (hm : mOK σ P C N T L) (hQ : Q (some (.int (nI (cnt N (okLaw P C (σ 0 3) (σ 0 4) (σ 1)))))) σ) : aW g YM 3 Q 0 [some (.ref 0), none, none] [] σ := by
  obtain ⟨hpc, h2, -, h3, -, -, -, -, h4⟩ := id hm
  have k4 : aW g YM 3 Q 4 [some (.ref 0), some (.int (nI 0)), some (.int (nI 0))] [] σ := by
    refine lpN (n := N) (F := fun c => aW g YM 3 Q 4 [some (.ref 0), some (.int (nI (cnt c (okLaw P C (σ 0 3) (σ 0 4) (σ 1))))), some (.int (nI c))] [] σ) ?_ (fun c hcc ih => ?_)
    · refine st_iload_n hc dX12_allowed_4 rfl rfl ?_
      refine st_aload_n hc dX12_allowed_5 rfl rfl ?_
      refine st_getE hc dX12_allowed_6 flX12_16 rfl rfl (h2) ?_
      refine st_icmp_ge (tgt := 34) hc dX12_allowed_9 (by decide) (fun h9 => ?_) (fun h9 => ?_)
      · refine st_iload_n hc dX12_allowed_34 rfl rfl ?_
        refine st_iret (st := []) hc dX12_allowed_35 rfl ?_
        exact hQ
      · exact absurd (nI_le (Nat.le_refl _) (by omega)) h9
    · refine st_iload_n hc dX12_allowed_4 rfl rfl ?_
      refine st_aload_n hc dX12_allowed_5 rfl rfl ?_
      refine st_getE hc dX12_allowed_6 flX12_16 rfl rfl (h2) ?_
      refine st_icmp_ge (tgt := 34) hc dX12_allowed_9 (by decide) (fun h9 => ?_) (fun h9 => ?_)
      · exact absurd h9 (nI_ge hcc (by omega))
      · refine st_iload_n hc dX12_allowed_12 rfl rfl ?_
        refine st_aload_n hc dX12_allowed_13 rfl rfl ?_
        refine st_iload_n hc dX12_allowed_14 rfl rfl ?_
        refine st_callVp hc dX12_allowed_15 (C12_isAllowed d σ hpc c (by omega) (h4 c (by omega))) mvX12_167 (by omega) rfl rfl rfl (Nat.le_of_ble_eq_true rfl) ?_
        refine st_t_if_eq (a := 1) (b := 0) hc dX12_allowed_18 dX12_allowed_21 dX12_allowed_22 dX12_allowed_25 (by decide) (by decide) ?_
        refine st_iadd hc dX12_allowed_26 ?_
        rw [show (if bI (okLaw P C (σ 0 3) (σ 0 4) (σ 1) c) = 0 then (0 : Int32) else 1) = nI (if okLaw P C (σ 0 3) (σ 0 4) (σ 1) c = true then 1 else 0) by cases okLaw P C (σ 0 3) (σ 0 4) (σ 1) c <;> rfl, nI_add]
        refine st_istore_n hc dX12_allowed_27 rfl (by decide) rfl ?_
        refine st_inc hc dX12_allowed_28 rfl (by decide) rfl ?_
        rw [nI_1]
        refine st_goto (tgt := 4) hc dX12_allowed_31 (by decide) ?_
        exact ih
  refine st_iconst (v := 0) hc dX12_allowed_0 (by decide) ?_
  refine st_istore_n hc dX12_allowed_1 rfl (by decide) rfl ?_
  refine st_iconst (v := 0) hc dX12_allowed_2 (by decide) ?_
  refine st_istore_n hc dX12_allowed_3 rfl (by decide) rfl ?_
  exact k4
theorem C12_allowed (d : Nat) (σ : St) {P C N T L : Nat} (hm : mOK σ P C N T L) : Mt YM mX12_allowed (d + 2) [.ref 0] σ (fun r τ => r = some (.int (nI (cnt N (okLaw P C (σ 0 3) (σ 0 4) (σ 1))))) ∧ τ = σ) :=
  Mt.ofA [some (.ref 0), none, none] (by decide) (fun _ => Nat.le_of_ble_eq_true rfl) (fun _ => rfl) (fun _ hc => W12_allowed hc hm ⟨rfl, rfl⟩)
/-- the store behind look(): how many are left, which, and the scratch row of pegs -/
abbrev lkS (σ : St) (n : Nat) (F w : Nat → Int32) : St := va_up (va_up (up σ 0 18 (nI n)) 7 F) 6 w
theorem lk0 (σ : St) (n : Nat) (F w : Nat → Int32) {a b : Nat} (h6 : a ≠ 6) (h7 : a ≠ 7) (h : ¬ (a = 0 ∧ b = 18)) : lkS σ n F w a b = σ a b := by
  unfold lkS
  rw [vu_n h6, vu_n h7, up_eq, if_neg h]
theorem lkc (σ : St) (n : Nat) (F w : Nat → Int32) {a : Nat} (h6 : a ≠ 6) (h7 : a ≠ 7) (h : a ≠ 0) : lkS σ n F w a = σ a := by
  funext b
  exact lk0 σ n F w h6 h7 (fun q => h q.1)
theorem mOK.lk {σ : St} {P C N T L : Nat} (h : mOK σ P C N T L) (n : Nat) (F w : Nat → Int32) : mOK (lkS σ n F w) P C N T L := by
  unfold mOK mPC at *
  simpa [lk0, lkc] using h
theorem mL.lk (σ : St) (n : Nat) (F w : Nat → Int32) (P C T L : Nat) : mL (lkS σ n F w) P C T L = mL σ P C T L := by
  unfold mL
  rw [lk0 σ n F w (by decide) (by decide) (by decide), lk0 σ n F w (by decide) (by decide) (by decide), lkc σ n F w (by decide) (by decide) (by decide), lkc σ n F w (by decide) (by decide) (by decide), lkc σ n F w (by decide) (by decide) (by decide)]
theorem W12_look {g : Gx} {d : Nat} {σ : St} {Q : Option Value → St → Prop} {P C N T L : Nat} (hc : cX g YM RX12 cX12_look 2 none (d + 3)) (hm : mOK σ P C N T L) (hQ : ∀ F w, (∀ c, c < N → mL σ P C T L c = true → F (cnt c (mL σ P C T L)) = nI c) → Q none (lkS σ (cnt N (mL σ P C T L)) F w)) : aW g YM 2 Q 0 [some (.ref 0), none] [] σ := by
  obtain ⟨hpc, h2, -, h3, hT, hT2, hLi, hL2, h4⟩ := id hm
  have k7 : ∀ F w, aW g YM 2 Q 7 [some (.ref 0), some (.int (nI 0))] [] (lkS σ 0 F w) := by
    intro F0 w0
    refine lpN (n := N) (F := fun c => ∀ F w, (∀ j, j < c → mL σ P C T L j = true → F (cnt j (mL σ P C T L)) = nI j) → aW g YM 2 Q 7 [some (.ref 0), some (.int (nI c))] [] (lkS σ (cnt c (mL σ P C T L)) F w)) ?_ (fun c hcc ih => ?_) F0 w0 (fun j hj => absurd hj (Nat.not_lt_zero j))
    · intro F w hF
      refine st_iload_n hc dX12_look_7 rfl rfl ?_
      refine st_aload_n hc dX12_look_8 rfl rfl ?_
      refine st_getE hc dX12_look_9 flX12_16 rfl rfl (h2) ?_
      refine st_icmp_ge (tgt := 71) hc dX12_look_12 (by decide) (fun h12 => ?_) (fun h12 => ?_)
      · refine st_vret (st := []) hc dX12_look_71 rfl ?_
        exact hQ F w hF
      · exact absurd (nI_le (Nat.le_refl _) (by omega)) h12
    · intro F w hF
      have hcl := cnt_le c (mL σ P C T L)
      have hm' := hm.lk (cnt c (mL σ P C T L)) F w
      have eok : okLaw P C (lkS σ (cnt c (mL σ P C T L)) F w 0 3) (lkS σ (cnt c (mL σ P C T L)) F w 0 4) (lkS σ (cnt c (mL σ P C T L)) F w 1) c = okLaw P C (σ 0 3) (σ 0 4) (σ 1) c := rfl
      have efb : fbits T (isF P C (lkS σ (cnt c (mL σ P C T L)) F w 3) (lkS σ (cnt c (mL σ P C T L)) F w 4) c) = fbits T (isF P C (σ 3) (σ 4) c) := rfl
      refine st_iload_n hc dX12_look_7 rfl rfl ?_
      refine st_aload_n hc dX12_look_8 rfl rfl ?_
      refine st_getE hc dX12_look_9 flX12_16 rfl rfl (h2) ?_
      refine st_icmp_ge (tgt := 71) hc dX12_look_12 (by decide) (fun h12 => ?_) (fun h12 => ?_)
      · exact absurd h12 (nI_ge hcc (by omega))
      · refine st_aload_n hc dX12_look_15 rfl rfl ?_
        refine st_iload_n hc dX12_look_16 rfl rfl ?_
        refine st_callVp hc dX12_look_17 (C12_isAllowed (d + 1) _ hm'.1 c (by omega) (hm'.2.2.2.2.2.2.2.2 c (by omega))) mvX12_167 (by omega) rfl rfl rfl (Nat.le_of_ble_eq_true rfl) ?_
        refine st_if_eq (tgt := 65) hc dX12_look_20 (by decide) (fun h20 => ?_) (fun h20 => ?_)
        · have e : mL σ P C T L c = false := by unfold mL isL; rw [show okLaw P C (σ 0 3) (σ 0 4) (σ 1) c = false from bI_0.mp h20]; rfl
          refine st_inc hc dX12_look_65 rfl (by decide) rfl ?_
          rw [nI_1]
          refine st_goto (tgt := 7) hc dX12_look_68 (by decide) ?_
          first
            | (have e2 : cnt (c + 1) (mL σ P C T L) = cnt c (mL σ P C T L) := by rw [cnt]; simp [e]
               rw [e2] at ih
               exact ih F _ (fun j hj hl => by
                 by_cases q : j = c
                 · subst q; rw [e] at hl; cases hl
                 · exact hF j (by omega) hl))
            | (have e2 : cnt (c + 1) (mL σ P C T L) = cnt c (mL σ P C T L) + 1 := by rw [cnt]; simp [e]
               have h9 := ih (upd F (cnt c (mL σ P C T L)) (nI c)) w2 (fun j hj hl => by
                 by_cases q : j = c
                 · subst q; exact upd_s
                 · rw [upd_n]
                   · exact hF j (by omega) hl
                   · exact Nat.ne_of_lt (cnt_lt (by omega) hl))
               rw [e2] at h9
               exact aW_st (by simp (decide := true) only [lkS, vu_up, up_up, vu_put, vu_vu, vu_id, nI_0]) h9)
        · have e1 : okLaw P C (σ 0 3) (σ 0 4) (σ 1) c = true := by rcases hb : okLaw P C (σ 0 3) (σ 0 4) (σ 1) c with _ | _; exact absurd (bI_0.mpr hb) h20; rfl
          refine st_aload_n hc dX12_look_23 rfl rfl ?_
          refine st_iload_n hc dX12_look_24 rfl rfl ?_
          refine st_aload_n hc dX12_look_25 rfl rfl ?_
          refine st_getE hc dX12_look_26 flX12_171 rfl rfl (hT) ?_
          refine st_callVq hc dX12_look_29 (C12_falseOf d _ hm'.1 c (by omega) T hT2) mvX12_174 (by omega) rfl rfl rfl (Nat.le_of_ble_eq_true rfl) ?_
          rintro _ ⟨w2, rfl⟩
          rw [vu_vu]
          refine st_callSp hc dX12_look_32 (C12_ones (d + 1) _ _ (fbits_lt31 (by omega) _)) msX12_177 (by omega) rfl rfl (Nat.le_of_ble_eq_true rfl) ?_
          refine st_aload_n hc dX12_look_35 rfl rfl ?_
          refine st_getE hc dX12_look_36 flX12_180 rfl rfl (hLi) ?_
          refine st_icmp_le (tgt := 45) hc dX12_look_39 (by decide) (fun h39 => ?_) (fun h39 => ?_)
          · have h39 : nI (ones (fbits T (isF P C (σ 3) (σ 4) c))) ≤ nI L := h39
            have e : mL σ P C T L c = true := by
              unfold mL isL
              rw [e1, Bool.true_and]
              exact decide_eq_true ((nI_leI (Nat.lt_of_le_of_lt (cnt_le _ _) (by decide)) (by omega)).mp h39)
            refine st_aload_n hc dX12_look_45 rfl rfl ?_
            refine st_getr hc dX12_look_46 flX12_42 rfl rfl ?_
            refine st_aload_n hc dX12_look_49 rfl rfl ?_
            refine st_getE hc dX12_look_50 flX12_164 rfl rfl rfl ?_
            refine st_iload_n hc dX12_look_53 rfl rfl ?_
            refine st_iastN (k := cnt c (mL σ P C T L)) hc dX12_look_54 rfl (rfl) (by omega) (by decide)  ?_
            refine st_aload_n hc dX12_look_55 rfl rfl ?_
            refine st_dup hc dX12_look_56 rfl ?_
            refine st_getE hc dX12_look_57 flX12_164 rfl rfl (show _ = nI (cnt c (mL σ P C T L)) from rfl) ?_
            refine st_iconst (v := 1) hc dX12_look_60 (by decide) ?_
            refine st_iadd hc dX12_look_61 ?_
            rw [nI_1]
            refine st_put hc dX12_look_62 fpX12_164 rfl rfl  ?_
            refine st_inc hc dX12_look_65 rfl (by decide) rfl ?_
            rw [nI_1]
            refine st_goto (tgt := 7) hc dX12_look_68 (by decide) ?_
            first
              | (have e2 : cnt (c + 1) (mL σ P C T L) = cnt c (mL σ P C T L) := by rw [cnt]; simp [e]
                 rw [e2] at ih
                 exact ih F _ (fun j hj hl => by
                   by_cases q : j = c
                   · subst q; rw [e] at hl; cases hl
                   · exact hF j (by omega) hl))
              | (have e2 : cnt (c + 1) (mL σ P C T L) = cnt c (mL σ P C T L) + 1 := by rw [cnt]; simp [e]
                 have h9 := ih (upd F (cnt c (mL σ P C T L)) (nI c)) w2 (fun j hj hl => by
                   by_cases q : j = c
                   · subst q; exact upd_s
                   · rw [upd_n]
                     · exact hF j (by omega) hl
                     · exact Nat.ne_of_lt (cnt_lt (by omega) hl))
                 rw [e2] at h9
                 exact aW_st (by simp (decide := true) only [lkS, vu_up, up_up, vu_put, vu_vu, vu_id, nI_0]) h9)
          · have h39 : ¬ nI (ones (fbits T (isF P C (σ 3) (σ 4) c))) ≤ nI L := h39
            have e : mL σ P C T L c = false := by
              unfold mL isL
              rw [e1, Bool.true_and]
              exact decide_eq_false (fun q => h39 (nI_le q (by omega)))
            refine st_goto (tgt := 65) hc dX12_look_42 (by decide) ?_
            refine st_inc hc dX12_look_65 rfl (by decide) rfl ?_
            rw [nI_1]
            refine st_goto (tgt := 7) hc dX12_look_68 (by decide) ?_
            first
              | (have e2 : cnt (c + 1) (mL σ P C T L) = cnt c (mL σ P C T L) := by rw [cnt]; simp [e]
                 rw [e2] at ih
                 exact ih F _ (fun j hj hl => by
                   by_cases q : j = c
                   · subst q; rw [e] at hl; cases hl
                   · exact hF j (by omega) hl))
              | (have e2 : cnt (c + 1) (mL σ P C T L) = cnt c (mL σ P C T L) + 1 := by rw [cnt]; simp [e]
                 have h9 := ih (upd F (cnt c (mL σ P C T L)) (nI c)) w2 (fun j hj hl => by
                   by_cases q : j = c
                   · subst q; exact upd_s
                   · rw [upd_n]
                     · exact hF j (by omega) hl
                     · exact Nat.ne_of_lt (cnt_lt (by omega) hl))
                 rw [e2] at h9
                 exact aW_st (by simp (decide := true) only [lkS, vu_up, up_up, vu_put, vu_vu, vu_id, nI_0]) h9)
  refine st_aload_n hc dX12_look_0 rfl rfl ?_
  refine st_iconst (v := 0) hc dX12_look_1 (by decide) ?_
  refine st_put hc dX12_look_2 fpX12_164 rfl rfl  ?_
  refine st_iconst (v := 0) hc dX12_look_5 (by decide) ?_
  refine st_istore_n hc dX12_look_6 rfl (by decide) rfl ?_
  have h9 := k7 (σ 7) (σ 6)
  rw [show lkS σ 0 (σ 7) (σ 6) = up σ 0 18 0 by show va_up (va_up (up σ 0 18 0) 7 (up σ 0 18 0 7)) 6 (up σ 0 18 0 6) = up σ 0 18 0; rw [vu_id, vu_id]] at h9
  exact h9
theorem C12_look (d : Nat) (σ : St) {P C N T L : Nat} (hm : mOK σ P C N T L) : Mt YM mX12_look (d + 3) [.ref 0] σ (fun r τ => r = none ∧ ∃ F w, (∀ c, c < N → mL σ P C T L c = true → F (cnt c (mL σ P C T L)) = nI c) ∧ τ = lkS σ (cnt N (mL σ P C T L)) F w) :=
  Mt.ofA [some (.ref 0), none] (by decide) (fun _ => Nat.le_of_ble_eq_true rfl) (fun _ => rfl) (fun _ hc => W12_look hc hm (fun F w h => ⟨rfl, F, w, h, rfl⟩))

