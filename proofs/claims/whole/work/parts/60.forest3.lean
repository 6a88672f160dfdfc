/-! ===== the class: the forest's answers ===== -/
theorem ubit {s k : Nat} (hs : s < 2 ^ 31) (hk : k < 32) : ((nI s).toUInt32 >>> ((nI k).toUInt32 &&& Int32.toUInt32 31)).toInt32 &&& 1 = nI (if s.testBit k = true then 1 else 0) := by
  rw [nI_ushr (by omega) hk, nI_a1, Nat.testBit_eq_decide_div_mod_eq]
  congr 1
  have := Nat.mod_two_eq_zero_or_one (s / 2 ^ k)
  rcases this with q | q <;> simp [q]
theorem ubit0 {s k : Nat} : nI (if s.testBit k = true then 1 else 0) = 0 ↔ s.testBit k = false := by
  rcases s.testBit k with _ | _
  · simp [nI_0]
  · simp; decide
/-- a forest that stands for t, over a base store -/
def frF (σ0 : St) (b R : Nat) (t : TD) (E : Ent) : Prop := tG t ∧ frD σ0 b t E ∧ enC t E ∧ eN E ≤ R
theorem C1_LS {σ0 : St} {b R SL : Nat} (hY : frY b R SL) {t : TD} {E : Ent} (hF : frF σ0 b R t E) {e p : Nat} (h1 : 1 ≤ e) (h2 : e ≤ 10) (h0 : 0 < p) (hp : p < 2 ^ tn t) {τ : St} (hτ : fmI σ0 b t E τ) : Mt YC mX1_leastSum 44 [.ref b, .int (nI p), .int (nI e)] τ (fun r τ' => r = some (.int (nI (vS (ms t e p)))) ∧ fmI σ0 b t E τ') := C1_leastSum σ0 hY hF.1 hF.2.1 hF.2.2.1 hF.2.2.2 11 e h1 h2 p h0 hp (ones_le p) τ hτ
theorem C1_allMembers (d : Nat) (σ : St) {b R SL : Nat} (hY : frY b R SL) {n : Nat} (hn : σ b 3 = nI n) (h10 : n ≤ 10) : Mt YC mX1_allMembers d [.ref b] σ (fun r τ => r = some (.int (nI (2 ^ n - 1))) ∧ τ = σ) := by
  obtain ⟨y0, -⟩ := hY
  refine Mt.ofA [some (.ref b)] (by decide) (fun _ => Nat.le_of_ble_eq_true rfl) (fun _ => rfl) (fun g hc => ?_)
  refine st_iconst (v := 1) hc dX1_allMembers_0 (by decide) ?_
  refine st_aload_n hc dX1_allMembers_1 rfl rfl ?_
  refine st_getE hc dX1_allMembers_2 flX1_74 y0 rfl (hn) ?_
  refine st_ishl hc dX1_allMembers_5 ?_
  rw [nI_shl1 (by omega)]
  refine st_iconst (v := 1) hc dX1_allMembers_6 (by decide) ?_
  refine st_isub hc dX1_allMembers_7 ?_
  rw [show (1 : Int32) = nI 1 from rfl, nI_sub (Nat.pow_pos (by decide))]
  refine st_iret (st := []) hc dX1_allMembers_8 rfl ?_
  exact ⟨rfl, rfl⟩
def bdN (n x : Nat) : Nat := if x = 0 ∨ n < x then n else x
theorem C1_bounded (d : Nat) (σ : St) {b R SL : Nat} (hY : frY b R SL) {n x : Nat} (hn : σ b 3 = nI n) (h10 : n ≤ 10) (hx : x ≤ 20) : Mt YC mX1_bounded d [.ref b, .int (nI x)] σ (fun r τ => r = some (.int (nI (bdN n x))) ∧ τ = σ) := by
  obtain ⟨y0, -⟩ := hY
  refine Mt.ofA [some (.ref b), some (.int (nI x))] (by decide) (fun _ => Nat.le_of_ble_eq_true rfl) (fun _ => rfl) (fun g hc => ?_)
  refine st_iload_n hc dX1_bounded_0 rfl rfl ?_
  refine st_if_eq (tgt := 12) hc dX1_bounded_1 (by decide) (fun h1 => ?_) (fun h1 => ?_)
  · have e : bdN n x = n := by unfold bdN; rw [if_pos (Or.inl (nI_inj (b := 0) (by omega) (by decide) h1))]
    refine st_aload_n hc dX1_bounded_12 rfl rfl ?_
    refine st_getE hc dX1_bounded_13 flX1_74 y0 rfl (hn) ?_
    refine st_goto (tgt := 20) hc dX1_bounded_16 (by decide) ?_
    refine st_iret (st := []) hc dX1_bounded_20 rfl ?_
    rw [e]
    exact ⟨rfl, rfl⟩
  · have h1 : ¬ x = 0 := fun q => h1 (by rw [q]; rfl)
    refine st_iload_n hc dX1_bounded_4 rfl rfl ?_
    refine st_aload_n hc dX1_bounded_5 rfl rfl ?_
    refine st_getE hc dX1_bounded_6 flX1_74 y0 rfl (hn) ?_
    refine st_icmp_le (tgt := 19) hc dX1_bounded_9 (by decide) (fun h9 => ?_) (fun h9 => ?_)
    · have e : bdN n x = x := by unfold bdN; rw [if_neg (fun q => by have := (nI_leI (by omega) (by omega)).mp h9; omega)]
      refine st_iload_n hc dX1_bounded_19 rfl rfl ?_
      refine st_iret (st := []) hc dX1_bounded_20 rfl ?_
      rw [e]
      exact ⟨rfl, rfl⟩
    · have e : bdN n x = n := by unfold bdN; rw [if_pos (Or.inr (Nat.lt_of_not_le (fun q => h9 (nI_le q (by omega)))))]
      refine st_aload_n hc dX1_bounded_12 rfl rfl ?_
      refine st_getE hc dX1_bounded_13 flX1_74 y0 rfl (hn) ?_
      refine st_goto (tgt := 20) hc dX1_bounded_16 (by decide) ?_
      refine st_iret (st := []) hc dX1_bounded_20 rfl ?_
      rw [e]
      exact ⟨rfl, rfl⟩
theorem all_pos {n : Nat} (h1 : 1 ≤ n) : 0 < 2 ^ n - 1 ∧ 2 ^ n - 1 < 2 ^ n := by
  have : 2 ^ 1 ≤ 2 ^ n := Nat.pow_le_pow_right (by decide) h1
  omega
theorem bd_ok {n x : Nat} (h1 : 1 ≤ n) (h10 : n ≤ 10) : 1 ≤ bdN n x ∧ bdN n x ≤ 10 := by unfold bdN; split <;> omega
/-- the depth as the reference takes it -/
theorem ms_bd {t : TD} (ht : tG t) {x : Nat} : ms t (bdN (tn t) x) (2 ^ tn t - 1) = ms t (if 10 < x then 0 else x) (2 ^ tn t - 1) := by
  obtain ⟨a1, a2⟩ := all_pos ht.2.1
  have ho := ones_all ht.1.1
  have h10 := ht.1.1
  unfold bdN
  by_cases e : x = 0 ∨ tn t < x
  · rw [if_pos e]
    refine ms_sat ht.1 _ a1 a2 _ _ (Or.inr (by omega)) ?_
    split <;> omega
  · rw [if_neg e, if_neg (by omega)]
theorem C1_leastSumWithin {σ0 : St} {b R SL : Nat} (hY : frY b R SL) {t : TD} {E : Ent} (hF : frF σ0 b R t E) {x : Nat} (hx : x ≤ 20) {τ : St} (hτ : fmI σ0 b t E τ) : Mt YC mX1_leastSumWithin 45 [.ref b, .int (nI x)] τ (fun r τ' => r = some (.int (nI (vS (ms t (bdN (tn t) x) (2 ^ tn t - 1))))) ∧ fmI σ0 b t E τ') := by
  obtain ⟨y0, -⟩ := id hY
  obtain ⟨ht, hD0, -, -⟩ := id hF
  have hD := hD0.eq hτ.1
  obtain ⟨a1, a2⟩ := all_pos ht.2.1
  obtain ⟨b1, b2⟩ := bd_ok (x := x) ht.2.1 ht.1.1
  refine Mt.ofA [some (.ref b), some (.int (nI x))] (by decide) (fun _ => Nat.le_of_ble_eq_true rfl) (fun _ => rfl) (fun g hc => ?_)
  refine st_aload_n hc dX1_leastSumWithin_0 rfl rfl ?_
  refine st_aload_n hc dX1_leastSumWithin_1 rfl rfl ?_
  refine st_callVp hc dX1_leastSumWithin_2 (C1_allMembers 1 τ hY hD.2.1 ht.1.1) mvX1_123 (by omega) rfl y0 rfl (Nat.le_of_ble_eq_true rfl) ?_
  refine st_aload_n hc dX1_leastSumWithin_5 rfl rfl ?_
  refine st_iload_n hc dX1_leastSumWithin_6 rfl rfl ?_
  refine st_callVp hc dX1_leastSumWithin_7 (C1_bounded 1 τ hY hD.2.1 ht.1.1 hx) mvX1_126 (by omega) rfl y0 rfl (Nat.le_of_ble_eq_true rfl) ?_
  refine st_callVq hc dX1_leastSumWithin_10 (C1_LS hY hF b1 b2 a1 a2 hτ) mvX1_129 (by omega) rfl y0 rfl (Nat.le_of_ble_eq_true rfl) ?_
  rintro τ1 j1
  refine st_iret (st := []) hc dX1_leastSumWithin_13 rfl ?_
  exact ⟨rfl, j1⟩
theorem C1_shortGuess {σ0 : St} {b R SL : Nat} (hY : frY b R SL) {t : TD} {E : Ent} (hF : frF σ0 b R t E) {s dd : Nat} (hs0 : 0 < s) (hs : s < 2 ^ tn t) (hd1 : 1 ≤ dd) (hd10 : dd ≤ 10) {w : Nat × Nat} (hw : ms t dd s = some w) {τ : St} (hτ : fmI σ0 b t E τ) : Mt YC mX1_shortGuess 48 [.ref b, .int (nI s), .int (nI dd)] τ (fun r τ' => r = some (.int (nI w.2)) ∧ fmI σ0 b t E τ') := by
  obtain ⟨y0, y1, y2, y3, y4, y5, y6, y7, y8, y9, yR, -, -, -⟩ := id hY
  obtain ⟨ht, hD0, hC, hE⟩ := id hF
  have hD := hD0.eq hτ.1
  have h10 := ht.1.1
  have hn := p2n h10
  have hop := ones_pos' h10 hs hs0
  have hol := ones_le s
  obtain ⟨q1, q2, q3⟩ := lbit_ok h10 hs hop
  refine Mt.ofA [some (.ref b), some (.int (nI s)), some (.int (nI dd)), none, none] (by decide) (fun _ => Nat.le_of_ble_eq_true rfl) (fun _ => rfl) (fun g hc => ?_)
  have k47 : ones s ≤ 2 → ∀ k, k ≤ lbit (tn t) s → aW g YC 5 (fun r τ' => r = some (.int (nI w.2)) ∧ fmI σ0 b t E τ') 47 [some (.ref b), some (.int (nI s)), some (.int (nI dd)), some (.int (nI (ones s))), some (.int (nI k))] [] τ := by
    intro ho2
    have hw2 : w.2 = tL t (lbit (tn t) s) := by
      rcases (show ones s = 1 ∨ ones s = 2 by omega) with z | z
      · rw [ms_1 ht hs z] at hw; simp at hw; rw [← hw]
      · rcases Nat.lt_or_ge dd 2 with y | y
        · rw [show dd = 1 by omega, ms_d1 ht hs (by omega)] at hw; simp at hw
        · rw [ms_2 ht hs z (by omega)] at hw; simp at hw; rw [← hw]
    refine fun k hk => lpF (i0 := k) (n := lbit (tn t) s) (F := fun k => aW g YC 5 (fun r τ' => r = some (.int (nI w.2)) ∧ fmI σ0 b t E τ') 47 [some (.ref b), some (.int (nI s)), some (.int (nI dd)), some (.int (nI (ones s))), some (.int (nI k))] [] τ) hk ?_ (fun i hi1 hi ih => ?_)
    · refine st_iload hc dX1_shortGuess_47 rfl ?_
      refine st_aload_n hc dX1_shortGuess_49 rfl rfl ?_
      refine st_getE hc dX1_shortGuess_50 flX1_74 y0 rfl (hD.2.1) ?_
      refine st_icmp_ge (tgt := 79) hc dX1_shortGuess_53 (by decide) (fun h53 => ?_) (fun h53 => ?_)
      · exact absurd h53 (nI_ge q1 (by omega))
      · refine st_iload_n hc dX1_shortGuess_56 rfl rfl ?_
        refine st_iload hc dX1_shortGuess_57 rfl ?_
        refine st_iushr hc dX1_shortGuess_59 ?_
        refine st_iconst (v := 1) hc dX1_shortGuess_60 (by decide) ?_
        refine st_iand hc dX1_shortGuess_61 ?_
        rw [ubit (by omega) (by omega)]
        refine st_if_eq (tgt := 73) hc dX1_shortGuess_62 (by decide) (fun h62 => ?_) (fun h62 => ?_)
        · exact absurd (ubit0.mp h62) (by rw [q2]; decide)
        · refine st_aload_n hc dX1_shortGuess_65 rfl rfl ?_
          refine st_getr hc dX1_shortGuess_66 flX1_11 y0 rfl ?_
          refine st_iload hc dX1_shortGuess_69 rfl ?_
          refine st_ialdN (k := lbit (tn t) s) hc dX1_shortGuess_71 y1 (rfl) (by omega) (by first | decide | omega) (hD.2.2.2.1 _ q1) ?_
          refine st_iret (st := []) hc dX1_shortGuess_72 rfl ?_
          rw [hw2]
          exact ⟨rfl, hτ⟩
    · refine st_iload hc dX1_shortGuess_47 rfl ?_
      refine st_aload_n hc dX1_shortGuess_49 rfl rfl ?_
      refine st_getE hc dX1_shortGuess_50 flX1_74 y0 rfl (hD.2.1) ?_
      refine st_icmp_ge (tgt := 79) hc dX1_shortGuess_53 (by decide) (fun h53 => ?_) (fun h53 => ?_)
      · exact absurd h53 (nI_ge (Nat.lt_trans hi q1) (by omega))
      · refine st_iload_n hc dX1_shortGuess_56 rfl rfl ?_
        refine st_iload hc dX1_shortGuess_57 rfl ?_
        refine st_iushr hc dX1_shortGuess_59 ?_
        refine st_iconst (v := 1) hc dX1_shortGuess_60 (by decide) ?_
        refine st_iand hc dX1_shortGuess_61 ?_
        rw [ubit (by omega) (by omega)]
        refine st_if_eq (tgt := 73) hc dX1_shortGuess_62 (by decide) (fun h62 => ?_) (fun h62 => ?_)
        · refine st_inc hc dX1_shortGuess_73 rfl (by decide) rfl ?_
          rw [nI_1]
          refine st_goto (tgt := 47) hc dX1_shortGuess_76 (by decide) ?_
          exact ih
        · exact absurd (ubit0.mpr (q3 i hi)) h62
  refine st_iload_n hc dX1_shortGuess_0 rfl rfl ?_
  refine st_callSp hc dX1_shortGuess_1 (CJ_bitCount YC 0 τ s (by omega)) msX1_143 (by omega) rfl rfl (Nat.le_of_ble_eq_true rfl) ?_
  rw [pc_ones (by omega)]
  refine st_istore_n hc dX1_shortGuess_4 rfl (by decide) rfl ?_
  refine st_iload_n hc dX1_shortGuess_5 rfl rfl ?_
  refine st_iconst (v := 2) hc dX1_shortGuess_6 (by decide) ?_
  refine st_icmp_le (tgt := 44) hc dX1_shortGuess_7 (by decide) (fun h7 => ?_) (fun h7 => ?_)
  · have h7 := (nI_leI (b := 2) (by omega) (by decide)).mp h7
    refine st_iconst (v := 0) hc dX1_shortGuess_44 (by decide) ?_
    refine st_istore hc dX1_shortGuess_45 (by decide) rfl ?_
    exact k47 h7 0 (Nat.zero_le _)
  · have h7 : 2 < ones s := Nat.lt_of_not_le (fun q => h7 (nI_le (b := 2) q (by decide)))
    have hdd : 2 ≤ dd := by
      rcases Nat.lt_or_ge dd 2 with y | y
      · rw [show dd = 1 by omega, ms_d1 ht hs (by omega)] at hw; simp at hw
      · exact y
    have hsat : ms t (min dd (ones s)) s = ms t dd s := by
      rcases Nat.le_total dd (ones s) with z | z
      · rw [Nat.min_eq_left z]
      · rw [Nat.min_eq_right z]; exact ms_sat ht.1 s hs0 hs _ _ (Or.inr (Nat.le_refl _)) (Or.inr z)
    refine st_aload_n hc dX1_shortGuess_10 rfl rfl ?_
    refine st_iload_n hc dX1_shortGuess_11 rfl rfl ?_
    refine st_iload_n hc dX1_shortGuess_12 rfl rfl ?_
    refine st_iload_n hc dX1_shortGuess_13 rfl rfl ?_
    refine st_min hc dX1_shortGuess_14 lkmin1_68 (by omega) (Nat.le_of_ble_eq_true rfl) ?_
    rw [min_n (by omega) (by omega)]
    refine st_callV hc dX1_shortGuess_17 (C1_shortOf 44 σ0 hY ht hD0 hC hE hs (by omega) (dd := min dd (ones s)) (by omega) (by omega) (fun p p0 pl _ υ hυ => C1_LS hY hF (by omega) (by omega) p0 pl hυ) τ hτ) mvX1_148 (by omega) rfl y0 rfl (Nat.le_of_ble_eq_true rfl) ?_
    rintro r τ1 ⟨v, er, hv, hf⟩
    subst er
    show aW g YC 5 _ _ _ (.int v :: []) τ1
    rw [hsat, hw] at hv
    obtain ⟨e, e1, e2, e3⟩ := hv
    have hl := ms_le ht.1 _ dd s w (Nat.le_refl _) hs hw
    have hl2 : ones s * ones s ≤ 11 * 11 := Nat.mul_le_mul hol hol
    have hD1 := hD0.eq hf.1
    refine st_istore hc dX1_shortGuess_20 (by decide) rfl ?_
    refine st_iload hc dX1_shortGuess_22 rfl ?_
    refine st_iconst (v := (-1)) hc dX1_shortGuess_24 (by decide) ?_
    refine st_icmp_ne (tgt := 32) hc dX1_shortGuess_25 (by decide) (fun h25 => ?_) (fun h25 => ?_)
    · refine st_aload_n hc dX1_shortGuess_32 rfl rfl ?_
      refine st_getr hc dX1_shortGuess_33 flX1_29 y0 rfl ?_
      refine st_iload hc dX1_shortGuess_36 rfl ?_
      refine st_sipush (v := 2047) hc dX1_shortGuess_38 (by decide) ?_
      refine st_iand hc dX1_shortGuess_41 ?_
      rw [e3, show (2047 : Int32) = nI 2047 from rfl, nI_and, show (2047 : Nat) = 2 ^ 11 - 1 from rfl, Nat.and_two_pow_sub_one_eq_mod, show (w.1 * 2048 + e) % 2 ^ 11 = e by omega]
      refine st_ialdN (k := e) hc dX1_shortGuess_42 y2 (rfl) (by omega) (by first | decide | omega) ((hD1.2.2.2.2 e e1).1) ?_
      refine st_iret (st := []) hc dX1_shortGuess_43 rfl ?_
      rw [e2]
      exact ⟨rfl, hf⟩
    · exact absurd (h25.symm.trans e3) (nI_neg1 (by omega))
theorem C1_firstOfLeastSum {σ0 : St} {b R SL : Nat} (hY : frY b R SL) {t : TD} {E : Ent} (hF : frF σ0 b R t E) {x : Nat} (hx : x ≤ 20) {w : Nat × Nat} (hw : ms t (bdN (tn t) x) (2 ^ tn t - 1) = some w) {τ : St} (hτ : fmI σ0 b t E τ) : Mt YC mX1_firstOfLeastSum 49 [.ref b, .int (nI x)] τ (fun r τ' => r = some (.int (nI w.2)) ∧ fmI σ0 b t E τ') := by
  obtain ⟨y0, -⟩ := id hY
  obtain ⟨ht, hD0, -, -⟩ := id hF
  have hD := hD0.eq hτ.1
  obtain ⟨a1, a2⟩ := all_pos ht.2.1
  obtain ⟨b1, b2⟩ := bd_ok (x := x) ht.2.1 ht.1.1
  refine Mt.ofA [some (.ref b), some (.int (nI x))] (by decide) (fun _ => Nat.le_of_ble_eq_true rfl) (fun _ => rfl) (fun g hc => ?_)
  refine st_aload_n hc dX1_firstOfLeastSum_0 rfl rfl ?_
  refine st_aload_n hc dX1_firstOfLeastSum_1 rfl rfl ?_
  refine st_callVp hc dX1_firstOfLeastSum_2 (C1_allMembers 1 τ hY hD.2.1 ht.1.1) mvX1_123 (by omega) rfl y0 rfl (Nat.le_of_ble_eq_true rfl) ?_
  refine st_aload_n hc dX1_firstOfLeastSum_5 rfl rfl ?_
  refine st_iload_n hc dX1_firstOfLeastSum_6 rfl rfl ?_
  refine st_callVp hc dX1_firstOfLeastSum_7 (C1_bounded 1 τ hY hD.2.1 ht.1.1 hx) mvX1_126 (by omega) rfl y0 rfl (Nat.le_of_ble_eq_true rfl) ?_
  refine st_callVq hc dX1_firstOfLeastSum_10 (C1_shortGuess hY hF a1 a2 b1 b2 hw hτ) mvX1_132 (by omega) rfl y0 rfl (Nat.le_of_ble_eq_true rfl) ?_
  rintro τ1 j1
  refine st_iret (st := []) hc dX1_firstOfLeastSum_13 rfl ?_
  exact ⟨rfl, j1⟩
theorem md_1 {t : TD} (ht : tOK t) {s : Nat} (hs : s < 2 ^ tn t) {w : Nat × Nat} (h : md t s = some w) : 1 ≤ w.1 := by
  rw [md_eq ht hs] at h
  have := (bst_is _ w h).2.1
  unfold mdC at this
  split at this
  · obtain ⟨x, -, hx⟩ := Option.map_eq_some_iff.mp this
    omega
  · simp at this
theorem C1_leastDepth {σ0 : St} {b R SL : Nat} (hY : frY b R SL) {t : TD} {E : Ent} (hF : frF σ0 b R t E) {w : Nat × Nat} (hw : md t (2 ^ tn t - 1) = some w) {τ : St} (hτ : fmI σ0 b t E τ) : Mt YC mX1_leastDepth 45 [.ref b] τ (fun r τ' => r = some (.int (nI w.1)) ∧ fmI σ0 b t E τ') := by
  obtain ⟨y0, -⟩ := id hY
  obtain ⟨ht, hD0, -, -⟩ := id hF
  obtain ⟨a1, a2⟩ := all_pos ht.2.1
  have h10 := ht.1.1
  have hw1 := md_1 ht.1 a2 hw
  have hwl := md_le ht.1 _ _ w (Nat.le_refl _) a1 a2 hw
  rw [ones_all h10] at hwl
  have hmm : ∀ d, 1 ≤ d → ((∃ q, ms t d (2 ^ tn t - 1) = some q) ↔ w.1 ≤ d) := fun d hd => by
    rw [(md_ms ht.1 _ a1 a2 d hd).1]
    constructor
    · rintro ⟨q, hq, hqd⟩; rw [hw] at hq; simp at hq; rw [hq]; exact hqd
    · intro h; exact ⟨w, hw, h⟩
  refine Mt.ofA [some (.ref b), none] (by decide) (fun _ => Nat.le_of_ble_eq_true rfl) (fun _ => rfl) (fun g hc => ?_)
  have k2 : ∀ τ, fmI σ0 b t E τ → aW g YC 2 (fun r τ' => r = some (.int (nI w.1)) ∧ fmI σ0 b t E τ') 2 [some (.ref b), some (.int (nI 1))] [] τ := by
    refine lpF (i0 := 1) (n := w.1) (F := fun k => ∀ τ, fmI σ0 b t E τ → aW g YC 2 (fun r τ' => r = some (.int (nI w.1)) ∧ fmI σ0 b t E τ') 2 [some (.ref b), some (.int (nI k))] [] τ) hw1 (fun τ hτ => ?_) (fun k hk1 hk ih τ hτ => ?_)
    · have hD := hD0.eq hτ.1
      obtain ⟨q, hq⟩ := (hmm w.1 hw1).mpr (Nat.le_refl _)
      have hq1 := ms_ge ht _ a1 a2 _ q hq
      have hq2 := ms_le ht.1 _ _ _ q (Nat.le_refl _) a2 hq
      rw [ones_all h10] at hq1 hq2
      have hq3 : tn t * tn t ≤ 10 * 10 := Nat.mul_le_mul h10 h10
      refine st_iload_n hc dX1_leastDepth_2 rfl rfl ?_
      refine st_aload_n hc dX1_leastDepth_3 rfl rfl ?_
      refine st_getE hc dX1_leastDepth_4 flX1_74 y0 rfl (hD.2.1) ?_
      refine st_icmp_ge (tgt := 28) hc dX1_leastDepth_7 (by decide) (fun h7 => ?_) (fun h7 => ?_)
      · refine st_iload_n hc dX1_leastDepth_28 rfl rfl ?_
        refine st_iret (st := []) hc dX1_leastDepth_29 rfl ?_
        exact ⟨rfl, hτ⟩
      · refine st_aload_n hc dX1_leastDepth_10 rfl rfl ?_
        refine st_aload_n hc dX1_leastDepth_11 rfl rfl ?_
        refine st_callVp hc dX1_leastDepth_12 (C1_allMembers 1 τ hY hD.2.1 ht.1.1) mvX1_123 (by omega) rfl y0 rfl (Nat.le_of_ble_eq_true rfl) ?_
        refine st_iload_n hc dX1_leastDepth_15 rfl rfl ?_
        refine st_callVq hc dX1_leastDepth_16 (C1_LS hY hF hw1 (by omega) a1 a2 hτ) mvX1_129 (by omega) rfl y0 rfl (Nat.le_of_ble_eq_true rfl) ?_
        rintro τ1 j1
        refine st_if_ne (tgt := 28) hc dX1_leastDepth_19 (by decide) (fun h19 => ?_) (fun h19 => ?_)
        · have hτ := j1
          refine st_iload_n hc dX1_leastDepth_28 rfl rfl ?_
          refine st_iret (st := []) hc dX1_leastDepth_29 rfl ?_
          exact ⟨rfl, hτ⟩
        · exact absurd (nI_inj (b := 0) (by rw [hq]; show q.1 < _; omega) (by decide) h19) (by rw [hq]; show ¬ q.1 = 0; omega)
    · have hD := hD0.eq hτ.1
      have hno : ms t k (2 ^ tn t - 1) = none := by
        rcases hz : ms t k (2 ^ tn t - 1) with _ | q
        · rfl
        · have := (hmm k hk1).mp ⟨q, hz⟩; omega
      refine st_iload_n hc dX1_leastDepth_2 rfl rfl ?_
      refine st_aload_n hc dX1_leastDepth_3 rfl rfl ?_
      refine st_getE hc dX1_leastDepth_4 flX1_74 y0 rfl (hD.2.1) ?_
      refine st_icmp_ge (tgt := 28) hc dX1_leastDepth_7 (by decide) (fun h7 => ?_) (fun h7 => ?_)
      · exact absurd h7 (nI_ge (by omega) (by omega))
      · refine st_aload_n hc dX1_leastDepth_10 rfl rfl ?_
        refine st_aload_n hc dX1_leastDepth_11 rfl rfl ?_
        refine st_callVp hc dX1_leastDepth_12 (C1_allMembers 1 τ hY hD.2.1 ht.1.1) mvX1_123 (by omega) rfl y0 rfl (Nat.le_of_ble_eq_true rfl) ?_
        refine st_iload_n hc dX1_leastDepth_15 rfl rfl ?_
        refine st_callVq hc dX1_leastDepth_16 (C1_LS hY hF hk1 (by omega) a1 a2 hτ) mvX1_129 (by omega) rfl y0 rfl (Nat.le_of_ble_eq_true rfl) ?_
        rintro τ1 j1
        refine st_if_ne (tgt := 28) hc dX1_leastDepth_19 (by decide) (fun h19 => ?_) (fun h19 => ?_)
        · exact absurd (by rw [hno]; rfl) h19
        · refine st_inc hc dX1_leastDepth_22 rfl (by decide) rfl ?_
          rw [nI_1]
          refine st_goto (tgt := 2) hc dX1_leastDepth_25 (by decide) ?_
          exact ih τ1 j1
  refine st_iconst (v := 1) hc dX1_leastDepth_0 (by decide) ?_
  refine st_istore_n hc dX1_leastDepth_1 rfl (by decide) rfl ?_
  exact k2 τ hτ
theorem sbV_pos {o : Option Nat} {v : Nat} (h : o = some v) (h1 : v ≤ 7271) (h2 : 0 < v) : sbV o 1000000 = v ∧ 0 < v ∧ v ≤ 7271 := by
  subst h
  exact ⟨if_pos (by omega), h2, h1⟩
theorem W1_fold1 {g : Gx} {σ0 : St} {b R SL : Nat} (hY : frY b R SL) {t : TD} {E : Ent} (hF : frF σ0 b R t E) {τ : St} (hD : frD τ b t E) (hτ : fmI σ0 b t E τ) {w : Nat × Nat} (hc : cX g YC RX1 cX1_firstOfLeastDepth 3 (some .int) 46) {k v : Nat} (hv : sbV (msC t (ms t) w.1 (2 ^ tn t - 1) (eG E k)) 1000000 = v ∧ 0 < v ∧ v ≤ 7271) (hsb : ∀ j, j < eN E → ∀ υ, fmI σ0 b t E υ → Mt YC mX1_sumBehind 45 [.ref b, .int (nI j), .int (nI (2 ^ tn t - 1)), .int (nI w.1), .int (nI 1000000)] υ (fun r τ => r = some (.int (nI (sbV (msC t (ms t) w.1 (2 ^ tn t - 1) (eG E j)) 1000000))) ∧ fmI σ0 b t E τ)) (hk : k < eN E) (he : eG E k = w.2) : aW g YC 3 (fun r τ' => r = some (.int (nI w.2)) ∧ fmI σ0 b t E τ') 15 [some (.ref b), some (.int (nI w.1)), some (.int (nI k))] [] τ := by
  obtain ⟨y0, y1, y2, y3, y4, y5, y6, y7, y8, y9, yR, -, -, -⟩ := id hY
  have h13 := hF.2.2.2
  refine st_iload_n hc dX1_firstOfLeastDepth_15 rfl rfl ?_
  refine st_aload_n hc dX1_firstOfLeastDepth_16 rfl rfl ?_
  refine st_getE hc dX1_firstOfLeastDepth_17 flX1_92 y0 rfl (hD.2.2.1) ?_
  refine st_icmp_ge (tgt := 51) hc dX1_firstOfLeastDepth_20 (by decide) (fun h20 => ?_) (fun h20 => ?_)
  · exact absurd h20 (nI_ge hk (by omega))
  · refine st_aload_n hc dX1_firstOfLeastDepth_23 rfl rfl ?_
    refine st_iload_n hc dX1_firstOfLeastDepth_24 rfl rfl ?_
    refine st_aload_n hc dX1_firstOfLeastDepth_25 rfl rfl ?_
    refine st_callVp hc dX1_firstOfLeastDepth_26 (C1_allMembers 1 τ hY hD.2.1 hF.1.1.1) mvX1_123 (by omega) rfl y0 rfl (Nat.le_of_ble_eq_true rfl) ?_
    refine st_iload_n hc dX1_firstOfLeastDepth_29 rfl rfl ?_
    refine st_ldc hc dX1_firstOfLeastDepth_30 kcX1_138 ?_
    refine st_callVq hc dX1_firstOfLeastDepth_32 (hsb k hk τ hτ) mvX1_139 (by omega) rfl y0 rfl (Nat.le_of_ble_eq_true rfl) ?_
    rintro τ1 j1
    refine st_if_le (tgt := 45) hc dX1_firstOfLeastDepth_35 (by decide) (fun h35 => ?_) (fun h35 => ?_)
    · rw [hv.1] at h35; exact absurd ((nI_leI (b := 0) (by omega) (by decide)).mp h35) (by omega)
    · refine st_aload_n hc dX1_firstOfLeastDepth_38 rfl rfl ?_
      refine st_getr hc dX1_firstOfLeastDepth_39 flX1_29 y0 rfl ?_
      refine st_iload_n hc dX1_firstOfLeastDepth_42 rfl rfl ?_
      refine st_ialdN (k := k) hc dX1_firstOfLeastDepth_43 y2 (rfl) (by omega) (by first | decide | omega) (((hF.2.1.eq j1.1).2.2.2.2 k hk).1) ?_
      refine st_iret (st := []) hc dX1_firstOfLeastDepth_44 rfl ?_
      rw [he]
      exact ⟨rfl, j1⟩
theorem W1_fold2 {g : Gx} {σ0 : St} {b R SL : Nat} (hY : frY b R SL) {t : TD} {E : Ent} (hF : frF σ0 b R t E) {τ : St} (hD : frD τ b t E) (hτ : fmI σ0 b t E τ) {w : Nat × Nat} (hc : cX g YC RX1 cX1_firstOfLeastDepth 3 (some .int) 46) {k : Nat} (hv : sbV (msC t (ms t) w.1 (2 ^ tn t - 1) (eG E k)) 1000000 = 0) (hsb : ∀ j, j < eN E → ∀ υ, fmI σ0 b t E υ → Mt YC mX1_sumBehind 45 [.ref b, .int (nI j), .int (nI (2 ^ tn t - 1)), .int (nI w.1), .int (nI 1000000)] υ (fun r τ => r = some (.int (nI (sbV (msC t (ms t) w.1 (2 ^ tn t - 1) (eG E j)) 1000000))) ∧ fmI σ0 b t E τ)) (hk : k < eN E) (ih : ∀ τ, fmI σ0 b t E τ → aW g YC 3 (fun r τ' => r = some (.int (nI w.2)) ∧ fmI σ0 b t E τ') 15 [some (.ref b), some (.int (nI w.1)), some (.int (nI (k + 1)))] [] τ) : aW g YC 3 (fun r τ' => r = some (.int (nI w.2)) ∧ fmI σ0 b t E τ') 15 [some (.ref b), some (.int (nI w.1)), some (.int (nI k))] [] τ := by
  obtain ⟨y0, y1, y2, y3, y4, y5, y6, y7, y8, y9, yR, -, -, -⟩ := id hY
  have h13 := hF.2.2.2
  refine st_iload_n hc dX1_firstOfLeastDepth_15 rfl rfl ?_
  refine st_aload_n hc dX1_firstOfLeastDepth_16 rfl rfl ?_
  refine st_getE hc dX1_firstOfLeastDepth_17 flX1_92 y0 rfl (hD.2.2.1) ?_
  refine st_icmp_ge (tgt := 51) hc dX1_firstOfLeastDepth_20 (by decide) (fun h20 => ?_) (fun h20 => ?_)
  · exact absurd h20 (nI_ge hk (by omega))
  · refine st_aload_n hc dX1_firstOfLeastDepth_23 rfl rfl ?_
    refine st_iload_n hc dX1_firstOfLeastDepth_24 rfl rfl ?_
    refine st_aload_n hc dX1_firstOfLeastDepth_25 rfl rfl ?_
    refine st_callVp hc dX1_firstOfLeastDepth_26 (C1_allMembers 1 τ hY hD.2.1 hF.1.1.1) mvX1_123 (by omega) rfl y0 rfl (Nat.le_of_ble_eq_true rfl) ?_
    refine st_iload_n hc dX1_firstOfLeastDepth_29 rfl rfl ?_
    refine st_ldc hc dX1_firstOfLeastDepth_30 kcX1_138 ?_
    refine st_callVq hc dX1_firstOfLeastDepth_32 (hsb k hk τ hτ) mvX1_139 (by omega) rfl y0 rfl (Nat.le_of_ble_eq_true rfl) ?_
    rintro τ1 j1
    refine st_if_le (tgt := 45) hc dX1_firstOfLeastDepth_35 (by decide) (fun h35 => ?_) (fun h35 => ?_)
    · refine st_inc hc dX1_firstOfLeastDepth_45 rfl (by decide) rfl ?_
      rw [nI_1]
      refine st_goto (tgt := 15) hc dX1_firstOfLeastDepth_48 (by decide) ?_
      exact ih τ1 j1
    · rw [hv] at h35; exact absurd (by decide) h35
theorem C1_firstOfLeastDepth {σ0 : St} {b R SL : Nat} (hY : frY b R SL) {t : TD} {E : Ent} (hF : frF σ0 b R t E) {w : Nat × Nat} (hw : md t (2 ^ tn t - 1) = some w) {τ : St} (hτ : fmI σ0 b t E τ) : Mt YC mX1_firstOfLeastDepth 46 [.ref b] τ (fun r τ' => r = some (.int (nI w.2)) ∧ fmI σ0 b t E τ') := by
  obtain ⟨y0, y1, y2, y3, y4, y5, y6, y7, y8, y9, yR, -, -, -⟩ := id hY
  obtain ⟨ht, hD0, hC, hE⟩ := id hF
  obtain ⟨a1, a2⟩ := all_pos ht.2.1
  have h10 := ht.1.1
  have hn1 := ht.2.1
  have hw1 := md_1 ht.1 a2 hw
  have hwl := md_le ht.1 _ _ w (Nat.le_refl _) a1 a2 hw
  have hoa := ones_all h10
  rw [hoa] at hwl
  have hw' := hw
  rw [md_eq ht.1 a2] at hw'
  obtain ⟨c1, c2, c3, c4⟩ := bst_is _ w hw'
  have hmm := (md_ms ht.1 _ a1 a2 w.1 hw1).2
  refine Mt.ofA [some (.ref b), none, none] (by decide) (fun _ => Nat.le_of_ble_eq_true rfl) (fun _ => rfl) (fun g hc => ?_)
  refine st_aload_n hc dX1_firstOfLeastDepth_0 rfl rfl ?_
  refine st_callVq hc dX1_firstOfLeastDepth_1 (C1_leastDepth hY hF hw hτ) mvX1_135 (by omega) rfl y0 rfl (Nat.le_of_ble_eq_true rfl) ?_
  rintro τ1 j1
  have hD1 := hD0.eq j1.1
  refine st_istore_n hc dX1_firstOfLeastDepth_4 rfl (by decide) rfl ?_
  refine st_aload_n hc dX1_firstOfLeastDepth_5 rfl rfl ?_
  refine st_getE hc dX1_firstOfLeastDepth_6 flX1_74 y0 rfl (hD1.2.1) ?_
  refine st_iconst (v := 1) hc dX1_firstOfLeastDepth_9 (by decide) ?_
  refine st_icmp_le (tgt := 51) hc dX1_firstOfLeastDepth_10 (by decide) (fun h10 => ?_) (fun h10 => ?_)
  · have hone : tn t = 1 := by have := (nI_leI (b := 1) (by omega) (by decide)).mp h10; omega
    have hw2 : w.2 = tL t 0 := by
      have hcd : cand t w.2 (2 ^ tn t - 1) = true := ((mdC_iff (f := md t) hw1).mp ⟨w.1, c2, Nat.le_refl _⟩).1
      unfold cand at hcd
      rw [inS_fu ht c1, hoa] at hcd
      have hfu : hasFu t w.2 (2 ^ tn t - 1) = true := by
        rcases hz : hasFu t w.2 (2 ^ tn t - 1) with _ | _
        · rw [hz] at hcd; simp [hone] at hcd
        · rfl
      obtain ⟨k, k1, -, k3⟩ := fu_bit ht c1 hfu
      rw [← k3, show k = 0 by omega]
    refine st_aload_n hc dX1_firstOfLeastDepth_51 rfl rfl ?_
    refine st_getr hc dX1_firstOfLeastDepth_52 flX1_11 y0 rfl ?_
    refine st_iconst (v := 0) hc dX1_firstOfLeastDepth_55 (by decide) ?_
    refine st_ialdN (k := 0) hc dX1_firstOfLeastDepth_56 y1 (rfl) (by omega) (by first | decide | omega) (hD1.2.2.2.1 0 (by omega)) ?_
    refine st_iret (st := []) hc dX1_firstOfLeastDepth_57 rfl ?_
    rw [hw2]
    exact ⟨rfl, j1⟩
  · have hmany : 1 < tn t := Nat.lt_of_not_le (fun q => h10 (nI_le (b := 1) q (by decide)))
    have hd2 : 2 ≤ w.1 := by
      rcases Nat.lt_or_ge w.1 2 with z | z
      · obtain ⟨q, hq⟩ := (md_ms ht.1 _ a1 a2 w.1 hw1).1.mpr ⟨w, hw, Nat.le_refl _⟩
        rw [show w.1 = 1 by omega, ms_d1 ht a2 (by omega)] at hq
        simp at hq
      · exact z
    obtain ⟨v, hv⟩ := (hmm w.2).mpr ⟨w.1, c2, Nat.le_refl _⟩
    obtain ⟨e, e1, e2, e3⟩ := hC.2 w.1 _ w.2 v a2 (by omega) c1 hv
    have heq : eG E e = w.2 := by
      obtain ⟨m, m1, m2⟩ := (hmm (eG E e)).mp ⟨v, e3⟩
      rcases Nat.lt_or_ge (eG E e) w.2 with z | z
      · have := c3 (eG E e) z m m1; omega
      · omega
    have hbefore : ∀ j, j < e → msC t (ms t) w.1 (2 ^ tn t - 1) (eG E j) = none := fun j hj => by
      rcases hz : msC t (ms t) w.1 (2 ^ tn t - 1) (eG E j) with _ | x
      · rfl
      · obtain ⟨m, m1, m2⟩ := (hmm (eG E j)).mp ⟨x, hz⟩
        have := hC.1 j e hj e1
        have := c3 (eG E j) (by omega) m m1
        omega
    have hsb : ∀ j, j < eN E → ∀ υ, fmI σ0 b t E υ → Mt YC mX1_sumBehind 45 [.ref b, .int (nI j), .int (nI (2 ^ tn t - 1)), .int (nI w.1), .int (nI 1000000)] υ (fun r τ => r = some (.int (nI (sbV (msC t (ms t) w.1 (2 ^ tn t - 1) (eG E j)) 1000000))) ∧ fmI σ0 b t E τ) := fun j hj υ hυ => C1_sumBehind 44 σ0 hY ht hD0 hE hj a2 (by omega) hd2 (by omega) (Nat.le_refl _) (fun p p0 pl _ υ hυ => C1_LS hY hF (by omega) (by omega) p0 pl hυ) υ hυ
    have hvl := msC_le ht.1 hv
    have hvg := (msC_ge ht a1 a2 c1 hv).2
    refine st_iconst (v := 0) hc dX1_firstOfLeastDepth_13 (by decide) ?_
    refine st_istore_n hc dX1_firstOfLeastDepth_14 rfl (by decide) rfl ?_
    have k15 : ∀ τ, fmI σ0 b t E τ → aW g YC 3 (fun r τ' => r = some (.int (nI w.2)) ∧ fmI σ0 b t E τ') 15 [some (.ref b), some (.int (nI w.1)), some (.int (nI 0))] [] τ := by
      refine lpN (n := e) (F := fun k => ∀ τ, fmI σ0 b t E τ → aW g YC 3 (fun r τ' => r = some (.int (nI w.2)) ∧ fmI σ0 b t E τ') 15 [some (.ref b), some (.int (nI w.1)), some (.int (nI k))] [] τ) (fun τ hτ => ?_) (fun k hk ih τ hτ => ?_)
      · have hD := hD0.eq hτ.1
        exact W1_fold1 hY hF hD hτ hc (sbV_pos e3 hvl (by omega)) hsb e1 heq
      · have hD := hD0.eq hτ.1
        exact W1_fold2 hY hF hD hτ hc (by rw [hbefore k hk]; rfl) hsb (Nat.lt_trans hk e1) ih
    exact k15 τ1 j1

