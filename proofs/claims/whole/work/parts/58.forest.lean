/-! ===== the class: the forest's sums ===== -/
def frY (b R SL : Nat) : Prop := YC[b]? = some (.inr (1, [some 1, none, some (b + 1), none, none, none, none, some (b + 2), some (b + 3), some (b + 4), some (b + 5), some (b + 6), some (b + 7), some (b + 8), some (b + 9)])) ∧ YC[b + 1]? = some (.inl (0, 10, [])) ∧ YC[b + 2]? = some (.inl (0, R, [])) ∧ YC[b + 3]? = some (.inl (0, R, [])) ∧ YC[b + 4]? = some (.inl (0, R, [])) ∧ YC[b + 5]? = some (.inl (0, 10 * R, [])) ∧ YC[b + 6]? = some (.inl (2, R, [])) ∧ YC[b + 7]? = some (.inl (0, SL, [])) ∧ YC[b + 8]? = some (.inl (0, 51, [])) ∧ YC[b + 9]? = some (.inl (0, 11264, [])) ∧ R ≤ 1296 ∧ SL ≤ 2048 ∧ 26 ≤ b ∧ b ≤ 36
theorem fr26 : frY 26 1296 2048 := ⟨rfl, rfl, rfl, rfl, rfl, rfl, rfl, rfl, rfl, rfl, by decide, by decide, by decide, by decide⟩
theorem fr36 : frY 36 10 0 := ⟨rfl, rfl, rfl, rfl, rfl, rfl, rfl, rfl, rfl, rfl, by decide, by decide, by decide, by decide⟩
/-- entries: how many, their guesses, their classes' numbers, their labels -/
abbrev Ent : Type := Nat × (Nat → Nat) × (Nat → Nat) × (Nat → Nat → Nat)
abbrev eN (E : Ent) : Nat := E.1
abbrev eG (E : Ent) (e : Nat) : Nat := E.2.1 e
abbrev eM (E : Ent) (e : Nat) : Nat := E.2.2.1 e
abbrev eL (E : Ent) (e k : Nat) : Nat := E.2.2.2 e k
def enR (τ : St) (b : Nat) (t : TD) (E : Ent) (e : Nat) : Prop := τ (b + 2) e = nI (eG E e) ∧ τ (b + 3) e = nI (fbits (tn t) (fun k => tL t k == eG E e)) ∧ τ (b + 4) e = nI (eM E e) ∧ (∀ m, m < eM E e → τ (b + 5) (10 * e + m) = nI (fbits (tn t) (fun k => eL E e k == m))) ∧ eG E e < tN2 t ∧ Lab (tA t (eG E e)) (tfu t) (tn t) (eM E e) (eL E e)
def frD (τ : St) (b : Nat) (t : TD) (E : Ent) : Prop := τ b 1 = bI (!tpo t) ∧ τ b 3 = nI (tn t) ∧ τ b 6 = nI (eN E) ∧ (∀ k, k < tn t → τ (b + 1) k = nI (tL t k)) ∧ ∀ e, e < eN E → enR τ b t E e
theorem frD.eq {σ τ : St} {b : Nat} {t : TD} {E : Ent} (h : frD σ b t E) (e : ∀ a, ¬ a = b + 9 → τ a = σ a) : frD τ b t E := by
  unfold frD enR at *
  rw [e b (by omega), e (b + 1) (by omega), e (b + 2) (by omega), e (b + 3) (by omega), e (b + 4) (by omega), e (b + 5) (by omega)]
  exact h
/-- the entries serve for all guesses -/
def enC (t : TD) (E : Ent) : Prop := (∀ i j, i < j → j < eN E → eG E i < eG E j) ∧ ∀ d s g v, s < 2 ^ tn t → 1 < ones s → g < tN2 t → msC t (ms t) d s g = some v → ∃ e, e < eN E ∧ eG E e ≤ g ∧ msC t (ms t) d s (eG E e) = some v
def mv (E : Ent) (o : Option (Nat × Nat)) (v : Int32) : Prop := match o with
  | none => v = -1
  | some q => ∃ e, e < eN E ∧ eG E e = q.2 ∧ v = nI (q.1 * 2048 + e)
def meO (τ : St) (b : Nat) (t : TD) (E : Ent) : Prop := ∀ d s, 2 ≤ d → d ≤ 10 → s < 2 ^ tn t → 3 ≤ ones s → τ (b + 9) (d * 1024 + s) = 0 ∨ mv E (ms t d s) (τ (b + 9) (d * 1024 + s))
/-- a store that differs from σ in what is remembered alone -/
def fmI (σ : St) (b : Nat) (t : TD) (E : Ent) (τ : St) : Prop := (∀ a, ¬ a = b + 9 → τ a = σ a) ∧ meO τ b t E
def vS (o : Option (Nat × Nat)) : Nat := match o with
  | none => 0
  | some q => q.1
theorem cl_and {n s m : Nat} {lb : Nat → Nat} : fbits n (fun k => lb k == m) &&& s = lpt n lb s m := by
  apply Nat.eq_of_testBit_eq
  intro i
  rw [Nat.testBit_and, fbits_bit, fbits_bit]
  rcases s.testBit i <;> simp
theorem own_and {t : TD} (ht : tG t) {g s : Nat} (hg : g < tN2 t) : (fbits (tn t) (fun k => tL t k == g) &&& s = 0) ↔ hasFu t g s = false := by
  rw [← inS_fu ht hg]
  have e : fbits (tn t) (fun k => tL t k == g) &&& s = fbits (tn t) (fun k => s.testBit k && tL t k == g) := by
    apply Nat.eq_of_testBit_eq
    intro i
    rw [Nat.testBit_and, fbits_bit, fbits_bit]
    rcases s.testBit i <;> simp
  rw [e]
  constructor
  · intro h
    rcases hz : inS (tn t) (tL t) s g with _ | _
    · rfl
    · obtain ⟨k, hk, q⟩ := (anyN_iff _ _).mp hz
      have := congrArg (fun z => z.testBit k) h
      simp only [fbits_bit, decide_eq_true hk, Bool.true_and, Nat.zero_testBit] at this
      rw [this] at q
      exact absurd q (by decide)
  · intro h
    exact fbits_z h
theorem C1_classesIn (d : Nat) (σ : St) {b R SL : Nat} (hY : frY b R SL) {t : TD} {E : Ent} (ht : tG t) (hD : frD σ b t E) (hE : eN E ≤ R) {e s : Nat} (he : e < eN E) : Mt YC mX1_classesIn d [.ref b, .int (nI e), .int (nI s)] σ (fun r τ => r = some (.int (nI (npt t (eG E e) s))) ∧ τ = σ) := by
  obtain ⟨y0, y1, y2, y3, y4, y5, y6, y7, y8, y9, yR, -, -, -⟩ := hY
  obtain ⟨d1, d2, d3, d4, d5⟩ := hD
  obtain ⟨r1, r2, r3, r4, r5, r6⟩ := d5 e he
  have h10 := ht.1.1
  have hM := r6.1
  rw [Lab_npt h10 (fun k hk => ht.1.2.2 _ k hk) r6]
  refine Mt.ofA [some (.ref b), some (.int (nI e)), some (.int (nI s)), none, none, none] (by decide) (fun _ => Nat.le_of_ble_eq_true rfl) (fun _ => rfl) (fun g hc => ?_)
  have k11 : aW g YC 6 (fun r τ => r = some (.int (nI (cnt (eM E e) (fun m => decide (¬ lpt (tn t) (eL E e) s m = 0))))) ∧ τ = σ) 11 [some (.ref b), some (.int (nI e)), some (.int (nI s)), some (.int (nI (10 * e))), some (.int (nI (cnt 0 (fun m => decide (¬ lpt (tn t) (eL E e) s m = 0))))), some (.int (nI 0))] [] σ := by
    refine lpN (n := eM E e) (F := fun m => aW g YC 6 (fun r τ => r = some (.int (nI (cnt (eM E e) (fun m => decide (¬ lpt (tn t) (eL E e) s m = 0))))) ∧ τ = σ) 11 [some (.ref b), some (.int (nI e)), some (.int (nI s)), some (.int (nI (10 * e))), some (.int (nI (cnt m (fun m => decide (¬ lpt (tn t) (eL E e) s m = 0))))), some (.int (nI m))] [] σ) ?_ (fun m hm ih => ?_)
    · refine st_iload hc dX1_classesIn_11 rfl ?_
      refine st_aload_n hc dX1_classesIn_13 rfl rfl ?_
      refine st_getr hc dX1_classesIn_14 flX1_35 y0 rfl ?_
      refine st_iload_n hc dX1_classesIn_17 rfl rfl ?_
      refine st_ialdN (k := e) hc dX1_classesIn_18 y4 (rfl) (by omega) (by first | decide | omega) (r3) ?_
      refine st_icmp_ge (tgt := 45) hc dX1_classesIn_19 (by decide) (fun h19 => ?_) (fun h19 => ?_)
      · refine st_iload hc dX1_classesIn_45 rfl ?_
        refine st_iret (st := []) hc dX1_classesIn_47 rfl ?_
        exact ⟨rfl, rfl⟩
      · exact absurd (nI_le (Nat.le_refl _) (by omega)) h19
    · have hcs : cnt (m + 1) (fun m => decide (¬ lpt (tn t) (eL E e) s m = 0)) = cnt m (fun m => decide (¬ lpt (tn t) (eL E e) s m = 0)) + (if decide (¬ lpt (tn t) (eL E e) s m = 0) = true then 1 else 0) := rfl
      have hlt : lpt (tn t) (eL E e) s m < 2 ^ 31 := fbits_lt31 (by omega) _
      refine st_iload hc dX1_classesIn_11 rfl ?_
      refine st_aload_n hc dX1_classesIn_13 rfl rfl ?_
      refine st_getr hc dX1_classesIn_14 flX1_35 y0 rfl ?_
      refine st_iload_n hc dX1_classesIn_17 rfl rfl ?_
      refine st_ialdN (k := e) hc dX1_classesIn_18 y4 (rfl) (by omega) (by first | decide | omega) (r3) ?_
      refine st_icmp_ge (tgt := 45) hc dX1_classesIn_19 (by decide) (fun h19 => ?_) (fun h19 => ?_)
      · exact absurd h19 (nI_ge hm (by omega))
      · refine st_aload_n hc dX1_classesIn_22 rfl rfl ?_
        refine st_getr hc dX1_classesIn_23 flX1_38 y0 rfl ?_
        refine st_iload_n hc dX1_classesIn_26 rfl rfl ?_
        refine st_iload hc dX1_classesIn_27 rfl ?_
        refine st_iadd hc dX1_classesIn_29 ?_
        refine st_ialdN (k := 10 * e + m) hc dX1_classesIn_30 y5 (by rw [nI_add]) (by omega) (by first | decide | omega) (r4 m hm) ?_
        refine st_iload_n hc dX1_classesIn_31 rfl rfl ?_
        refine st_iand hc dX1_classesIn_32 ?_
        rw [nI_and, cl_and]
        refine st_if_eq (tgt := 39) hc dX1_classesIn_33 (by decide) (fun h33 => ?_) (fun h33 => ?_)
        · have h33 : lpt (tn t) (eL E e) s m = 0 := nI_inj (b := 0) hlt (by decide) h33
          rw [decide_eq_false (fun q => q h33)] at hcs
          simp only [Bool.false_eq_true, if_false, Nat.add_zero] at hcs
          rw [hcs] at ih
          refine st_inc hc dX1_classesIn_39 rfl (by decide) rfl ?_
          rw [nI_1]
          refine st_goto (tgt := 11) hc dX1_classesIn_42 (by decide) ?_
          exact ih
        · have h33 : ¬ lpt (tn t) (eL E e) s m = 0 := fun q => h33 (by rw [q]; rfl)
          rw [decide_eq_true h33] at hcs
          simp only [if_true] at hcs
          rw [hcs] at ih
          refine st_inc hc dX1_classesIn_36 rfl (by decide) rfl ?_
          rw [nI_1]
          refine st_inc hc dX1_classesIn_39 rfl (by decide) rfl ?_
          rw [nI_1]
          refine st_goto (tgt := 11) hc dX1_classesIn_42 (by decide) ?_
          exact ih
  refine st_iload_n hc dX1_classesIn_0 rfl rfl ?_
  refine st_bipush (v := 10) hc dX1_classesIn_1 (by decide) ?_
  refine st_imul hc dX1_classesIn_3 ?_
  rw [show (10 : Int32) = nI 10 from rfl, pk_mul, Nat.mul_comm]
  refine st_istore_n hc dX1_classesIn_4 rfl (by decide) rfl ?_
  refine st_iconst (v := 0) hc dX1_classesIn_5 (by decide) ?_
  refine st_istore hc dX1_classesIn_6 (by decide) rfl ?_
  refine st_iconst (v := 0) hc dX1_classesIn_8 (by decide) ?_
  refine st_istore hc dX1_classesIn_9 (by decide) rfl ?_
  exact k11
theorem sumO_mono {F : Nat → Option Nat} {o : Nat → Nat} {m X : Nat} : ∀ M XM, m ≤ M → sumO F m = some X → sumO F M = some XM → (∀ j, m ≤ j → j < M → ∀ y, F j = some y → o j ≤ y) → X + sumN M o ≤ XM + sumN m o := by
  intro M
  induction M with
  | zero => intro XM h1 h2 h3 _; have : m = 0 := by omega
            subst this; rw [h2] at h3; simp at h3; omega
  | succ M ih =>
    intro XM h1 h2 h3 h4
    by_cases e : m = M + 1
    · subst e; rw [h2] at h3; simp at h3; omega
    · unfold sumO at h3
      rcases q1 : sumO F M with _ | u
      · rw [q1] at h3; simp at h3
      · rcases q2 : F M with _ | v
        · rw [q1, q2] at h3; simp at h3
        · rw [q1, q2] at h3
          simp at h3
          have a1 := ih u (by omega) h2 q1 (fun j hj hj2 y hy => h4 j hj (by omega) y hy)
          have a2 := h4 M (by omega) (by omega) v q2
          show X + (sumN M o + o M) ≤ XM + sumN m o
          omega
/-- the sum behind an entry, below a limit -/
def sbV (o : Option Nat) (lim : Nat) : Nat := match o with
  | none => 0
  | some v => if v < lim then v else 0
theorem C1_sumBehind (D : Nat) (σ0 : St) {b R SL : Nat} (hY : frY b R SL) {t : TD} {E : Ent} (ht : tG t) (hD0 : frD σ0 b t E) (hE : eN E ≤ R) {e s dd lim : Nat} (he : e < eN E) (hs : s < 2 ^ tn t) (h1 : 1 < ones s) (hd2 : 2 ≤ dd) (hd10 : dd ≤ 10) (hlim : lim ≤ 1000000) (hLS : ∀ p, 0 < p → p < 2 ^ tn t → ones p < ones s → ∀ τ, fmI σ0 b t E τ → Mt YC mX1_leastSum D [.ref b, .int (nI p), .int (nI (dd - 1))] τ (fun r τ' => r = some (.int (nI (vS (ms t (dd - 1) p)))) ∧ fmI σ0 b t E τ')) (σ : St) (hσ : fmI σ0 b t E σ) :
    Mt YC mX1_sumBehind (D + 1) [.ref b, .int (nI e), .int (nI s), .int (nI dd), .int (nI lim)] σ (fun r τ => r = some (.int (nI (sbV (msC t (ms t) dd s (eG E e)) lim))) ∧ fmI σ0 b t E τ) := by
  obtain ⟨y0, y1, y2, y3, y4, y5, y6, y7, y8, y9, yR, -, -, -⟩ := id hY
  have hD := hD0.eq hσ.1
  obtain ⟨d1, d2, d3, d4, d5⟩ := id hD
  obtain ⟨r1, r2, r3, r4, r5, r6⟩ := id (d5 e he)
  have hok := ht.1
  have h10 := hok.1
  have hn := p2n h10
  have hM := r6.1
  have h60 : ∀ k, k < tn t → tA t (eG E e) k < 60 := fun k hk => hok.2.2 _ k hk
  have hol := ones_le s
  generalize hG : eG E e = gg at *
  have hpl : ∀ m, lpt (tn t) (eL E e) s m < 2 ^ tn t := fun m => fbits_lt _ _
  have hse := sum_ones_eq ht r5 hs
  have hcd := cand_in ht r5 hs h1
  have hnpt := Lab_npt (s := s) h10 h60 r6
  generalize hIn : (if hasFu t gg s = true then 1 else 0) = inn at *
  have hinn : inn ≤ 1 := by rw [← hIn]; split <;> omega
  -- the ones of the parts, by labels
  have hsum1 : sumN (eM E e) (fun m => ones (lpt (tn t) (eL E e) s m)) + inn = ones s := by
    have q := Lab_sum (s := s) h10 h60 r6 (fun p => some (ones p))
    rw [sumO_congr (h := fun m => some (ones (lpt (tn t) (eL E e) s m))) (eM E e) (fun m _ => by
      by_cases z : lpt (tn t) (eL E e) s m = 0
      · rw [if_pos z, z]; rfl
      · rw [if_neg z]), sumO_some (g := fun m => ones (lpt (tn t) (eL E e) s m)), sumO_congr (h := fun a => some (ones (pA t gg s a))) 60 (fun a _ => by
      by_cases z : pA t gg s a = 0
      · rw [if_pos z, z]; rfl
      · rw [if_neg z]), sumO_some (g := fun a => ones (pA t gg s a))] at q
    simp only [Option.some.injEq] at q
    omega
  let o : Nat → Nat := fun m => if lpt (tn t) (eL E e) s m = 0 then 0 else 2 * ones (lpt (tn t) (eL E e) s m) - 1
  let F : Nat → Option Nat := fun m => if lpt (tn t) (eL E e) s m = 0 then some 0 else (ms t (dd - 1) (lpt (tn t) (eL E e) s m)).map Prod.fst
  have hpos : ∀ m, ¬ lpt (tn t) (eL E e) s m = 0 → 0 < ones (lpt (tn t) (eL E e) s m) := fun m z => ones_pos' h10 (hpl m) (by omega)
  have hsum2 : sumN (eM E e) o + npt t gg s = 2 * sumN (eM E e) (fun m => ones (lpt (tn t) (eL E e) s m)) := by
    rw [hnpt, ← cnt_sum, sumN_mul, ← sumN_add]
    exact sumN_congr (fun m _ => by
      show (if lpt (tn t) (eL E e) s m = 0 then 0 else 2 * ones (lpt (tn t) (eL E e) s m) - 1) + _ = _
      by_cases z : lpt (tn t) (eL E e) s m = 0
      · simp [z, show ones 0 = 0 from by decide]
      · have := hpos m z; simp [z]; omega)
  have hnle : npt t gg s ≤ sumN (eM E e) (fun m => ones (lpt (tn t) (eL E e) s m)) := by
    rw [hnpt, ← cnt_sum]
    exact sumN_mono (fun m _ => by
      by_cases z : lpt (tn t) (eL E e) s m = 0
      · simp [z]
      · have := hpos m z; simp [z]; omega)
  have hFo : ∀ j y, F j = some y → o j ≤ y := fun j y hy => by
    show (if lpt (tn t) (eL E e) s j = 0 then 0 else 2 * ones (lpt (tn t) (eL E e) s j) - 1) ≤ y
    by_cases z : lpt (tn t) (eL E e) s j = 0
    · rw [if_pos z]; exact Nat.zero_le _
    · rw [if_neg z]
      have hy : (if lpt (tn t) (eL E e) s j = 0 then some 0 else (ms t (dd - 1) (lpt (tn t) (eL E e) s j)).map Prod.fst) = some y := hy
      rw [if_neg z] at hy
      obtain ⟨q, hq, hqe⟩ := Option.map_eq_some_iff.mp hy
      have := ms_ge ht _ (by omega) (hpl j) _ q hq
      omega
  have hFl : ∀ j y, F j = some y → y ≤ 121 := fun j y hy => by
    have hy : (if lpt (tn t) (eL E e) s j = 0 then some 0 else (ms t (dd - 1) (lpt (tn t) (eL E e) s j)).map Prod.fst) = some y := hy
    by_cases z : lpt (tn t) (eL E e) s j = 0
    · rw [if_pos z] at hy; simp at hy; omega
    · rw [if_neg z] at hy
      obtain ⟨q, hq, hqe⟩ := Option.map_eq_some_iff.mp hy
      have := ms_le hok _ _ _ q (Nat.le_refl _) (hpl j) hq
      have h11 := ones_le (lpt (tn t) (eL E e) s j)
      have : ones (lpt (tn t) (eL E e) s j) * ones (lpt (tn t) (eL E e) s j) ≤ 11 * 11 := Nat.mul_le_mul h11 h11
      omega
  have hmsC : cand t gg s = true → msC t (ms t) dd s gg = (sumO F (eM E e)).map (fun x => ones s + x) := fun hc => by
    unfold msC
    rw [if_pos hc]
    have q := Lab_sum (s := s) h10 h60 r6 (fun p => if dd = 1 then none else (ms t (dd - 1) p).map Prod.fst)
    rw [← q]
    congr 1
    exact sumO_congr _ (fun m _ => by
      show _ = if lpt (tn t) (eL E e) s m = 0 then some 0 else (ms t (dd - 1) (lpt (tn t) (eL E e) s m)).map Prod.fst
      simp only [if_neg (show ¬ dd = 1 by omega)])
  have hlt0 : cand t gg s = true → ∀ m, m < eM E e → ¬ lpt (tn t) (eL E e) s m = 0 → ones (lpt (tn t) (eL E e) s m) < ones s := fun hc m hm h0 => by
    have hp0 := hpos m h0
    have hh : sumN (eM E e) (fun j => ones (lpt (tn t) (eL E e) s j) - (if decide (¬ lpt (tn t) (eL E e) s j = 0) = true then 1 else 0)) + npt t gg s = sumN (eM E e) (fun m => ones (lpt (tn t) (eL E e) s m)) := by
      rw [hnpt, ← cnt_sum, ← sumN_add]
      exact sumN_congr (fun j _ => by
        by_cases z : lpt (tn t) (eL E e) s j = 0
        · simp [z]
        · have := hpos j z; simp [z]; omega)
    have hm1 := sumN_mem (f := fun j => ones (lpt (tn t) (eL E e) s j) - (if decide (¬ lpt (tn t) (eL E e) s j = 0) = true then 1 else 0)) hm
    simp only [decide_eq_true h0, if_true] at hm1
    have hnpp := npt_pos ht r5 hs (by rw [hIn]; omega)
    rw [hcd] at hc
    rcases hz : hasFu t gg s with _ | _
    · rw [hz] at hc hIn
      simp at hc hIn
      omega
    · rw [hz] at hIn
      simp at hIn
      omega
  have hno : cand t gg s = false → sbV (msC t (ms t) dd s gg) lim = 0 := fun hc => by
    unfold msC
    rw [if_neg (by rw [hc]; decide)]
    rfl
  refine Mt.ofA [some (.ref b), some (.int (nI e)), some (.int (nI s)), some (.int (nI dd)), some (.int (nI lim)), none, none, none, none, none, none, none] (by decide) (fun _ => Nat.le_of_ble_eq_true rfl) (fun _ => rfl) (fun g hc => ?_)
  have k86 : cand t gg s = true → ∀ (B0 : Nat), B0 + npt t gg s + 2 * inn = 3 * ones s → ∀ x5 x6, ∀ τ X Bd, (fmI σ0 b t E τ ∧ sumO F 0 = some X ∧ Bd + sumN 0 o = B0 + X) → aW g YC 12 (fun r τ => r = some (.int (nI (sbV (msC t (ms t) dd s gg) lim))) ∧ fmI σ0 b t E τ) 86 [some (.ref b), some (.int (nI e)), some (.int (nI s)), some (.int (nI dd)), some (.int (nI lim)), some (.int x5), some (.int x6), some (.int (nI Bd)), some (.int (nI (10 * e))), some (.int (nI 0)), none, none] [] τ := by
    intro hcand B0 hB0 x5 x6
    have hfin : ∀ m X Bd, m ≤ eM E e → sumO F m = some X → Bd + sumN m o = B0 + X → lim ≤ Bd → sbV (msC t (ms t) dd s gg) lim = 0 := fun m X Bd hm hX hBd hge => by
      rw [hmsC hcand]
      rcases hz : sumO F (eM E e) with _ | XM
      · rfl
      · have := sumO_mono (o := o) (eM E e) XM hm hX hz (fun j _ _ y hy => hFo j y hy)
        show (if ones s + XM < lim then ones s + XM else 0) = 0
        rw [if_neg (by omega)]
    refine lpN (n := eM E e) (F := fun m => ∀ τ X Bd, (fmI σ0 b t E τ ∧ sumO F m = some X ∧ Bd + sumN m o = B0 + X) → aW g YC 12 (fun r τ => r = some (.int (nI (sbV (msC t (ms t) dd s gg) lim))) ∧ fmI σ0 b t E τ) 86 [some (.ref b), some (.int (nI e)), some (.int (nI s)), some (.int (nI dd)), some (.int (nI lim)), some (.int x5), some (.int x6), some (.int (nI Bd)), some (.int (nI (10 * e))), some (.int (nI m)), none, none] [] τ) (fun τ X Bd h => ?_) (fun m hm ih τ X Bd h => ?_)
    · obtain ⟨i1, i2, i3⟩ := h
      have hBl : Bd ≤ 2000 := by
        have := sumO_le (f := F) (b := fun _ => 121) (eM E e) X i2 (fun j _ y hy => hFl j y hy)
        have h3 : sumN (eM E e) (fun _ => 121) ≤ eM E e * 121 := sumN_le (fun _ _ => Nat.le_refl _)
        have h4 : eM E e * 121 ≤ 10 * 121 := Nat.mul_le_mul (by omega) (Nat.le_refl _)
        omega
      have hBv : Bd = ones s + X := by omega
      refine st_iload hc dX1_sumBehind_86 rfl ?_
      refine st_aload_n hc dX1_sumBehind_88 rfl rfl ?_
      refine st_getr hc dX1_sumBehind_89 flX1_35 y0 rfl ?_
      refine st_iload_n hc dX1_sumBehind_92 rfl rfl ?_
      refine st_ialdN (k := e) hc dX1_sumBehind_93 y4 (rfl) (by omega) (by first | decide | omega) ((by rw [i1.1 (b + 4) (by omega), ← hσ.1 (b + 4) (by omega)]; exact r3 : _ = nI (eM E e))) ?_
      refine st_icmp_ge (tgt := 164) hc dX1_sumBehind_94 (by decide) (fun h94 => ?_) (fun h94 => ?_)
      · refine st_iload hc dX1_sumBehind_164 rfl ?_
        refine st_iload hc dX1_sumBehind_166 rfl ?_
        refine st_icmp_ge (tgt := 176) hc dX1_sumBehind_168 (by decide) (fun h168 => ?_) (fun h168 => ?_)
        · have h168 := (nI_leI (by omega) (by omega)).mp h168
          refine st_iconst (v := 0) hc dX1_sumBehind_176 (by decide) ?_
          refine st_iret (st := []) hc dX1_sumBehind_177 rfl ?_
          first
           | (rw [hfin _ X Bd (Nat.le_refl _) i2 i3 h168]; exact ⟨rfl, i1⟩)
           | (rw [hmsC hcand, i2]
              refine ⟨?_, i1⟩
              show _ = some (Value.int (nI (if ones s + X < lim then ones s + X else 0)))
              rw [if_pos (by omega), hBv])
        · have h168 : Bd < lim := Nat.lt_of_not_le (fun q => h168 (nI_le q (by omega)))
          refine st_iload hc dX1_sumBehind_171 rfl ?_
          refine st_goto (tgt := 177) hc dX1_sumBehind_173 (by decide) ?_
          refine st_iret (st := []) hc dX1_sumBehind_177 rfl ?_
          first
           | (rw [hfin _ X Bd (Nat.le_refl _) i2 i3 h168]; exact ⟨rfl, i1⟩)
           | (rw [hmsC hcand, i2]
              refine ⟨?_, i1⟩
              show _ = some (Value.int (nI (if ones s + X < lim then ones s + X else 0)))
              rw [if_pos (by omega), hBv])
      · exact absurd (nI_le (Nat.le_refl _) (by omega)) h94
    · obtain ⟨i1, i2, i3⟩ := h
      have hBl : Bd ≤ 2000 := by
        have := sumO_le (f := F) (b := fun _ => 121) m X i2 (fun j _ y hy => hFl j y hy)
        have h3 : sumN m (fun _ => 121) ≤ m * 121 := sumN_le (fun _ _ => Nat.le_refl _)
        have h4 : m * 121 ≤ 10 * 121 := Nat.mul_le_mul (by omega) (Nat.le_refl _)
        omega
      have hFm : F m = if lpt (tn t) (eL E e) s m = 0 then some 0 else (ms t (dd - 1) (lpt (tn t) (eL E e) s m)).map Prod.fst := rfl
      have hom : o m = if lpt (tn t) (eL E e) s m = 0 then 0 else 2 * ones (lpt (tn t) (eL E e) s m) - 1 := rfl
      have hFs : sumO F (m + 1) = match sumO F m, F m with
        | some x, some y => some (x + y)
        | _, _ => none := rfl
      have hos : sumN (m + 1) o = sumN m o + o m := rfl
      have hon := ones_le (lpt (tn t) (eL E e) s m)
      refine st_iload hc dX1_sumBehind_86 rfl ?_
      refine st_aload_n hc dX1_sumBehind_88 rfl rfl ?_
      refine st_getr hc dX1_sumBehind_89 flX1_35 y0 rfl ?_
      refine st_iload_n hc dX1_sumBehind_92 rfl rfl ?_
      refine st_ialdN (k := e) hc dX1_sumBehind_93 y4 (rfl) (by omega) (by first | decide | omega) ((by rw [i1.1 (b + 4) (by omega), ← hσ.1 (b + 4) (by omega)]; exact r3 : _ = nI (eM E e))) ?_
      refine st_icmp_ge (tgt := 164) hc dX1_sumBehind_94 (by decide) (fun h94 => ?_) (fun h94 => ?_)
      · exact absurd h94 (nI_ge hm (by omega))
      · refine st_iload hc dX1_sumBehind_97 rfl ?_
        refine st_iload hc dX1_sumBehind_99 rfl ?_
        refine st_icmp_ge (tgt := 164) hc dX1_sumBehind_101 (by decide) (fun h101 => ?_) (fun h101 => ?_)
        · have h101 := (nI_leI (by omega) (by omega)).mp h101
          have hv := hfin m X Bd (by omega) i2 i3 h101
          refine st_iload hc dX1_sumBehind_164 rfl ?_
          refine st_iload hc dX1_sumBehind_166 rfl ?_
          refine st_icmp_ge (tgt := 176) hc dX1_sumBehind_168 (by decide) (fun h168 => ?_) (fun h168 => ?_)
          · refine st_iconst (v := 0) hc dX1_sumBehind_176 (by decide) ?_
            refine st_iret (st := []) hc dX1_sumBehind_177 rfl ?_
            rw [hv]
            exact ⟨rfl, i1⟩
          · exact absurd (nI_le h101 (by omega)) h168
        · refine st_aload_n hc dX1_sumBehind_104 rfl rfl ?_
          refine st_getr hc dX1_sumBehind_105 flX1_38 y0 rfl ?_
          refine st_iload hc dX1_sumBehind_108 rfl ?_
          refine st_iload hc dX1_sumBehind_110 rfl ?_
          refine st_iadd hc dX1_sumBehind_112 ?_
          refine st_ialdN (k := 10 * e + m) hc dX1_sumBehind_113 y5 (by rw [nI_add]) (by omega) (by first | decide | omega) ((by rw [i1.1 (b + 5) (by omega), ← hσ.1 (b + 5) (by omega)]; exact r4 m hm : _ = nI (fbits (tn t) (fun k => eL E e k == m)))) ?_
          refine st_iload_n hc dX1_sumBehind_114 rfl rfl ?_
          refine st_iand hc dX1_sumBehind_115 ?_
          rw [nI_and, cl_and]
          refine st_istore hc dX1_sumBehind_116 (by decide) rfl ?_
          refine st_iload hc dX1_sumBehind_118 rfl ?_
          refine st_if_eq (tgt := 158) hc dX1_sumBehind_120 (by decide) (fun h120 => ?_) (fun h120 => ?_)
          · have h120 : lpt (tn t) (eL E e) s m = 0 := nI_inj (b := 0) (by have := hpl m; omega) (by decide) h120
            have hnx := ih τ X Bd ⟨i1, by rw [hFs, i2, hFm, if_pos h120]; rfl, by rw [hos, hom, if_pos h120]; exact i3⟩
            refine st_inc hc dX1_sumBehind_158 rfl (by decide) rfl ?_
            rw [nI_1]
            refine st_goto (tgt := 86) hc dX1_sumBehind_161 (by decide) ?_
            exact st_lvq _ (by simp [lvq, List.set]) hnx
          · have h120 : ¬ lpt (tn t) (eL E e) s m = 0 := fun q => h120 (by rw [q]; rfl)
            have hpm := hpos m h120
            have hlt : ones (lpt (tn t) (eL E e) s m) < ones s := hlt0 hcand m hm h120
            refine st_aload_n hc dX1_sumBehind_123 rfl rfl ?_
            refine st_iload hc dX1_sumBehind_124 rfl ?_
            refine st_iload_n hc dX1_sumBehind_126 rfl rfl ?_
            refine st_iconst (v := 1) hc dX1_sumBehind_127 (by decide) ?_
            refine st_isub hc dX1_sumBehind_128 ?_
            rw [show (1 : Int32) = nI 1 from rfl, nI_sub (by omega)]
            refine st_callVq hc dX1_sumBehind_129 (hLS _ (by omega) (hpl m) hlt τ i1) mvX1_129 (by omega) rfl y0 rfl (Nat.le_of_ble_eq_true rfl) ?_
            rintro τ1 j1
            refine st_istore hc dX1_sumBehind_132 (by decide) rfl ?_
            refine st_iload hc dX1_sumBehind_134 rfl ?_
            refine st_if_ne (tgt := 141) hc dX1_sumBehind_136 (by decide) (fun h136 => ?_) (fun h136 => ?_)
            · obtain ⟨q, hq⟩ : ∃ q, ms t (dd - 1) (lpt (tn t) (eL E e) s m) = some q := by
                rcases hz : ms t (dd - 1) (lpt (tn t) (eL E e) s m) with _ | q
                · rw [hz] at h136; exact absurd rfl h136
                · exact ⟨q, rfl⟩
              have hqg := ms_ge ht _ (by omega) (hpl m) _ q hq
              have hql : q.1 ≤ 121 := hFl m q.1 (by rw [hFm, if_neg h120, hq]; rfl)
              have hvq : vS (ms t (dd - 1) (lpt (tn t) (eL E e) s m)) = q.1 := by rw [hq]; rfl
              have hpc : pc32 (lpt (tn t) (eL E e) s m) = ones (lpt (tn t) (eL E e) s m) := pc_ones (by have := hpl m; omega)
              have hnx := ih τ1 (X + q.1) (Bd + (q.1 - (2 * ones (lpt (tn t) (eL E e) s m) - 1))) ⟨j1, by rw [hFs, i2, hFm, if_neg h120, hq]; rfl, by rw [hos, hom, if_neg h120]; omega⟩
              refine st_iload hc dX1_sumBehind_141 rfl ?_
              refine st_iload hc dX1_sumBehind_143 rfl ?_
              refine st_iconst (v := 2) hc dX1_sumBehind_145 (by decide) ?_
              refine st_iload hc dX1_sumBehind_146 rfl ?_
              refine st_callSp hc dX1_sumBehind_148 (CJ_bitCount YC D τ1 _ (by have := hpl m; omega)) msX1_143 (by omega) rfl rfl (Nat.le_of_ble_eq_true rfl) ?_
              refine st_imul hc dX1_sumBehind_151 ?_
              rw [hpc, show (2 : Int32) = nI 2 from rfl, pk_mul]
              refine st_iconst (v := 1) hc dX1_sumBehind_152 (by decide) ?_
              refine st_isub hc dX1_sumBehind_153 ?_
              rw [show (1 : Int32) = nI 1 from rfl, nI_sub (by omega)]
              refine st_isub hc dX1_sumBehind_154 ?_
              rw [hvq, nI_sub (by omega)]
              refine st_iadd hc dX1_sumBehind_155 ?_
              rw [nI_add]
              refine st_istore hc dX1_sumBehind_156 (by decide) rfl ?_
              refine st_inc hc dX1_sumBehind_158 rfl (by decide) rfl ?_
              rw [nI_1]
              refine st_goto (tgt := 86) hc dX1_sumBehind_161 (by decide) ?_
              exact st_lvq _ (by simp [lvq, List.set]) hnx
            · have hq : ms t (dd - 1) (lpt (tn t) (eL E e) s m) = none := by
                rcases hz : ms t (dd - 1) (lpt (tn t) (eL E e) s m) with _ | q
                · rfl
                · have hqg := ms_ge ht _ (by omega) (hpl m) _ q hz
                  have hql : q.1 ≤ 121 := hFl m q.1 (by rw [hFm, if_neg h120, hz]; rfl)
                  rw [hz] at h136
                  have := nI_inj (a := q.1) (b := 0) (by omega) (by decide) h136
                  omega
              refine st_iconst (v := 0) hc dX1_sumBehind_139 (by decide) ?_
              refine st_iret (st := []) hc dX1_sumBehind_140 rfl ?_
              rw [hmsC hcand, sumO_none hm (by rw [hFm, if_neg h120, hq]; rfl)]
              exact ⟨rfl, j1⟩
  have hin : (if nI (fbits (tn t) (fun k => tL t k == gg) &&& s) = 0 then (0 : Int32) else 1) = bI (hasFu t gg s) := by
    have hl : (fbits (tn t) (fun k => tL t k == gg) &&& s) < 2 ^ 31 := Nat.lt_of_le_of_lt Nat.and_le_left (fbits_lt31 (by omega) _)
    rcases hz : hasFu t gg s with _ | _
    · rw [(own_and ht r5).mpr hz]; rfl
    · rw [if_neg (fun q => by
        have := (own_and ht r5).mp (nI_inj (b := 0) hl (by decide) q)
        rw [hz] at this
        exact absurd this (by decide))]
      rfl
  have hif : (if bI (hasFu t gg s) = 0 then (0 : Int32) else 2) = nI (2 * inn) := by
    rw [← hIn]
    rcases hasFu t gg s with _ | _ <;> rfl
  have hnpp := npt_pos ht r5 hs (by rw [hIn]; omega)
  have hpcs : pc32 s = ones s := pc_ones (by omega)
  have hci := C1_classesIn D σ hY ht hD hE (s := s) he
  rw [hG] at hci
  refine st_aload_n hc dX1_sumBehind_0 rfl rfl ?_
  refine st_getr hc dX1_sumBehind_1 flX1_32 y0 rfl ?_
  refine st_iload_n hc dX1_sumBehind_4 rfl rfl ?_
  refine st_ialdN (k := e) hc dX1_sumBehind_5 y3 (rfl) (by omega) (by first | decide | omega) (r2) ?_
  refine st_iload_n hc dX1_sumBehind_6 rfl rfl ?_
  refine st_iand hc dX1_sumBehind_7 ?_
  rw [nI_and]
  refine st_t_if_eq (a := 1) (b := 0) hc dX1_sumBehind_8 dX1_sumBehind_11 dX1_sumBehind_12 dX1_sumBehind_15 (by decide) (by decide) ?_
  rw [hin]
  refine st_istore hc dX1_sumBehind_16 (by decide) rfl ?_
  refine st_aload_n hc dX1_sumBehind_18 rfl rfl ?_
  refine st_iload_n hc dX1_sumBehind_19 rfl rfl ?_
  refine st_iload_n hc dX1_sumBehind_20 rfl rfl ?_
  refine st_callVp hc dX1_sumBehind_21 (hci) mvX1_154 (by omega) rfl y0 rfl (Nat.le_of_ble_eq_true rfl) ?_
  refine st_istore hc dX1_sumBehind_24 (by decide) rfl ?_
  refine st_iload hc dX1_sumBehind_26 rfl ?_
  refine st_if_eq (tgt := 40) hc dX1_sumBehind_28 (by decide) (fun h28 => ?_) (fun h28 => ?_)
  · have h28 := bI_0.mp h28
    rw [h28, if_neg (by decide)] at hcd
    refine st_aload_n hc dX1_sumBehind_40 rfl rfl ?_
    refine st_getE hc dX1_sumBehind_41 flX1_25 y0 rfl (d1) ?_
    refine st_if_eq (tgt := 53) hc dX1_sumBehind_44 (by decide) (fun h44 => ?_) (fun h44 => ?_)
    · have h44 : tpo t = true := by simpa using bI_0.mp h44
      rw [h44] at hcd
      have hcd : cand t gg s = false := by rw [hcd]; rfl
      refine st_iconst (v := 0) hc dX1_sumBehind_53 (by decide) ?_
      refine st_iret (st := []) hc dX1_sumBehind_54 rfl ?_
      rw [hno hcd]
      exact ⟨rfl, hσ⟩
    · have h44 : (!tpo t) = true := bI_t h44
      rw [h44, Bool.true_and] at hcd
      refine st_iload hc dX1_sumBehind_47 rfl ?_
      refine st_iconst (v := 2) hc dX1_sumBehind_49 (by decide) ?_
      refine st_icmp_ge (tgt := 55) hc dX1_sumBehind_50 (by decide) (fun h50 => ?_) (fun h50 => ?_)
      · have h50 := (nI_leI (a := 2) (by decide) (by omega)).mp h50
        rw [decide_eq_true h50] at hcd
        refine st_iconst (v := 3) hc dX1_sumBehind_55 (by decide) ?_
        refine st_iload_n hc dX1_sumBehind_56 rfl rfl ?_
        refine st_callSp hc dX1_sumBehind_57 (CJ_bitCount YC D σ s (by omega)) msX1_143 (by omega) rfl rfl (Nat.le_of_ble_eq_true rfl) ?_
        refine st_imul hc dX1_sumBehind_60 ?_
        rw [hpcs, show (3 : Int32) = nI 3 from rfl, pk_mul]
        refine st_iload hc dX1_sumBehind_61 rfl ?_
        refine st_isub hc dX1_sumBehind_63 ?_
        rw [nI_sub (by omega)]
        refine st_iload hc dX1_sumBehind_64 rfl ?_
        refine st_t_if_eq (a := 2) (b := 0) hc dX1_sumBehind_66 dX1_sumBehind_69 dX1_sumBehind_70 dX1_sumBehind_73 (by decide) (by decide) ?_
        rw [hif]
        refine st_isub hc dX1_sumBehind_74 ?_
        rw [nI_sub (by omega)]
        refine st_istore hc dX1_sumBehind_75 (by decide) rfl ?_
        refine st_iload_n hc dX1_sumBehind_77 rfl rfl ?_
        refine st_bipush (v := 10) hc dX1_sumBehind_78 (by decide) ?_
        refine st_imul hc dX1_sumBehind_80 ?_
        rw [show (10 : Int32) = nI 10 from rfl, pk_mul, Nat.mul_comm e 10]
        refine st_istore hc dX1_sumBehind_81 (by decide) rfl ?_
        refine st_iconst (v := 0) hc dX1_sumBehind_83 (by decide) ?_
        refine st_istore hc dX1_sumBehind_84 (by decide) rfl ?_
        exact k86 hcd (3 * ones s - npt t gg s - 2 * inn) (by omega) _ _ σ 0 _ ⟨hσ, rfl, rfl⟩
      · have h50 : ¬ 2 ≤ npt t gg s := fun q => h50 (nI_le (a := 2) q (by omega))
        rw [decide_eq_false h50] at hcd
        refine st_iconst (v := 0) hc dX1_sumBehind_53 (by decide) ?_
        refine st_iret (st := []) hc dX1_sumBehind_54 rfl ?_
        rw [hno hcd]
        exact ⟨rfl, hσ⟩
  · have h28 := bI_t h28
    rw [h28, if_pos rfl] at hcd
    refine st_iload hc dX1_sumBehind_31 rfl ?_
    refine st_iconst (v := 1) hc dX1_sumBehind_33 (by decide) ?_
    refine st_icmp_ge (tgt := 55) hc dX1_sumBehind_34 (by decide) (fun h34 => ?_) (fun h34 => ?_)
    · refine st_iconst (v := 3) hc dX1_sumBehind_55 (by decide) ?_
      refine st_iload_n hc dX1_sumBehind_56 rfl rfl ?_
      refine st_callSp hc dX1_sumBehind_57 (CJ_bitCount YC D σ s (by omega)) msX1_143 (by omega) rfl rfl (Nat.le_of_ble_eq_true rfl) ?_
      refine st_imul hc dX1_sumBehind_60 ?_
      rw [hpcs, show (3 : Int32) = nI 3 from rfl, pk_mul]
      refine st_iload hc dX1_sumBehind_61 rfl ?_
      refine st_isub hc dX1_sumBehind_63 ?_
      rw [nI_sub (by omega)]
      refine st_iload hc dX1_sumBehind_64 rfl ?_
      refine st_t_if_eq (a := 2) (b := 0) hc dX1_sumBehind_66 dX1_sumBehind_69 dX1_sumBehind_70 dX1_sumBehind_73 (by decide) (by decide) ?_
      rw [hif]
      refine st_isub hc dX1_sumBehind_74 ?_
      rw [nI_sub (by omega)]
      refine st_istore hc dX1_sumBehind_75 (by decide) rfl ?_
      refine st_iload_n hc dX1_sumBehind_77 rfl rfl ?_
      refine st_bipush (v := 10) hc dX1_sumBehind_78 (by decide) ?_
      refine st_imul hc dX1_sumBehind_80 ?_
      rw [show (10 : Int32) = nI 10 from rfl, pk_mul, Nat.mul_comm e 10]
      refine st_istore hc dX1_sumBehind_81 (by decide) rfl ?_
      refine st_iconst (v := 0) hc dX1_sumBehind_83 (by decide) ?_
      refine st_istore hc dX1_sumBehind_84 (by decide) rfl ?_
      exact k86 hcd (3 * ones s - npt t gg s - 2 * inn) (by omega) _ _ σ 0 _ ⟨hσ, rfl, rfl⟩
    · exact absurd (nI_le (a := 1) hnpp (by omega)) h34

