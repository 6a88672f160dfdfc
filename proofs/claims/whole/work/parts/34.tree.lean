/-! ===== the tree that the reference writes ===== -/
abbrev It : Type := Nat × Int32 × Int32 × Nat
abbrev Nd : Type := Nat × Int32 × Int32 × Nat × Nat
/-- the row of the tables for a node at depth dp, within w (0: any) -/
def lev (w dp : Nat) : Nat := if w = 0 then 0 else w - dp + 1
def bg (t : TD) (d s : Nat) : Nat := match ms t d s with
  | some b => b.2
  | none => 0
/-- the parts that wait behind guess g, of the answers 60 - j .. 59, rising -/
def kdF (t : TD) (g s c dp j : Nat) : List It := match j with
  | 0 => []
  | j + 1 => if pA t g s (59 - j) = 0 then kdF t g s c dp j else (pA t g s (59 - j), nI c, nI (59 - j), dp + 1) :: kdF t g s c dp j
def ndO (t : TD) (w : Nat) (i : It) : Nd := (bg t (lev w i.2.2.2) i.1, i.2.1, i.2.2.1, ones i.1, i.2.2.2)
/-- the nodes, in the order in which they are written; c are written -/
def runT (t : TD) (w : Nat) (f : Nat) (st : List It) (c : Nat) : List Nd := match f, st with
  | 0, _ => []
  | _ + 1, [] => []
  | f + 1, i :: r => ndO t w i :: runT t w f (kdF t (bg t (lev w i.2.2.2) i.1) i.1 c i.2.2.2 60 ++ r) (c + 1)
/-- what waits has a tree -/
def itOK (t : TD) (w : Nat) (i : It) : Prop := 0 < i.1 ∧ i.1 < 2 ^ tn t ∧ (∃ b, ms t (lev w i.2.2.2) i.1 = some b) ∧ 1 ≤ i.2.2.2 ∧ i.2.2.2 ≤ 30 ∧ (w = 0 ∨ i.2.2.2 ≤ w)
def pot (st : List It) : Nat := match st with
  | [] => 0
  | i :: r => (2 * ones i.1 - 1) + pot r
theorem pot_app (a b : List It) : pot (a ++ b) = pot a + pot b := by
  induction a with
  | nil => rw [List.nil_append]; show pot b = 0 + pot b; omega
  | cons i r ih => show (2 * ones i.1 - 1) + pot (r ++ b) = (2 * ones i.1 - 1) + pot r + pot b; rw [ih]; omega
theorem sumO_ex {f : Nat → Option Nat} : ∀ n x, sumO f n = some x → ∀ i, i < n → ∃ y, f i = some y := by
  intro n
  induction n with
  | zero => intro x _ i hi; omega
  | succ n ih =>
    intro x h i hi
    rw [sumO] at h
    cases h1 : sumO f n with
    | none => rw [h1] at h; cases h
    | some y =>
      cases h2 : f n with
      | none => rw [h1, h2] at h; cases h
      | some z =>
        by_cases q : i = n
        · subst q; exact ⟨z, h2⟩
        · exact ih y h1 i (by omega)
/-- a best guess: it may be made, and every part has its own best -/
theorem bg_ok {t : TD} (ht : tOK t) {d s : Nat} (hs : s < 2 ^ tn t) (h : ∃ b, ms t d s = some b) : bg t d s < tN2 t ∧ cand t (bg t d s) s = true ∧ ∀ a, a < 60 → ¬ pA t (bg t d s) s a = 0 → ¬ d = 1 ∧ ∃ b, ms t (d - 1) (pA t (bg t d s) s a) = some b := by
  obtain ⟨b, hb⟩ := h
  have e : bg t d s = b.2 := by unfold bg; rw [hb]
  rw [e]
  rw [ms_eq ht d hs] at hb
  obtain ⟨h1, h2⟩ := bstO_val _ _ hb
  unfold msC at h2
  by_cases hc : cand t b.2 s = true
  · rw [if_pos hc, Option.map_eq_some_iff] at h2
    obtain ⟨x, h3, -⟩ := h2
    refine ⟨h1, hc, fun a ha hp => ?_⟩
    obtain ⟨y, hy⟩ := sumO_ex 60 x h3 a ha
    rw [if_neg hp] at hy
    by_cases hd : d = 1
    · rw [if_pos hd] at hy; cases hy
    · rw [if_neg hd, Option.map_eq_some_iff] at hy
      obtain ⟨b2, hb2, -⟩ := hy
      exact ⟨hd, b2, hb2⟩
  · rw [if_neg hc] at h2; cases h2
theorem kdF_ok {t : TD} (ht : tOK t) {w c : Nat} (hw : w ≤ 10) {i : It} (hi : itOK t w i) (h9 : i.2.2.2 ≤ 29) : ∀ j, j ≤ 60 → ∀ q ∈ kdF t (bg t (lev w i.2.2.2) i.1) i.1 c i.2.2.2 j, itOK t w q := by
  obtain ⟨i1, i2, i3, i4, i5, i6⟩ := hi
  obtain ⟨-, hcd, hparts⟩ := bg_ok ht i2 i3
  intro j
  induction j with
  | zero => intro _ q hq; cases hq
  | succ j ih =>
    intro hj q hq
    rw [kdF] at hq
    split at hq
    · exact ih (by omega) q hq
    · rename_i hp
      rcases List.mem_cons.mp hq with e | hq
      · subst e
        obtain ⟨hd1, hb⟩ := hparts (59 - j) (by omega) hp
        have hdw : w = 0 ∨ i.2.2.2 + 1 ≤ w := by
          rcases i6 with z | z
          · exact Or.inl z
          · by_cases y : w = 0
            · exact Or.inl y
            · unfold lev at hd1
              rw [if_neg y] at hd1
              exact Or.inr (by omega)
        have hlv : lev w (i.2.2.2 + 1) = lev w i.2.2.2 - 1 := by
          unfold lev
          by_cases z : w = 0
          · rw [if_pos z, if_pos z]
          · rw [if_neg z, if_neg z]; rcases hdw with q | q; exact absurd q z; omega
        refine ⟨Nat.pos_of_ne_zero hp, pA_lt _ _ _, ?_, show 1 ≤ i.2.2.2 + 1 by omega, show i.2.2.2 + 1 ≤ 30 by omega, hdw⟩
        show ∃ b, ms t (lev w (i.2.2.2 + 1)) _ = some b
        rw [hlv]; exact hb
      · exact ih (by omega) q hq
theorem sumN_at {n a x : Nat} (h : a < n) : sumN n (fun b => if b = a then x else 0) = x := by
  have h0 : ∀ m, m ≤ a → sumN m (fun b => if b = a then x else 0) = 0 := by
    intro m
    induction m with
    | zero => intro _; rfl
    | succ m ih => intro hm; rw [sumN, ih (by omega), if_neg (by omega)]
  induction n with
  | zero => omega
  | succ n ih =>
    rw [sumN]
    by_cases e : a = n
    · subst e; rw [h0 a (Nat.le_refl _), if_pos rfl]; omega
    · rw [ih (by omega), if_neg (by omega), Nat.add_zero]
theorem sum_onesP (t : TD) (g s : Nat) : sumN 60 (fun a => ones (prt s (tA t g) (tn t) a)) ≤ ones s := by
  have hb : ∀ a m, (prt s (tA t g) (tn t) a).testBit m = true → s.testBit m = true ∧ tA t g m = a := by
    intro a m h
    rw [mem_bit] at h
    simp only [Bool.and_eq_true, beq_iff_eq] at h
    exact h.2
  have key : ∀ m, sumN 60 (fun a => cnt m (fun i => (prt s (tA t g) (tn t) a).testBit i)) ≤ cnt m (fun i => s.testBit i) := by
    intro m
    induction m with
    | zero =>
      have : ∀ C, sumN C (fun a => cnt 0 (fun i => (prt s (tA t g) (tn t) a).testBit i)) = 0 := by
        intro C
        induction C with
        | zero => rfl
        | succ C ih => simp only [sumN]; rw [ih]; rfl
      rw [this]
      exact Nat.le_refl _
    | succ m ih =>
      have e : sumN 60 (fun a => cnt (m + 1) (fun i => (prt s (tA t g) (tn t) a).testBit i)) = sumN 60 (fun a => cnt m (fun i => (prt s (tA t g) (tn t) a).testBit i)) + sumN 60 (fun a => if (prt s (tA t g) (tn t) a).testBit m = true then 1 else 0) := by
        rw [← sumN_add]
        rfl
      have e2 : cnt (m + 1) (fun i => s.testBit i) = cnt m (fun i => s.testBit i) + (if s.testBit m = true then 1 else 0) := rfl
      rw [e, e2]
      have h1 : sumN 60 (fun a => if (prt s (tA t g) (tn t) a).testBit m = true then 1 else 0) ≤ (if s.testBit m = true then 1 else 0) := by
        by_cases q : s.testBit m = true
        · rw [if_pos q]
          refine Nat.le_trans (sumN_mono (fun a _ => ?_)) (sumN_one 60 (tA t g m))
          by_cases z : (prt s (tA t g) (tn t) a).testBit m = true
          · rw [if_pos z, if_pos (beq_iff_eq.mpr (hb a m z).2)]; exact Nat.le_refl _
          · rw [if_neg z]; exact Nat.zero_le _
        · rw [if_neg q]
          have : sumN 60 (fun a => if (prt s (tA t g) (tn t) a).testBit m = true then 1 else 0) = sumN 60 (fun _ => 0) := sumN_congr (fun a _ => if_neg (fun z => q (hb a m z).1))
          rw [this]
          exact Nat.le_of_eq rfl
      omega
  exact key 11
theorem sum_full {t : TD} {g s : Nat} (h60 : tfu t < 60) (hn : tn t ≤ 10) (h : hasFu t g s = true) (hs : s < 2 ^ 11) : sumN 60 (fun a => ones (pA t g s a)) + 1 ≤ ones s := by
  have h1 := sum_onesP t g s
  have e : sumN 60 (fun a => ones (prt s (tA t g) (tn t) a)) = sumN 60 (fun a => ones (pA t g s a)) + ones (prt s (tA t g) (tn t) (tfu t)) := by
    rw [← sumN_at (n := 60) (x := ones (prt s (tA t g) (tn t) (tfu t))) h60, ← sumN_add]
    refine sumN_congr (fun a _ => ?_)
    unfold pA
    by_cases q : a = tfu t
    · rw [if_pos q, if_pos q, q]; show _ = ones 0 + _; rw [show ones 0 = 0 by decide]; omega
    · rw [if_neg q, if_neg q]; omega
  have h2 : 0 < ones (prt s (tA t g) (tn t) (tfu t)) := by
    refine ones_pos ?_ (Nat.lt_of_le_of_lt (prt_sub _ _ _ _).le hs)
    intro z
    obtain ⟨k, hk, h4⟩ := (anyN_iff _ _).mp h
    have := mem_bit (s := s) (A := tA t g) (n := tn t) (a := tfu t) (i := k)
    rw [z, Nat.zero_testBit, decide_eq_true hk, Bool.true_and] at this
    unfold mem at h4
    rw [h4] at this
    cases this
  omega
/-- what waits behind a node weighs less than the node -/
theorem kdF_pot {t : TD} (ht : tOK t) (h60 : tfu t < 60) {g s c dp : Nat} (hs0 : 0 < s) (hs : s < 2 ^ tn t) (hc : cand t g s = true) : pot (kdF t g s c dp 60) + 1 ≤ 2 * ones s - 1 := by
  have hs11 : s < 2 ^ 11 := Nat.lt_of_lt_of_le hs (Nat.pow_le_pow_right (by decide) (by have := ht.1; omega))
  have hos := ones_pos (show ¬ s = 0 by omega) hs11
  have e1 : ∀ j, j ≤ 60 → pot (kdF t g s c dp j) + sumN (60 - j) (fun a => if pA t g s a = 0 then 0 else 2 * ones (pA t g s a) - 1) = sumN 60 (fun a => if pA t g s a = 0 then 0 else 2 * ones (pA t g s a) - 1) := by
    intro j
    induction j with
    | zero => intro _; show 0 + _ = _; rw [Nat.zero_add, Nat.sub_zero]
    | succ j ih =>
      intro hj
      have h1 := ih (by omega)
      rw [show 60 - j = (60 - (j + 1)) + 1 by omega, sumN, show 60 - (j + 1) = 59 - j by omega] at h1
      rw [show 60 - (j + 1) = 59 - j by omega, kdF]
      by_cases q : pA t g s (59 - j) = 0
      · rw [if_pos q] at h1 ⊢; omega
      · rw [if_neg q] at h1 ⊢; show (2 * ones (pA t g s (59 - j)) - 1) + pot _ + _ = _; omega
  have h1 := e1 60 (Nat.le_refl _)
  rw [Nat.sub_self] at h1
  have e2 : sumN 60 (fun a => if pA t g s a = 0 then 0 else 2 * ones (pA t g s a) - 1) + npt t g s = 2 * sumN 60 (fun a => ones (pA t g s a)) := by
    have key : ∀ n, sumN n (fun a => if pA t g s a = 0 then 0 else 2 * ones (pA t g s a) - 1) + cnt n (fun a => decide (¬ pA t g s a = 0)) = 2 * sumN n (fun a => ones (pA t g s a)) := by
      intro n
      induction n with
      | zero => rfl
      | succ n ih =>
        rw [sumN, sumN, cnt]
        by_cases q : pA t g s n = 0
        · rw [if_pos q, if_neg (by simp [q]), q, show ones 0 = 0 by decide]; omega
        · have := ones_pos q (Nat.lt_of_lt_of_le (pA_lt g s n) (Nat.pow_le_pow_right (by decide) (by have := ht.1; omega)))
          rw [if_neg q, if_pos (decide_eq_true q)]; omega
    exact key 60
  have h3 := sum_ones t g s
  have e0 : sumN 0 (fun a => if pA t g s a = 0 then 0 else 2 * ones (pA t g s a) - 1) = 0 := rfl
  rw [e0, Nat.add_zero] at h1
  by_cases hf : hasFu t g s = true
  · have h4 := sum_full h60 ht.1 hf hs11
    omega
  · have hf : hasFu t g s = false := by rcases hb : hasFu t g s with _ | _; rfl; exact absurd hb hf
    unfold cand at hc
    rw [Bool.and_eq_true, hf] at hc
    by_cases ho : ones s = 1
    · exfalso
      have hc1 := hc.1
      rw [ho] at hc1
      have h5 : inS (tn t) (tL t) s g = true := by
        rcases hb : inS (tn t) (tL t) s g with _ | _
        · rw [hb] at hc1; simp at hc1
        · rfl
      obtain ⟨k, hk, h6⟩ := (anyN_iff _ _).mp h5
      simp only [Bool.and_eq_true, beq_iff_eq] at h6
      have : hasFu t g s = true := (anyN_iff _ _).mpr ⟨k, hk, by unfold mem; rw [h6.1, ← h6.2, ht.2.1 k hk]; simp⟩
      rw [this] at hf
      cases hf
    · have h2 : ¬ npt t g s = 1 := by
        intro q
        have := hc.2
        rw [q, decide_eq_true (show 1 < ones s by omega)] at this
        simp at this
      have h5 : ¬ npt t g s = 0 := by
        intro q
        obtain ⟨k, hk⟩ := bit_ex (show ¬ s = 0 by omega)
        have hkn : k < tn t := by
          rcases Nat.lt_or_ge k (tn t) with z | z
          · exact z
          · rw [Nat.testBit_lt_two_pow (Nat.lt_of_lt_of_le hs (Nat.pow_le_pow_right (by decide) z))] at hk; cases hk
        have hA := ht.2.2 g k hkn
        have hne : ¬ tA t g k = tfu t := fun z => by
          have : hasFu t g s = true := (anyN_iff _ _).mpr ⟨k, hkn, by unfold mem; rw [hk, z]; simp⟩
          rw [this] at hf
          cases hf
        have hp : ¬ pA t g s (tA t g k) = 0 := by
          unfold pA
          rw [if_neg hne]
          intro z
          have := mem_bit (s := s) (A := tA t g) (n := tn t) (a := tA t g k) (i := k)
          rw [z, Nat.zero_testBit, decide_eq_true hkn, hk] at this
          simp at this
        have := cnt_lt hA (p := fun a => decide (¬ pA t g s a = 0)) (decide_eq_true hp)
        unfold npt at q
        omega
      omega

