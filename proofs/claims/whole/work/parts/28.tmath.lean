/-! ===== trees: least sums and depths, as numbers ===== -/
/-- members, codes, the full answer, only members may be guessed, answers, the members' codes -/
abbrev TD : Type := Nat × Nat × Nat × Bool × (Nat → Nat → Nat) × (Nat → Nat)
abbrev tn (t : TD) : Nat := t.1
abbrev tN2 (t : TD) : Nat := t.2.1
abbrev tfu (t : TD) : Nat := t.2.2.1
abbrev tpo (t : TD) : Bool := t.2.2.2.1
abbrev tA (t : TD) (g k : Nat) : Nat := t.2.2.2.2.1 g k
abbrev tL (t : TD) (k : Nat) : Nat := t.2.2.2.2.2 k
def tOK (t : TD) : Prop := tn t ≤ 10 ∧ (∀ k, k < tn t → tA t (tL t k) k = tfu t) ∧ ∀ g k, k < tn t → tA t g k < 60
/-- the part of s with the answer a to g; none for the full answer -/
def pA (t : TD) (g s a : Nat) : Nat := if a = tfu t then 0 else prt s (tA t g) (tn t) a
def npt (t : TD) (g s : Nat) : Nat := cnt 60 (fun a => decide (¬ pA t g s a = 0))
def hasFu (t : TD) (g s : Nat) : Bool := anyN (tn t) (mem s (tA t g) (tfu t))
/-- may g be guessed for the set s -/
def cand (t : TD) (g s : Nat) : Bool := !((tpo t || ones s == 1) && !inS (tn t) (tL t) s g) && !((npt t g s + (if hasFu t g s = true then 1 else 0) == 1) && decide (1 < ones s))
def sumO (f : Nat → Option Nat) (n : Nat) : Option Nat := match n with
  | 0 => some 0
  | n + 1 => match sumO f n, f n with
    | some x, some y => some (x + y)
    | _, _ => none
def maxO (f : Nat → Option Nat) (n : Nat) : Option Nat := match n with
  | 0 => some 0
  | n + 1 => match maxO f n, f n with
    | some x, some y => some (if x < y then y else x)
    | _, _ => none
/-- the least cost so far, and the first that has it -/
def bstO (c : Nat → Option Nat) (n : Nat) : Option (Nat × Nat) := match n with
  | 0 => none
  | n + 1 => match bstO c n, c n with
    | some b, some v => if v < b.1 then some (v, n) else some b
    | none, some v => some (v, n)
    | r, none => r
def msC (t : TD) (f : Nat → Nat → Option (Nat × Nat)) (d s g : Nat) : Option Nat :=
  if cand t g s = true then (sumO (fun a => if pA t g s a = 0 then some 0 else if d = 1 then none else (f (d - 1) (pA t g s a)).map Prod.fst) 60).map (fun x => ones s + x) else none
def msT (t : TD) (f : Nat) : Nat → Nat → Option (Nat × Nat) := match f with
  | 0 => fun _ _ => none
  | f + 1 => fun d s => bstO (msC t (msT t f) d s) (tN2 t)
def mdC (t : TD) (f : Nat → Option (Nat × Nat)) (s g : Nat) : Option Nat :=
  if cand t g s = true then (maxO (fun a => if pA t g s a = 0 then some 0 else (f (pA t g s a)).map Prod.fst) 60).map (fun x => 1 + x) else none
def mdT (t : TD) (f : Nat) : Nat → Option (Nat × Nat) := match f with
  | 0 => fun _ => none
  | f + 1 => fun s => bstO (mdC t (mdT t f) s) (tN2 t)
/-- the least sum of a tree for s within depth d (0: any), and its first guess; the least depth -/
abbrev ms (t : TD) (d s : Nat) : Option (Nat × Nat) := msT t 1024 d s
abbrev md (t : TD) (s : Nat) : Option (Nat × Nat) := mdT t 1024 s
theorem sumO_congr {f h : Nat → Option Nat} : ∀ n, (∀ i, i < n → f i = h i) → sumO f n = sumO h n := by
  intro n
  induction n with
  | zero => intro _; rfl
  | succ n ih => intro e; rw [sumO, sumO, ih (fun i hi => e i (by omega)), e n (by omega)]
theorem maxO_congr {f h : Nat → Option Nat} : ∀ n, (∀ i, i < n → f i = h i) → maxO f n = maxO h n := by
  intro n
  induction n with
  | zero => intro _; rfl
  | succ n ih => intro e; rw [maxO, maxO, ih (fun i hi => e i (by omega)), e n (by omega)]
theorem bstO_congr {c e : Nat → Option Nat} : ∀ n, (∀ i, i < n → c i = e i) → bstO c n = bstO e n := by
  intro n
  induction n with
  | zero => intro _; rfl
  | succ n ih => intro h; rw [bstO, bstO, ih (fun i hi => h i (by omega)), h n (by omega)]
theorem mem_bit {s : Nat} {A : Nat → Nat} {n a i : Nat} : (prt s A n a).testBit i = (decide (i < n) && (s.testBit i && A i == a)) := by
  rw [fbits_bit]
  rfl
/-- p lies in s -/
def subB (p s : Nat) : Prop := ∀ i, p.testBit i = true → s.testBit i = true
theorem prt_sub (s : Nat) (A : Nat → Nat) (n a : Nat) : subB (prt s A n a) s := by
  intro i h
  rw [mem_bit] at h
  simp only [Bool.and_eq_true] at h
  exact h.2.1
theorem subB.le {p s : Nat} (h : subB p s) : p ≤ s := by
  have e : p ||| s = s := by
    apply Nat.eq_of_testBit_eq
    intro i
    rw [Nat.testBit_or]
    rcases hp : p.testBit i with _ | _
    · rw [Bool.false_or]
    · rw [h i hp]; rfl
  rw [← e]
  exact Nat.left_le_or
theorem cnt_strict {n : Nat} {p q : Nat → Bool} (h : ∀ i, i < n → p i = true → q i = true) {j : Nat} (hj : j < n) (h1 : p j = false) (h2 : q j = true) : cnt n p < cnt n q := by
  have hle : ∀ m, (∀ i, i < m → p i = true → q i = true) → cnt m p ≤ cnt m q := by
    intro m
    induction m with
    | zero => intro _; exact Nat.le_refl _
    | succ m ih =>
      intro h
      have := ih (fun i hi => h i (by omega))
      have e1 : cnt (m + 1) p = cnt m p + (if p m = true then 1 else 0) := rfl
      have e2 : cnt (m + 1) q = cnt m q + (if q m = true then 1 else 0) := rfl
      rw [e1, e2]
      by_cases z : p m = true
      · rw [if_pos z, if_pos (h m (by omega) z)]; omega
      · rw [if_neg z]; omega
  induction n with
  | zero => omega
  | succ n ih =>
    have e1 : cnt (n + 1) p = cnt n p + (if p n = true then 1 else 0) := rfl
    have e2 : cnt (n + 1) q = cnt n q + (if q n = true then 1 else 0) := rfl
    rw [e1, e2]
    by_cases e : j = n
    · subst e
      have := hle j (fun i hi => h i (by omega))
      rw [if_neg (by rw [h1]; decide), if_pos h2]
      omega
    · have := ih (fun i hi => h i (by omega)) (by omega)
      by_cases z : p n = true
      · rw [if_pos z, if_pos (h n (by omega) z)]; omega
      · rw [if_neg z]; omega
theorem ones_lt {p s : Nat} (h : subB p s) (hne : ¬ p = s) (hs : s < 2 ^ 11) : ones p < ones s := by
  have hp := h.le
  have : ∃ j, j < 11 ∧ p.testBit j = false ∧ s.testBit j = true := by
    refine Decidable.byContradiction (fun q => hne ?_)
    apply Nat.eq_of_testBit_eq
    intro i
    rcases hp2 : p.testBit i with _ | _
    · rcases hs2 : s.testBit i with _ | _
      · rfl
      · have hi : i < 11 := by
          rcases Nat.lt_or_ge i 11 with z | z
          · exact z
          · rw [Nat.testBit_lt_two_pow (Nat.lt_of_lt_of_le hs (Nat.pow_le_pow_right (by decide) z))] at hs2; cases hs2
        exact absurd ⟨i, hi, hp2, hs2⟩ q
    · rw [h i hp2]
  obtain ⟨j, hj, h1, h2⟩ := this
  exact cnt_strict (fun i _ z => h i z) hj h1 h2
theorem cnt_one {n a : Nat} (h : a < n) : cnt n (fun b => decide (b = a)) = 1 := by
  have h0 : ∀ m, m ≤ a → cnt m (fun b => decide (b = a)) = 0 := by
    intro m hm
    exact cnt0 (fun i hi => decide_eq_false (by omega))
  induction n with
  | zero => omega
  | succ n ih =>
    rw [cnt]
    by_cases e : a = n
    · subst e
      rw [h0 a (Nat.le_refl _)]
      simp
    · rw [ih (by omega), if_neg (by simp; omega)]
theorem bit_ex {s : Nat} (h : ¬ s = 0) : ∃ i, s.testBit i = true := by
  refine Classical.byContradiction (fun q => h ?_)
  apply Nat.eq_of_testBit_eq
  intro i
  rw [Nat.zero_testBit]
  rcases hb : s.testBit i with _ | _
  · rfl
  · exact absurd ⟨i, hb⟩ q
theorem ones_pos {s : Nat} (h : ¬ s = 0) (hs : s < 2 ^ 11) : 0 < ones s := by
  have : ones 0 < ones s := ones_lt (p := 0) (fun i hi => by rw [Nat.zero_testBit] at hi; cases hi) (fun q => h q.symm) hs
  exact Nat.lt_of_le_of_lt (Nat.zero_le _) this
theorem part_ok {t : TD} (ht : tOK t) {g s a : Nat} (hc : cand t g s = true) (hs : s < 2 ^ tn t) (hp : ¬ pA t g s a = 0) (ha : a < 60) : pA t g s a < s ∧ ones (pA t g s a) < ones s := by
  obtain ⟨hn, hself, hA60⟩ := ht
  have hs11 : s < 2 ^ 11 := Nat.lt_of_lt_of_le hs (Nat.pow_le_pow_right (by decide) (by omega))
  have hf : ¬ a = tfu t := fun q => hp (by unfold pA; rw [if_pos q])
  have ep : pA t g s a = prt s (tA t g) (tn t) a := by unfold pA; rw [if_neg hf]
  rw [ep] at hp ⊢
  have hsub := prt_sub s (tA t g) (tn t) a
  have hbit : ∀ i, s.testBit i = true → i < tn t := fun i hi => by
    rcases Nat.lt_or_ge i (tn t) with z | z
    · exact z
    · rw [Nat.testBit_lt_two_pow (Nat.lt_of_lt_of_le hs (Nat.pow_le_pow_right (by decide) z))] at hi; cases hi
  have hne : ¬ prt s (tA t g) (tn t) a = s := by
    intro q
    have hall : ∀ i, s.testBit i = true → tA t g i = a := fun i hi => by
      rw [← q, mem_bit] at hi
      simp only [Bool.and_eq_true, beq_iff_eq] at hi
      exact hi.2.2
    have hs0 : ¬ s = 0 := fun z => hp (by rw [q, z])
    have ho := ones_pos hs0 hs11
    unfold cand at hc
    rw [Bool.and_eq_true] at hc
    by_cases h1 : ones s = 1
    · have h2 := hc.1
      rw [h1] at h2
      have h3 : inS (tn t) (tL t) s g = true := by
        rcases hb : inS (tn t) (tL t) s g with _ | _
        · rw [hb] at h2; simp at h2
        · rfl
      obtain ⟨k, hk, h4⟩ := (anyN_iff _ _).mp h3
      simp only [Bool.and_eq_true, beq_iff_eq] at h4
      have h5 := hall k h4.1
      rw [← h4.2, hself k hk] at h5
      exact hf h5.symm
    · have h2 := hc.2
      have e1 : hasFu t g s = false := by
        rcases hb : hasFu t g s with _ | _
        · rfl
        · obtain ⟨k, hk, h4⟩ := (anyN_iff _ _).mp hb
          unfold mem at h4
          simp only [Bool.and_eq_true, beq_iff_eq] at h4
          exact absurd ((hall k h4.1).symm.trans h4.2) hf
      have e2 : npt t g s = 1 := by
        unfold npt
        rw [← cnt_one ha]
        refine cnt_congr (fun b _ => ?_)
        apply decide_eq_decide.mpr
        constructor
        · intro hb
          have hbf : ¬ b = tfu t := fun z => hb (by unfold pA; rw [if_pos z])
          have eb : pA t g s b = prt s (tA t g) (tn t) b := by unfold pA; rw [if_neg hbf]
          rw [eb] at hb
          obtain ⟨i, hi⟩ := bit_ex hb
          rw [mem_bit] at hi
          simp only [Bool.and_eq_true, beq_iff_eq] at hi
          rw [← hi.2.2, hall i hi.2.1]
        · intro hb
          rw [hb, ep]
          exact hp
      rw [e1, e2] at h2
      have h3 : decide (1 < ones s) = true := decide_eq_true (by omega)
      rw [h3] at h2
      simp at h2
  exact ⟨Nat.lt_of_le_of_ne hsub.le hne, ones_lt hsub hne hs11⟩
theorem pA_lt {t : TD} (g s a : Nat) : pA t g s a < 2 ^ tn t := by
  unfold pA
  split
  · exact Nat.two_pow_pos _
  · exact fbits_lt _ _
/-- more fuel changes nothing -/
theorem msT_fuel {t : TD} (ht : tOK t) : ∀ f f' d s, s < 2 ^ tn t → s < f → s < f' → msT t f d s = msT t f' d s := by
  intro f
  induction f with
  | zero => intro f' d s _ h; omega
  | succ f ih =>
    intro f' d s hs h1 h2
    cases f' with
    | zero => omega
    | succ f' =>
      show bstO (msC t (msT t f) d s) (tN2 t) = bstO (msC t (msT t f') d s) (tN2 t)
      refine bstO_congr _ (fun g _ => ?_)
      unfold msC
      by_cases hc : cand t g s = true
      · rw [if_pos hc, if_pos hc]
        congr 1
        refine sumO_congr _ (fun a ha => ?_)
        by_cases hp : pA t g s a = 0
        · rw [if_pos hp, if_pos hp]
        · rw [if_neg hp, if_neg hp]
          have := (part_ok ht hc hs hp ha).1
          rw [ih f' (d - 1) (pA t g s a) (pA_lt g s a) (by omega) (by omega)]
      · rw [if_neg hc, if_neg hc]
theorem mdT_fuel {t : TD} (ht : tOK t) : ∀ f f' s, s < 2 ^ tn t → s < f → s < f' → mdT t f s = mdT t f' s := by
  intro f
  induction f with
  | zero => intro f' s _ h; omega
  | succ f ih =>
    intro f' s hs h1 h2
    cases f' with
    | zero => omega
    | succ f' =>
      show bstO (mdC t (mdT t f) s) (tN2 t) = bstO (mdC t (mdT t f') s) (tN2 t)
      refine bstO_congr _ (fun g _ => ?_)
      unfold mdC
      by_cases hc : cand t g s = true
      · rw [if_pos hc, if_pos hc]
        congr 1
        refine maxO_congr _ (fun a ha => ?_)
        by_cases hp : pA t g s a = 0
        · rw [if_pos hp, if_pos hp]
        · rw [if_neg hp, if_neg hp]
          have := (part_ok ht hc hs hp ha).1
          rw [ih f' (pA t g s a) (pA_lt g s a) (by omega) (by omega)]
      · rw [if_neg hc, if_neg hc]
/-- the recursion, without fuel -/
theorem ms_eq {t : TD} (ht : tOK t) (d : Nat) {s : Nat} (hs : s < 2 ^ tn t) : ms t d s = bstO (msC t (ms t) d s) (tN2 t) := by
  have h10 : 2 ^ tn t ≤ 1024 := Nat.pow_le_pow_right (by decide) ht.1
  show msT t (1023 + 1) d s = _
  rw [msT_fuel ht 1024 1025 d s hs (by omega) (by omega)]
  rfl
theorem md_eq {t : TD} (ht : tOK t) {s : Nat} (hs : s < 2 ^ tn t) : md t s = bstO (mdC t (md t) s) (tN2 t) := by
  have h10 : 2 ^ tn t ≤ 1024 := Nat.pow_le_pow_right (by decide) ht.1
  show mdT t (1023 + 1) s = _
  rw [mdT_fuel ht 1024 1025 s hs (by omega) (by omega)]
  rfl
theorem bstO_val {c : Nat → Option Nat} : ∀ n b, bstO c n = some b → b.2 < n ∧ c b.2 = some b.1 := by
  intro n
  induction n with
  | zero => intro b h; cases h
  | succ n ih =>
    intro b h
    rw [bstO] at h
    cases h1 : bstO c n with
    | none =>
      cases h2 : c n with
      | none => rw [h1, h2] at h; cases h
      | some v => rw [h1, h2] at h; simp only at h; cases h; exact ⟨by simp, h2⟩
    | some x =>
      cases h2 : c n with
      | none => rw [h1, h2] at h; simp only at h; cases h; have := ih b h1; exact ⟨by omega, this.2⟩
      | some v =>
        rw [h1, h2] at h
        simp only at h
        split at h
        · cases h; exact ⟨by simp, h2⟩
        · cases h; have := ih b h1; exact ⟨by omega, this.2⟩
theorem sumO_le {f : Nat → Option Nat} {b : Nat → Nat} : ∀ n x, sumO f n = some x → (∀ i, i < n → ∀ y, f i = some y → y ≤ b i) → x ≤ sumN n b := by
  intro n
  induction n with
  | zero => intro x h _; cases h; exact Nat.le_refl _
  | succ n ih =>
    intro x h hb
    rw [sumO] at h
    cases h1 : sumO f n with
    | none => rw [h1] at h; cases h
    | some y =>
      cases h2 : f n with
      | none => rw [h1, h2] at h; cases h
      | some z =>
        rw [h1, h2] at h
        simp only at h
        cases h
        have e1 := ih y h1 (fun i hi => hb i (by omega))
        have e2 := hb n (by omega) z h2
        rw [sumN]
        omega
theorem maxO_le {f : Nat → Option Nat} {b : Nat} : ∀ n x, maxO f n = some x → (∀ i, i < n → ∀ y, f i = some y → y ≤ b) → x ≤ b := by
  intro n
  induction n with
  | zero => intro x h _; cases h; exact Nat.zero_le _
  | succ n ih =>
    intro x h hb
    rw [maxO] at h
    cases h1 : maxO f n with
    | none => rw [h1] at h; cases h
    | some y =>
      cases h2 : f n with
      | none => rw [h1, h2] at h; cases h
      | some z =>
        rw [h1, h2] at h
        simp only at h
        cases h
        have e1 := ih y h1 (fun i hi => hb i (by omega))
        have e2 := hb n (by omega) z h2
        split <;> omega
/-- the members of the parts are members of the set -/
theorem sum_ones (t : TD) (g s : Nat) : sumN 60 (fun a => ones (pA t g s a)) ≤ ones s := by
  have hb : ∀ a m, (pA t g s a).testBit m = true → s.testBit m = true ∧ tA t g m = a := by
    intro a m h
    unfold pA at h
    split at h
    · rw [Nat.zero_testBit] at h; cases h
    · rw [mem_bit] at h
      simp only [Bool.and_eq_true, beq_iff_eq] at h
      exact h.2
  have key : ∀ m, sumN 60 (fun a => cnt m (fun i => (pA t g s a).testBit i)) ≤ cnt m (fun i => s.testBit i) := by
    intro m
    induction m with
    | zero =>
      have : ∀ C, sumN C (fun a => cnt 0 (fun i => (pA t g s a).testBit i)) = 0 := by
        intro C
        induction C with
        | zero => rfl
        | succ C ih => simp only [sumN]; rw [ih]; rfl
      rw [this]
      exact Nat.le_refl _
    | succ m ih =>
      have e : sumN 60 (fun a => cnt (m + 1) (fun i => (pA t g s a).testBit i)) = sumN 60 (fun a => cnt m (fun i => (pA t g s a).testBit i)) + sumN 60 (fun a => if (pA t g s a).testBit m = true then 1 else 0) := by
        rw [← sumN_add]
        rfl
      have e2 : cnt (m + 1) (fun i => s.testBit i) = cnt m (fun i => s.testBit i) + (if s.testBit m = true then 1 else 0) := rfl
      rw [e, e2]
      have h1 : sumN 60 (fun a => if (pA t g s a).testBit m = true then 1 else 0) ≤ (if s.testBit m = true then 1 else 0) := by
        by_cases q : s.testBit m = true
        · rw [if_pos q]
          refine Nat.le_trans (sumN_mono (fun a _ => ?_)) (sumN_one 60 (tA t g m))
          by_cases z : (pA t g s a).testBit m = true
          · rw [if_pos z, if_pos (beq_iff_eq.mpr (hb a m z).2)]; exact Nat.le_refl _
          · rw [if_neg z]; exact Nat.zero_le _
        · rw [if_neg q]
          have : sumN 60 (fun a => if (pA t g s a).testBit m = true then 1 else 0) = sumN 60 (fun _ => 0) := sumN_congr (fun a _ => if_neg (fun z => q (hb a m z).1))
          rw [this]
          exact Nat.le_of_eq rfl
      omega
  exact key 11
/-- a finite least sum is small, and so is a least depth -/
theorem ms_le {t : TD} (ht : tOK t) : ∀ N d s b, s ≤ N → s < 2 ^ tn t → ms t d s = some b → b.1 ≤ ones s * ones s := by
  intro N
  induction N with
  | zero =>
    intro d s b h0 hs hb
    rw [ms_eq ht d hs] at hb
    obtain ⟨h1, h2⟩ := bstO_val _ _ hb
    have : s = 0 := by omega
    subst this
    unfold msC at h2
    by_cases hc : cand t b.2 0 = true
    · rw [if_pos hc, Option.map_eq_some_iff] at h2
      obtain ⟨x, h3, h4⟩ := h2
      have h5 := sumO_le (b := fun _ => 0) 60 x h3 (fun a _ y hy => by
        have hp : pA t b.2 0 a = 0 := by
          unfold pA
          split
          · rfl
          · exact Nat.le_zero.mp (prt_sub 0 _ _ _).le
        rw [if_pos hp] at hy
        cases hy
        exact Nat.le_refl _)
      have h6 : sumN 60 (fun _ => 0) = 0 := rfl
      have h7 : ones 0 = 0 := by decide
      rw [h6] at h5
      rw [h7] at h4 ⊢
      omega
    · rw [if_neg hc] at h2; cases h2
  | succ N ih =>
    intro d s b h0 hs hb
    rw [ms_eq ht d hs] at hb
    obtain ⟨h1, h2⟩ := bstO_val _ _ hb
    unfold msC at h2
    by_cases hc : cand t b.2 s = true
    · rw [if_pos hc, Option.map_eq_some_iff] at h2
      obtain ⟨x, h3, h4⟩ := h2
      have h5 := sumO_le (b := fun a => ones (pA t b.2 s a) * (ones s - 1)) 60 x h3 (fun a ha y hy => by
        by_cases hp : pA t b.2 s a = 0
        · rw [if_pos hp] at hy; cases hy; exact Nat.zero_le _
        · rw [if_neg hp] at hy
          by_cases hd : d = 1
          · rw [if_pos hd] at hy; cases hy
          · rw [if_neg hd, Option.map_eq_some_iff] at hy
            obtain ⟨c, hy1, hy2⟩ := hy
            obtain ⟨q1, q2⟩ := part_ok ht hc hs hp ha
            have := ih (d - 1) (pA t b.2 s a) c (by omega) (pA_lt _ _ _) hy1
            rw [← hy2]
            exact Nat.le_trans this (Nat.mul_le_mul_left _ (by omega)))
      have h6 : sumN 60 (fun a => ones (pA t b.2 s a) * (ones s - 1)) = sumN 60 (fun a => ones (pA t b.2 s a)) * (ones s - 1) := by
        have : ∀ C, sumN C (fun a => ones (pA t b.2 s a) * (ones s - 1)) = sumN C (fun a => ones (pA t b.2 s a)) * (ones s - 1) := by
          intro C
          induction C with
          | zero => simp [sumN]
          | succ C ih => simp only [sumN]; rw [ih, Nat.add_mul]
        exact this 60
      rw [h6] at h5
      have h7 := Nat.mul_le_mul_right (ones s - 1) (sum_ones t b.2 s)
      rw [← h4]
      have h8 : ones s * ones s = ones s * (ones s - 1) + ones s := by
        cases ones s with
        | zero => rfl
        | succ o => rw [Nat.add_sub_cancel, Nat.mul_add, Nat.mul_one]
      omega
    · rw [if_neg hc] at h2; cases h2
theorem md_le {t : TD} (ht : tOK t) : ∀ N s b, s ≤ N → 0 < s → s < 2 ^ tn t → md t s = some b → b.1 ≤ ones s := by
  intro N
  induction N with
  | zero => intro s b h0 h1; omega
  | succ N ih =>
    intro s b h0 hs0 hs hb
    have hs11 : s < 2 ^ 11 := Nat.lt_of_lt_of_le hs (Nat.pow_le_pow_right (by decide) (by have := ht.1; omega))
    have ho := ones_pos (show ¬ s = 0 by omega) hs11
    rw [md_eq ht hs] at hb
    obtain ⟨h1, h2⟩ := bstO_val _ _ hb
    unfold mdC at h2
    by_cases hc : cand t b.2 s = true
    · rw [if_pos hc, Option.map_eq_some_iff] at h2
      obtain ⟨x, h3, h4⟩ := h2
      have h5 := maxO_le (b := ones s - 1) 60 x h3 (fun a ha y hy => by
        by_cases hp : pA t b.2 s a = 0
        · rw [if_pos hp] at hy; cases hy; exact Nat.zero_le _
        · rw [if_neg hp, Option.map_eq_some_iff] at hy
          obtain ⟨c, hy1, hy2⟩ := hy
          obtain ⟨q1, q2⟩ := part_ok ht hc hs hp ha
          have := ih (pA t b.2 s a) c (by omega) (Nat.pos_of_ne_zero hp) (pA_lt _ _ _) hy1
          omega)
      rw [← h4]
      omega
    · rw [if_neg hc] at h2; cases h2
/-- a sum over parts in any order is the sum over answers -/
theorem sumO_list {f : Nat → Option Nat} {pa : Nat → Nat} : ∀ M, (∀ m, m < M → pa m < 60) → (∀ m m', m < M → m' < M → pa m = pa m' → m = m') → sumO (fun m => f (pa m)) M = sumO (fun a => if anyN M (fun m => pa m == a) = true then f a else some 0) 60 := by
  intro M
  induction M with
  | zero =>
    intro _ _
    have : ∀ n, sumO (fun a => if anyN 0 (fun m => pa m == a) = true then f a else some 0) n = some 0 := by
      intro n
      induction n with
      | zero => rfl
      | succ n ih => rw [sumO, ih]; rfl
    rw [this]
    rfl
  | succ M ih =>
    intro h60 hinj
    have hih := ih (fun m hm => h60 m (by omega)) (fun m m' hm hm' e => hinj m m' (by omega) (by omega) e)
    have hnew : anyN M (fun m => pa m == pa M) = false := by
      rcases hb : anyN M (fun m => pa m == pa M) with _ | _
      · rfl
      · obtain ⟨m, hm, e⟩ := (anyN_iff _ _).mp hb
        have := hinj m M (by omega) (by omega) (beq_iff_eq.mp e)
        omega
    rw [sumO, hih]
    -- one answer more
    have key : ∀ n, (match sumO (fun a => if anyN M (fun m => pa m == a) = true then f a else some 0) n, (if pa M < n then f (pa M) else some 0) with
        | some x, some y => some (x + y)
        | _, _ => none) = sumO (fun a => if anyN (M + 1) (fun m => pa m == a) = true then f a else some 0) n := by
      intro n
      induction n with
      | zero => rfl
      | succ n ihn =>
        rw [sumO, sumO, ← ihn]
        by_cases e : pa M = n
        · subst e
          rw [if_pos (show pa M < pa M + 1 by omega), if_neg (Nat.lt_irrefl _), hnew, if_neg (by decide), if_pos (show anyN (M + 1) (fun m => pa m == pa M) = true by rw [anyN_s]; simp)]
        · have e2 : anyN (M + 1) (fun m => pa m == n) = anyN M (fun m => pa m == n) := by rw [anyN_s, beq_eq_false_iff_ne.mpr e, Bool.or_false]
          rw [e2]
          by_cases z : pa M < n
          · rw [if_pos z, if_pos (show pa M < n + 1 by omega)]
            cases sumO (fun a => if anyN M (fun m => pa m == a) = true then f a else some 0) n <;> cases f (pa M) <;> cases (if anyN M (fun m => pa m == n) = true then f n else some 0) <;> simp <;> omega
          · rw [if_neg z, if_neg (show ¬ pa M < n + 1 by omega)]
            cases sumO (fun a => if anyN M (fun m => pa m == a) = true then f a else some 0) n <;> cases (if anyN M (fun m => pa m == n) = true then f n else some 0) <;> simp
    have k60 := key 60
    rw [if_pos (h60 M (by omega))] at k60
    exact k60
/-- the greatest likewise -/
theorem maxO_list {f : Nat → Option Nat} {pa : Nat → Nat} : ∀ M, (∀ m, m < M → pa m < 60) → (∀ m m', m < M → m' < M → pa m = pa m' → m = m') → maxO (fun m => f (pa m)) M = maxO (fun a => if anyN M (fun m => pa m == a) = true then f a else some 0) 60 := by
  intro M
  induction M with
  | zero =>
    intro _ _
    have : ∀ n, maxO (fun a => if anyN 0 (fun m => pa m == a) = true then f a else some 0) n = some 0 := by
      intro n
      induction n with
      | zero => rfl
      | succ n ih => rw [maxO, ih]; rfl
    rw [this]
    rfl
  | succ M ih =>
    intro h60 hinj
    have hih := ih (fun m hm => h60 m (by omega)) (fun m m' hm hm' e => hinj m m' (by omega) (by omega) e)
    have hnew : anyN M (fun m => pa m == pa M) = false := by
      rcases hb : anyN M (fun m => pa m == pa M) with _ | _
      · rfl
      · obtain ⟨m, hm, e⟩ := (anyN_iff _ _).mp hb
        have := hinj m M (by omega) (by omega) (beq_iff_eq.mp e)
        omega
    rw [maxO, hih]
    -- one answer more
    have key : ∀ n, (match maxO (fun a => if anyN M (fun m => pa m == a) = true then f a else some 0) n, (if pa M < n then f (pa M) else some 0) with
        | some x, some y => some (if x < y then y else x)
        | _, _ => none) = maxO (fun a => if anyN (M + 1) (fun m => pa m == a) = true then f a else some 0) n := by
      intro n
      induction n with
      | zero => rfl
      | succ n ihn =>
        rw [maxO, maxO, ← ihn]
        by_cases e : pa M = n
        · subst e
          rw [if_pos (show pa M < pa M + 1 by omega), if_neg (Nat.lt_irrefl _), hnew, if_neg (by decide), if_pos (show anyN (M + 1) (fun m => pa m == pa M) = true by rw [anyN_s]; simp)]
        · have e2 : anyN (M + 1) (fun m => pa m == n) = anyN M (fun m => pa m == n) := by rw [anyN_s, beq_eq_false_iff_ne.mpr e, Bool.or_false]
          rw [e2]
          by_cases z : pa M < n
          · rw [if_pos z, if_pos (show pa M < n + 1 by omega)]
            rcases h1 : maxO (fun a => if anyN M (fun m => pa m == a) = true then f a else some 0) n with _ | x <;> rcases h2 : f (pa M) with _ | y <;> rcases h3 : (if anyN M (fun m => pa m == n) = true then f n else some 0) with _ | z <;> simp only <;> first | rfl | (congr 1; repeat' split) <;> omega
          · rw [if_neg z, if_neg (show ¬ pa M < n + 1 by omega)]
            cases maxO (fun a => if anyN M (fun m => pa m == a) = true then f a else some 0) n <;> cases (if anyN M (fun m => pa m == n) = true then f n else some 0) <;> simp
    have k60 := key 60
    rw [if_pos (h60 M (by omega))] at k60
    exact k60
/-! the reference's parts and the answers' parts -/
theorem PI_any {t : TD} {s g M : Nat} {pa : Nat → Nat} {w19 w20 : Nat → Int32} (h : PI s (tA t g) (tfu t) (tn t) M pa w19 w20) (a : Nat) : anyN M (fun m => pa m == a) = true ↔ ¬ pA t g s a = 0 := by
  obtain ⟨h1, h2, h3, h4⟩ := h
  constructor
  · intro hb
    obtain ⟨m, hm, e⟩ := (anyN_iff _ _).mp hb
    have e := beq_iff_eq.mp e
    obtain ⟨-, -, -, a4, a5⟩ := h2 m hm
    rw [e] at a4 a5
    unfold pA
    rw [if_neg a4]
    obtain ⟨i, hi, hb2⟩ := (anyN_iff _ _).mp a5
    intro q
    have := mem_bit (s := s) (A := tA t g) (n := tn t) (a := a) (i := i)
    rw [q, Nat.zero_testBit, decide_eq_true hi, Bool.true_and] at this
    unfold mem at hb2
    rw [hb2] at this
    cases this
  · intro hp
    have hf : ¬ a = tfu t := fun q => hp (by unfold pA; rw [if_pos q])
    unfold pA at hp
    rw [if_neg hf] at hp
    have hany : anyN (tn t) (mem s (tA t g) a) = true := by
      rcases hb : anyN (tn t) (mem s (tA t g) a) with _ | _
      · exact absurd (fbits_z hb) hp
      · rfl
    obtain ⟨m, hm, e⟩ := h4 a hf hany
    exact (anyN_iff _ _).mpr ⟨m, hm, beq_iff_eq.mpr e⟩
theorem PI_prt {t : TD} {s g M : Nat} {pa : Nat → Nat} {w19 w20 : Nat → Int32} (h : PI s (tA t g) (tfu t) (tn t) M pa w19 w20) {m : Nat} (hm : m < M) : prt s (tA t g) (tn t) (pa m) = pA t g s (pa m) := by
  unfold pA
  rw [if_neg (h.2.1 m hm).2.2.2.1]
theorem PI_sum {t : TD} {s g M : Nat} {pa : Nat → Nat} {w19 w20 : Nat → Int32} (h : PI s (tA t g) (tfu t) (tn t) M pa w19 w20) (f : Nat → Option Nat) : sumO (fun m => f (pA t g s (pa m))) M = sumO (fun a => if pA t g s a = 0 then some 0 else f (pA t g s a)) 60 := by
  rw [sumO_list (f := fun a => f (pA t g s a)) M (fun m hm => (h.2.1 m hm).2.2.1) h.2.2.1]
  refine sumO_congr _ (fun a _ => ?_)
  by_cases q : pA t g s a = 0
  · rw [if_pos q, if_neg (fun z => (PI_any h a).mp z q)]
  · rw [if_neg q, if_pos ((PI_any h a).mpr q)]
theorem PI_max {t : TD} {s g M : Nat} {pa : Nat → Nat} {w19 w20 : Nat → Int32} (h : PI s (tA t g) (tfu t) (tn t) M pa w19 w20) (f : Nat → Option Nat) : maxO (fun m => f (pA t g s (pa m))) M = maxO (fun a => if pA t g s a = 0 then some 0 else f (pA t g s a)) 60 := by
  rw [maxO_list (f := fun a => f (pA t g s a)) M (fun m hm => (h.2.1 m hm).2.2.1) h.2.2.1]
  refine maxO_congr _ (fun a _ => ?_)
  by_cases q : pA t g s a = 0
  · rw [if_pos q, if_neg (fun z => (PI_any h a).mp z q)]
  · rw [if_neg q, if_pos ((PI_any h a).mpr q)]
theorem PI_npt {t : TD} {s g M : Nat} {pa : Nat → Nat} {w19 w20 : Nat → Int32} (h : PI s (tA t g) (tfu t) (tn t) M pa w19 w20) : npt t g s = M := by
  have h1 := PI_sum h (fun _ => some 1)
  have h2 : ∀ M, sumO (fun _ : Nat => some 1) M = some M := by
    intro M
    induction M with
    | zero => rfl
    | succ M ih => rw [sumO, ih]
  have h3 : ∀ n, sumO (fun a => if pA t g s a = 0 then some 0 else some 1) n = some (cnt n (fun a => decide (¬ pA t g s a = 0))) := by
    intro n
    induction n with
    | zero => rfl
    | succ n ih =>
      rw [sumO, ih, cnt]
      by_cases q : pA t g s n = 0
      · rw [if_pos q]; simp [q]
      · rw [if_neg q]; simp [q]
  rw [h2, h3] at h1
  exact (Option.some.inj h1).symm

