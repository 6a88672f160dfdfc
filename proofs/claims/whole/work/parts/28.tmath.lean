/-! ===== trees: least sums and depths, as numbers ===== -/
/-- members, codes, the full answer, only members may be guessed, answers, the members' codes -/
abbrev TD : Type := Nat × Nat × Nat × Bool × (Nat → Nat → Nat) × (Nat → Nat)
abbrev tn (t : TD) : Nat := t.1
abbrev tN2 (t : TD) : Nat := t.2.1
abbrev tfu (t : TD) : Nat := t.2.2.1
abbrev tpo (t : TD) : Bool := t.2.2.2.1
abbrev tA (t : TD) (g k : Nat) : Nat := t.2.2.2.2.1 g k
abbrev tL (t : TD) (k : Nat) : Nat := t.2.2.2.2.2 k
def tOK (t : TD) : Prop := tn t ≤ 10 ∧ (∀ k, k < tn t → tA t (tL t k) k = tfu t) ∧ ∀ g k, k < tn t → tA t g k < 60
/-- the part of s with the answer a to g; none for the full answer -/
def pA (t : TD) (g s a : Nat) : Nat := if a = tfu t then 0 else prt s (tA t g) (tn t) a
def npt (t : TD) (g s : Nat) : Nat := cnt 60 (fun a => decide (¬ pA t g s a = 0))
def hasFu (t : TD) (g s : Nat) : Bool := anyN (tn t) (mem s (tA t g) (tfu t))
/-- may g be guessed for the set s -/
def cand (t : TD) (g s : Nat) : Bool := !((tpo t || ones s == 1) && !inS (tn t) (tL t) s g) && !((npt t g s + (if hasFu t g s = true then 1 else 0) == 1) && decide (1 < ones s))
def sumO (f : Nat → Option Nat) (n : Nat) : Option Nat := match n with
  | 0 => some 0
  | n + 1 => match sumO f n, f n with
    | some x, some y => some (x + y)
    | _, _ => none
def maxO (f : Nat → Option Nat) (n : Nat) : Option Nat := match n with
  | 0 => some 0
  | n + 1 => match maxO f n, f n with
    | some x, some y => some (if x < y then y else x)
    | _, _ => none
/-- the least cost so far, and the first that has it -/
def bstO (c : Nat → Option Nat) (n : Nat) : Option (Nat × Nat) := match n with
  | 0 => none
  | n + 1 => match bstO c n, c n with
    | some b, some v => if v < b.1 then some (v, n) else some b
    | none, some v => some (v, n)
    | r, none => r
def msC (t : TD) (f : Nat → Nat → Option (Nat × Nat)) (d s g : Nat) : Option Nat :=
  if cand t g s = true then (sumO (fun a => if pA t g s a = 0 then some 0 else if d = 1 then none else (f (d - 1) (pA t g s a)).map Prod.fst) 60).map (fun x => ones s + x) else none
def msT (t : TD) (f : Nat) : Nat → Nat → Option (Nat × Nat) := match f with
  | 0 => fun _ _ => none
  | f + 1 => fun d s => bstO (msC t (msT t f) d s) (tN2 t)
def mdC (t : TD) (f : Nat → Option (Nat × Nat)) (s g : Nat) : Option Nat :=
  if cand t g s = true then (maxO (fun a => if pA t g s a = 0 then some 0 else (f (pA t g s a)).map Prod.fst) 60).map (fun x => 1 + x) else none
def mdT (t : TD) (f : Nat) : Nat → Option (Nat × Nat) := match f with
  | 0 => fun _ => none
  | f + 1 => fun s => bstO (mdC t (mdT t f) s) (tN2 t)
/-- the least sum of a tree for s within depth d (0: any), and its first guess; the least depth -/
abbrev ms (t : TD) (d s : Nat) : Option (Nat × Nat) := msT t 1024 d s
abbrev md (t : TD) (s : Nat) : Option (Nat × Nat) := mdT t 1024 s
theorem sumO_congr {f h : Nat → Option Nat} : ∀ n, (∀ i, i < n → f i = h i) → sumO f n = sumO h n := by
  intro n
  induction n with
  | zero => intro _; rfl
  | succ n ih => intro e; rw [sumO, sumO, ih (fun i hi => e i (by omega)), e n (by omega)]
theorem maxO_congr {f h : Nat → Option Nat} : ∀ n, (∀ i, i < n → f i = h i) → maxO f n = maxO h n := by
  intro n
  induction n with
  | zero => intro _; rfl
  | succ n ih => intro e; rw [maxO, maxO, ih (fun i hi => e i (by omega)), e n (by omega)]
theorem bstO_congr {c e : Nat → Option Nat} : ∀ n, (∀ i, i < n → c i = e i) → bstO c n = bstO e n := by
  intro n
  induction n with
  | zero => intro _; rfl
  | succ n ih => intro h; rw [bstO, bstO, ih (fun i hi => h i (by omega)), h n (by omega)]
theorem mem_bit {s : Nat} {A : Nat → Nat} {n a i : Nat} : (prt s A n a).testBit i = (decide (i < n) && (s.testBit i && A i == a)) := by
  rw [fbits_bit]
  rfl
/-- p lies in s -/
def subB (p s : Nat) : Prop := ∀ i, p.testBit i = true → s.testBit i = true
theorem prt_sub (s : Nat) (A : Nat → Nat) (n a : Nat) : subB (prt s A n a) s := by
  intro i h
  rw [mem_bit] at h
  simp only [Bool.and_eq_true] at h
  exact h.2.1
theorem subB.le {p s : Nat} (h : subB p s) : p ≤ s := by
  have e : p ||| s = s := by
    apply Nat.eq_of_testBit_eq
    intro i
    rw [Nat.testBit_or]
    rcases hp : p.testBit i with _ | _
    · rw [Bool.false_or]
    · rw [h i hp]; rfl
  rw [← e]
  exact Nat.left_le_or
theorem cnt_strict {n : Nat} {p q : Nat → Bool} (h : ∀ i, i < n → p i = true → q i = true) {j : Nat} (hj : j < n) (h1 : p j = false) (h2 : q j = true) : cnt n p < cnt n q := by
  have hle : ∀ m, (∀ i, i < m → p i = true → q i = true) → cnt m p ≤ cnt m q := by
    intro m
    induction m with
    | zero => intro _; exact Nat.le_refl _
    | succ m ih =>
      intro h
      have := ih (fun i hi => h i (by omega))
      have e1 : cnt (m + 1) p = cnt m p + (if p m = true then 1 else 0) := rfl
      have e2 : cnt (m + 1) q = cnt m q + (if q m = true then 1 else 0) := rfl
      rw [e1, e2]
      by_cases z : p m = true
      · rw [if_pos z, if_pos (h m (by omega) z)]; omega
      · rw [if_neg z]; omega
  induction n with
  | zero => omega
  | succ n ih =>
    have e1 : cnt (n + 1) p = cnt n p + (if p n = true then 1 else 0) := rfl
    have e2 : cnt (n + 1) q = cnt n q + (if q n = true then 1 else 0) := rfl
    rw [e1, e2]
    by_cases e : j = n
    · subst e
      have := hle j (fun i hi => h i (by omega))
      rw [if_neg (by rw [h1]; decide), if_pos h2]
      omega
    · have := ih (fun i hi => h i (by omega)) (by omega)
      by_cases z : p n = true
      · rw [if_pos z, if_pos (h n (by omega) z)]; omega
      · rw [if_neg z]; omega
theorem ones_lt {p s : Nat} (h : subB p s) (hne : ¬ p = s) (hs : s < 2 ^ 11) : ones p < ones s := by
  have hp := h.le
  have : ∃ j, j < 11 ∧ p.testBit j = false ∧ s.testBit j = true := by
    refine Decidable.byContradiction (fun q => hne ?_)
    apply Nat.eq_of_testBit_eq
    intro i
    rcases hp2 : p.testBit i with _ | _
    · rcases hs2 : s.testBit i with _ | _
      · rfl
      · have hi : i < 11 := by
          rcases Nat.lt_or_ge i 11 with z | z
          · exact z
          · rw [Nat.testBit_lt_two_pow (Nat.lt_of_lt_of_le hs (Nat.pow_le_pow_right (by decide) z))] at hs2; cases hs2
        exact absurd ⟨i, hi, hp2, hs2⟩ q
    · rw [h i hp2]
  obtain ⟨j, hj, h1, h2⟩ := this
  exact cnt_strict (fun i _ z => h i z) hj h1 h2

