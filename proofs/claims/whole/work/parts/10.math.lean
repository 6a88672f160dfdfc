/-! ===== the pure words ===== -/
def cnt (n : Nat) (p : Nat → Bool) : Nat := match n with
  | 0 => 0
  | n + 1 => cnt n p + (if p n then 1 else 0)
def sumN (n : Nat) (f : Nat → Nat) : Nat := match n with
  | 0 => 0
  | n + 1 => sumN n f + f n
theorem cnt_le (n : Nat) (p : Nat → Bool) : cnt n p ≤ n := by
  induction n with
  | zero => exact Nat.le_refl 0
  | succ n ih => unfold cnt; split <;> omega
theorem cnt_congr {n : Nat} {p q : Nat → Bool} (h : ∀ i, i < n → p i = q i) : cnt n p = cnt n q := by
  induction n with
  | zero => rfl
  | succ n ih => unfold cnt; rw [ih (fun i hi => h i (by omega)), h n (by omega)]
theorem sumN_congr {n : Nat} {p q : Nat → Nat} (h : ∀ i, i < n → p i = q i) : sumN n p = sumN n q := by
  induction n with
  | zero => rfl
  | succ n ih => unfold sumN; rw [ih (fun i hi => h i (by omega)), h n (by omega)]
theorem sumN_le {n b : Nat} {p : Nat → Nat} (h : ∀ i, i < n → p i ≤ b) : sumN n p ≤ n * b := by
  induction n with
  | zero => simp [sumN]
  | succ n ih => unfold sumN; have := ih (fun i hi => h i (by omega)); have := h n (by omega); rw [Nat.succ_mul]; omega
/-- the peg at place i of a code -/
def pegOf (P C code i : Nat) : Nat := code / C ^ (P - 1 - i) % C
theorem pegOf_lt {P C : Nat} (hC : 0 < C) (code i : Nat) : pegOf P C code i < C := Nat.mod_lt _ hC
/-- the answer of a row of pegs to a code: 10 for each black, 1 for each white -/
def blacks (P C : Nat) (w : Nat → Int32) (code : Nat) : Nat := cnt P (fun i => w i == nI (pegOf P C code i))
def hues (P C : Nat) (w : Nat → Int32) (code c : Nat) : Nat := min (cnt P (fun i => w i == nI c)) (cnt P (fun i => pegOf P C code i == c))
def alike (P C : Nat) (w : Nat → Int32) (code : Nat) : Nat := sumN C (hues P C w code)
def ans (P C : Nat) (w : Nat → Int32) (code : Nat) : Nat := 9 * blacks P C w code + alike P C w code
theorem blacks_le (P C : Nat) (w : Nat → Int32) (code : Nat) : blacks P C w code ≤ P := cnt_le _ _
theorem hues_le (P C : Nat) (w : Nat → Int32) (code c : Nat) : hues P C w code c ≤ P := Nat.le_trans (Nat.min_le_left _ _) (cnt_le _ _)
theorem ones_b (c : Bool) (n : Nat) : nI n + (if c = true then 1 else 0) = nI (n + (if c = true then 1 else 0)) := by
  cases c
  · simp
  · simp [nI_1]
theorem nI_inj {a b : Nat} (ha : a < 2 ^ 31) (hb : b < 2 ^ 31) (h : nI a = nI b) : a = b := (nI_eq ha hb).mp h
theorem nI_sel (c : Bool) : (if c = true then (1 : Int32) else 0) = nI (if c = true then 1 else 0) := by cases c <;> rfl
