/-! bit sets as numbers -/
theorem nI_or (a b : Nat) : nI a ||| nI b = nI (a ||| b) := by
  apply Int32.toBitVec_inj.mp
  show BitVec.ofNat 32 a ||| BitVec.ofNat 32 b = BitVec.ofNat 32 (a ||| b)
  rw [BitVec.ofNat_or]
theorem nI_and (a b : Nat) : nI a &&& nI b = nI (a &&& b) := by
  apply Int32.toBitVec_inj.mp
  show BitVec.ofNat 32 a &&& BitVec.ofNat 32 b = BitVec.ofNat 32 (a &&& b)
  rw [BitVec.ofNat_and]
theorem sh_l : ∀ n, n < 32 → ((nI n &&& 31).toBitVec.smod 32).toNat = n := by decide +kernel
theorem nI_shl {a k : Nat} (hk : k < 32) (h : a * 2 ^ k < 2 ^ 32) : nI a <<< (nI k &&& 31) = nI (a * 2 ^ k) := pk_shlN _ k (sh_l k hk) h
theorem nI_shl1 {k : Nat} (hk : k < 32) : (1 : Int32) <<< (nI k &&& 31) = nI (2 ^ k) := by
  have h := nI_shl (a := 1) hk (by rw [Nat.one_mul]; exact Nat.pow_lt_pow_right (by decide) hk)
  rw [Nat.one_mul] at h
  exact h
theorem nI_shr {a k : Nat} (hk : k < 32) (h : a < 2 ^ 31) : nI a >>> (nI k &&& 31) = nI (a / 2 ^ k) := pk_shrN h _ k (sh_l k hk)
theorem nI_a1 (a : Nat) : nI a &&& 1 = nI (a % 2) := by
  have := nI_and a 1
  rw [Nat.and_one_is_mod] at this
  exact this
theorem nI_bit {a k : Nat} (hk : k < 32) (h : a < 2 ^ 31) : nI a >>> (nI k &&& 31) &&& 1 = nI (if a.testBit k = true then 1 else 0) := by
  rw [nI_shr hk h, nI_a1]
  congr 1
  rw [Nat.testBit_eq_decide_div_mod_eq]
  have := Nat.mod_lt (a / 2 ^ k) (show 0 < 2 by decide)
  by_cases e : a / 2 ^ k % 2 = 1
  · simp [e]
  · simp [e]; omega
def fbits (n : Nat) (p : Nat → Bool) : Nat := match n with
  | 0 => 0
  | n + 1 => if p n then fbits n p ||| 2 ^ n else fbits n p
theorem fbits_bit (n : Nat) (p : Nat → Bool) (i : Nat) : (fbits n p).testBit i = (decide (i < n) && p i) := by
  induction n with
  | zero => simp [fbits]
  | succ n ih =>
    unfold fbits
    by_cases e : i = n
    · subst e
      by_cases hp : p i = true
      · simp [hp, Nat.testBit_or, Nat.testBit_two_pow_self]
      · simp [hp, ih]
    · have h1 : decide (i < n + 1) = decide (i < n) := by apply decide_eq_decide.mpr; omega
      rw [h1, ← ih]
      split
      · have hni : ¬ n = i := fun q => e q.symm
        rw [Nat.testBit_or, Nat.testBit_two_pow]
        simp [hni]
      · rfl
theorem fbits_lt (n : Nat) (p : Nat → Bool) : fbits n p < 2 ^ n := by
  apply Nat.lt_pow_two_of_testBit
  intro i hi
  rw [fbits_bit]
  simp [Nat.not_lt.mpr hi]
theorem fbits_lt31 {n : Nat} (h : n ≤ 31) (p : Nat → Bool) : fbits n p < 2 ^ 31 := Nat.lt_of_lt_of_le (fbits_lt n p) (Nat.pow_le_pow_right (by decide) h)
theorem fbits_congr {n : Nat} {p q : Nat → Bool} (h : ∀ i, i < n → p i = q i) : fbits n p = fbits n q := by
  induction n with
  | zero => rfl
  | succ n ih => unfold fbits; rw [ih (fun i hi => h i (by omega)), h n (by omega)]
/-- how many of the first eleven bits are set -/
def ones (b : Nat) : Nat := cnt 11 (fun k => b.testBit k)
theorem ans_congr {P C : Nat} {w v : Nat → Int32} (h : ∀ i, i < P → w i = v i) (code : Nat) : ans P C w code = ans P C v code := by
  have e1 : blacks P C w code = blacks P C v code := cnt_congr (fun i hi => by rw [h i hi])
  have e2 : alike P C w code = alike P C v code := sumN_congr (fun c _ => by
    unfold hues
    rw [cnt_congr (p := fun i => w i == nI c) (q := fun i => v i == nI c) (fun i hi => by rw [h i hi])])
  unfold ans
  rw [e1, e2]
theorem alike_le (P C : Nat) (w : Nat → Int32) (code : Nat) : alike P C w code ≤ C * P := sumN_le (fun c _ => hues_le P C w code c)
def anyN (n : Nat) (p : Nat → Bool) : Bool := match n with
  | 0 => false
  | n + 1 => anyN n p || p n
theorem anyN_iff (n : Nat) (p : Nat → Bool) : anyN n p = true ↔ ∃ i, i < n ∧ p i = true := by
  induction n with
  | zero => simp [anyN]
  | succ n ih =>
    unfold anyN
    rw [Bool.or_eq_true, ih]
    constructor
    · rintro (⟨i, h1, h2⟩ | h)
      · exact ⟨i, by omega, h2⟩
      · exact ⟨n, by omega, h⟩
    · rintro ⟨i, h1, h2⟩
      by_cases e : i = n
      · subst e; exact Or.inr h2
      · exact Or.inl ⟨i, by omega, h2⟩
/-- two places of a code have one colour -/
def twiceC (P C code : Nat) : Bool := anyN P (fun i => anyN i (fun k => pegOf P C code i == pegOf P C code k))
def sumC (P C code : Nat) : Nat := sumN P (pegOf P C code)
/-- does the law allow the code -/
def okLaw (P C : Nat) (law told : Int32) (listed : Nat → Int32) (code : Nat) : Bool :=
  if law = 0 then true else if law = 3 then !(listed code == 0) else if law = 1 then !twiceC P C code else nI (sumC P C code) == told
/-- turn t is false for the code -/
def isF (P C : Nat) (pegs answers : Nat → Int32) (code t : Nat) : Bool := !(nI (ans P C (fun i => pegs (5 * t + i)) code) == answers t)
