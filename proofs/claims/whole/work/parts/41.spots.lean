/-! ===== spots, shares, packs: rows of pegs as bits ===== -/
theorem cnt_mul (a b : Nat) (p : Nat → Bool) : cnt (a * b) p = sumN a (fun i => cnt b (fun c => p (i * b + c))) := by
  induction a with
  | zero => rw [Nat.zero_mul]; rfl
  | succ a ih => rw [Nat.succ_mul, cnt_add, ih]; rfl
theorem cnt_zero {n : Nat} {p : Nat → Bool} (h : ∀ i, i < n → p i = false) : cnt n p = 0 := by
  rw [cnt_congr (q := fun _ => false) h]
  induction n with
  | zero => rfl
  | succ n ih => show cnt n (fun _ => false) + 0 = 0; rw [Nat.add_zero]; exact ih (fun i hi => h i (by omega))
theorem cnt_lt' (n m : Nat) : cnt n (fun j => decide (j < m)) = min n m := by
  induction n with
  | zero => simp [cnt]
  | succ n ih =>
    unfold cnt
    rw [ih]
    by_cases h : n < m
    · simp [h]; omega
    · simp [h]; omega
theorem cnt_eq1 (n x : Nat) (b : Bool) (hx : x < n) : cnt n (fun c => b && (x == c)) = if b = true then 1 else 0 := by
  cases b with
  | false => simp only [Bool.false_and]; exact cnt_zero (fun _ _ => rfl)
  | true =>
    have := cnt_one hx
    simp only [Bool.true_and, if_true]
    rw [← this]
    exact cnt_congr (fun i _ => by by_cases e : i = x <;> simp [e]; exact fun q => e q.symm)
theorem cnt_sum (n : Nat) (p : Nat → Bool) : sumN n (fun i => if p i = true then 1 else 0) = cnt n p := by
  induction n with
  | zero => rfl
  | succ n ih => unfold sumN cnt; rw [ih]
/-- a row of pegs: blank, or a colour below C -/
def rowOK (P C : Nat) (w : Nat → Int32) : Prop := ∀ i, i < P → w i = -1 ∨ (0 ≤ w i ∧ nat (w i) < C)
def szOK (P C : Nat) : Prop := 1 ≤ P ∧ P ≤ 5 ∧ 1 ≤ C ∧ C ≤ 8 ∧ P * C ≤ 32
theorem szOK_pow : ∀ P C : Nat, P ≤ 5 → C ≤ 8 → C ^ P ≤ 4096 → 1 ≤ P → 1 ≤ C → P * C ≤ 32 := by
  intro P C hP hC h h1 h2
  have : ∀ P, P < 6 → ∀ C, C < 9 → C ^ P ≤ 4096 → 1 ≤ P → 1 ≤ C → P * C ≤ 32 := by decide +kernel
  exact this P (by omega) C (by omega) h h1 h2
def spB (P C : Nat) (w : Nat → Int32) (k : Nat) : Bool := decide (k < P * C) && (w (k / C) == nI (k % C))
def shB (P C n : Nat) (w : Nat → Int32) (k : Nat) : Bool := decide (k < P * C) && decide (k % P < cnt n (fun i => w i == nI (k / P)))
def spotsN (P C : Nat) (w : Nat → Int32) : Nat := fbits 32 (spB P C w)
def sharesN (P C : Nat) (w : Nat → Int32) : Nat := fbits 32 (shB P C P w)
abbrev cw (P C code : Nat) : Nat → Int32 := fun i => nI (pegOf P C code i)
theorem spots_lt (P C : Nat) (w : Nat → Int32) : spotsN P C w < 2 ^ 32 := fbits_lt 32 _
theorem shares_lt (P C : Nat) (w : Nat → Int32) : sharesN P C w < 2 ^ 32 := fbits_lt 32 _
theorem and_lt32 {a b : Nat} (h : a < 2 ^ 32) : a &&& b < 2 ^ 32 := Nat.lt_of_le_of_lt Nat.and_le_left h
theorem pc_and {p q : Nat → Bool} {n : Nat} (hn : n ≤ 32) (hp : ∀ k, n ≤ k → p k = false) : pc32 (fbits 32 p &&& fbits 32 q) = cnt n (fun k => p k && q k) := by
  unfold pc32
  obtain ⟨m, hm⟩ : ∃ m, 32 = n + m := ⟨32 - n, by omega⟩
  rw [hm, cnt_add]
  have e : ∀ k, k < n + m → ((fbits (n + m) p &&& fbits (n + m) q).testBit k) = (p k && q k) := fun k hk => by rw [Nat.testBit_and, fbits_bit, fbits_bit]; simp [hk]
  rw [cnt_congr (fun k hk => e k (by omega)), cnt_zero (p := fun k => (fbits (n + m) p &&& fbits (n + m) q).testBit (n + k)) (fun k hk => by show (fbits (n + m) p &&& fbits (n + m) q).testBit (n + k) = false; rw [e (n + k) (by omega), hp (n + k) (by omega)]; rfl), Nat.add_zero]
theorem pc_spots {P C : Nat} (hz : szOK P C) (w : Nat → Int32) (code : Nat) : pc32 (spotsN P C w &&& spotsN P C (cw P C code)) = blacks P C w code := by
  obtain ⟨h1, h2, h3, h4, h5⟩ := hz
  unfold spotsN
  rw [pc_and h5 (fun k hk => by unfold spB; rw [decide_eq_false (by omega)]; rfl), cnt_mul]
  unfold blacks
  rw [← cnt_sum]
  apply sumN_congr
  intro i hi
  have hb : ∀ c, c < C → i * C + c < P * C := fun c hc => by
    have : (i + 1) * C ≤ P * C := Nat.mul_le_mul_right C hi
    rw [Nat.succ_mul] at this
    omega
  have hl : pegOf P C code i < C := pegOf_lt h3 code i
  rw [← cnt_eq1 C (pegOf P C code i) (w i == nI (pegOf P C code i)) hl]
  refine cnt_congr (fun c hc => ?_)
  have q1 : (i * C + c) / C = i := by rw [Nat.mul_comm, Nat.mul_add_div (by omega), Nat.div_eq_of_lt hc, Nat.add_zero]
  have q2 : (i * C + c) % C = c := by rw [Nat.mul_comm, Nat.mul_add_mod, Nat.mod_eq_of_lt hc]
  unfold spB
  rw [q1, q2, decide_eq_true (hb c hc), Bool.true_and, Bool.true_and]
  by_cases e : pegOf P C code i = c
  · subst e; simp
  · have b2 : (cw P C code i == nI c) = false := beq_false_of_ne (fun q => e (nI_inj (by omega) (by omega) q))
    have b1 : (pegOf P C code i == c) = false := beq_false_of_ne e
    rw [b1, b2, Bool.and_false, Bool.and_false]
theorem pc_shares {P C : Nat} (hz : szOK P C) (w : Nat → Int32) (code : Nat) : pc32 (sharesN P C w &&& sharesN P C (cw P C code)) = alike P C w code := by
  obtain ⟨h1, h2, h3, h4, h5⟩ := hz
  unfold sharesN
  rw [pc_and h5 (fun k hk => by unfold shB; rw [decide_eq_false (by omega)]; rfl), Nat.mul_comm P C, cnt_mul]
  unfold alike
  apply sumN_congr
  intro c hc
  have hb : ∀ j, j < P → c * P + j < P * C := fun j hj => by
    have : (c + 1) * P ≤ C * P := Nat.mul_le_mul_right P hc
    rw [Nat.succ_mul, Nat.mul_comm C P] at this
    omega
  have e : cnt P (fun i => cw P C code i == nI c) = cnt P (fun i => pegOf P C code i == c) := cnt_congr (fun i hi => by
    have hl : pegOf P C code i < C := pegOf_lt h3 code i
    by_cases e : pegOf P C code i = c
    · subst e; simp
    · have b2 : (cw P C code i == nI c) = false := beq_false_of_ne (fun q => e (nI_inj (by omega) (by omega) q))
      have b1 : (pegOf P C code i == c) = false := beq_false_of_ne e
      rw [b1, b2])
  have e2 : cnt P (fun j => shB P C P w (c * P + j) && shB P C P (cw P C code) (c * P + j)) = cnt P (fun j => decide (j < hues P C w code c)) := cnt_congr (fun j hj => by
    have q1 : (c * P + j) / P = c := by rw [Nat.mul_comm, Nat.mul_add_div (by omega), Nat.div_eq_of_lt hj, Nat.add_zero]
    have q2 : (c * P + j) % P = j := by rw [Nat.mul_comm, Nat.mul_add_mod, Nat.mod_eq_of_lt hj]
    unfold shB hues
    rw [q1, q2, decide_eq_true (hb j hj), Bool.true_and, Bool.true_and, e]
    rw [← Bool.decide_and]
    apply decide_eq_decide.mpr
    omega)
  rw [e2, cnt_lt']
  exact Nat.min_eq_right (hues_le P C w code c)
theorem ans_pc {P C : Nat} (hz : szOK P C) (w : Nat → Int32) (code : Nat) : 9 * pc32 (spotsN P C w &&& spotsN P C (cw P C code)) + pc32 (sharesN P C w &&& sharesN P C (cw P C code)) = ans P C w code := by
  rw [pc_spots hz, pc_shares hz]; rfl
/-! the steps of measure -/
def spI (C n : Nat) (w : Nat → Int32) : Nat := fbits 32 (fun k => decide (k < n * C) && (w (k / C) == nI (k % C)))
def shI (P C n : Nat) (w : Nat → Int32) : Nat := fbits 32 (shB P C n w)
theorem nI_neg1 {c : Nat} (h : c < 2 ^ 31) : ¬ (-1 : Int32) = nI c := by
  intro q
  have := congrArg Int32.toInt q
  rw [nI_toInt h] at this
  have e : (-1 : Int32).toInt = -1 := rfl
  omega
theorem sp_blank {C n : Nat} (hC : 1 ≤ C) (hC8 : C ≤ 8) {w : Nat → Int32} (h : w n = -1) : spI C (n + 1) w = spI C n w := by
  apply fbits_congr
  intro k _
  by_cases e : k < n * C
  · have : k < (n + 1) * C := by rw [Nat.succ_mul]; omega
    simp [e, this]
  · by_cases e2 : k < (n + 1) * C
    · have : k / C = n := by
        apply Nat.div_eq_of_lt_le
        · omega
        · exact e2
      rw [this, h]
      have := nI_neg1 (c := k % C) (by have := Nat.mod_lt k (show 0 < C by omega); omega)
      simp [e, this]
    · simp [e, e2]
theorem sp_step {C n c : Nat} (hC : c < C) (hC8 : C ≤ 8) (hk : n * C + c < 32) {w : Nat → Int32} (h : w n = nI c) : spI C n w ||| 2 ^ (n * C + c) = spI C (n + 1) w := by
  apply Nat.eq_of_testBit_eq
  intro k
  unfold spI
  rw [Nat.testBit_or, fbits_bit, fbits_bit, Nat.testBit_two_pow]
  by_cases hk32 : k < 32
  · simp only [hk32, decide_true, Bool.true_and]
    by_cases e : k < n * C
    · have e1 : k < (n + 1) * C := by rw [Nat.succ_mul]; omega
      have e2 : ¬ n * C + c = k := by omega
      simp [e, e1, e2]
    · by_cases e2 : k < (n + 1) * C
      · have hd : k / C = n := by
          apply Nat.div_eq_of_lt_le
          · omega
          · exact e2
        have hm : k = n * C + k % C := by have := Nat.div_add_mod k C; rw [hd, Nat.mul_comm] at this; exact this.symm
        have hml : k % C < C := Nat.mod_lt k (by omega)
        rw [hd, h]
        by_cases e3 : n * C + c = k
        · have : c = k % C := by omega
          simp [e, e2, e3, ← this]
        · have : ¬ nI c = nI (k % C) := fun q => by have := nI_inj (by omega) (by omega) q; omega
          simp [e, e2, e3, this]
      · have e3 : ¬ n * C + c = k := by rw [Nat.succ_mul] at e2; omega
        simp [e, e2, e3]
  · have e3 : ¬ n * C + c = k := by omega
    simp [hk32, e3]
theorem sp_0 (C : Nat) (w : Nat → Int32) : spI C 0 w = 0 := by
  apply Nat.eq_of_testBit_eq
  intro k
  unfold spI
  rw [fbits_bit]
  simp
theorem sp_end (P C : Nat) (w : Nat → Int32) : spI C P w = spotsN P C w := rfl
theorem sh_end (P C : Nat) (w : Nat → Int32) : shI P C P w = sharesN P C w := rfl
theorem sh_0 (P C : Nat) (w : Nat → Int32) : shI P C 0 w = 0 := by
  apply Nat.eq_of_testBit_eq
  intro k
  unfold shI
  rw [fbits_bit]
  simp [shB, cnt]
theorem sh_blank {P C n : Nat} (hP : 1 ≤ P) (hC8 : C ≤ 8) (hP5 : P ≤ 5) {w : Nat → Int32} (h : w n = -1) : shI P C (n + 1) w = shI P C n w := by
  apply fbits_congr
  intro k _
  unfold shB
  by_cases e : k < P * C
  · have hq : k / P < C := Nat.div_lt_of_lt_mul e
    have := nI_neg1 (c := k / P) (by omega)
    have e2 : cnt (n + 1) (fun i => w i == nI (k / P)) = cnt n (fun i => w i == nI (k / P)) := by show cnt n (fun i => w i == nI (k / P)) + (if (w n == nI (k / P)) = true then 1 else 0) = _; rw [h]; simp [this]
    rw [e2]
  · simp [e]
theorem sh_step {P C n c : Nat} (hz : szOK P C) (hn : n < P) (hc : c < C) {w : Nat → Int32} (h : w n = nI c) : (shI P C n w &&& (2 ^ P - 1) * 2 ^ (c * P)) * 2 < 2 ^ 32 ∧ shI P C n w ||| ((shI P C n w &&& (2 ^ P - 1) * 2 ^ (c * P)) * 2 ||| 2 ^ (c * P)) = shI P C (n + 1) w := by
  obtain ⟨h1, h2, h3, h4, h5⟩ := hz
  have hcP : c * P + P ≤ P * C := by have : (c + 1) * P ≤ C * P := Nat.mul_le_mul_right P hc; rw [Nat.succ_mul, Nat.mul_comm C P] at this; exact this
  have hb : ∀ k, (shI P C n w &&& (2 ^ P - 1) * 2 ^ (c * P)).testBit k = (decide (c * P ≤ k) && (decide (k - c * P < P) && decide (k - c * P < cnt n (fun i => w i == nI c)))) := by
    intro k
    unfold shI
    rw [Nat.testBit_and, fbits_bit, ← Nat.shiftLeft_eq, Nat.testBit_shiftLeft, Nat.testBit_two_pow_sub_one]
    by_cases e1 : c * P ≤ k
    · by_cases e2 : k - c * P < P
      · obtain ⟨j, rfl⟩ : ∃ j, k = c * P + j := ⟨k - c * P, by omega⟩
        have hj : j < P := by omega
        have q1 : (c * P + j) / P = c := by rw [Nat.mul_comm, Nat.mul_add_div (by omega), Nat.div_eq_of_lt hj, Nat.add_zero]
        have q2 : (c * P + j) % P = j := by rw [Nat.mul_comm, Nat.mul_add_mod, Nat.mod_eq_of_lt hj]
        have q3 : c * P + j < P * C := by omega
        have q4 : c * P + j < 32 := by omega
        simp [shB, q1, q2, q3, q4, hj]
      · simp [e1, e2]
    · simp [e1]
  have hcl : cnt n (fun i => w i == nI c) ≤ n := cnt_le _ _
  constructor
  · have : (shI P C n w &&& (2 ^ P - 1) * 2 ^ (c * P)) < 2 ^ (c * P + P - 1) := by
      apply Nat.lt_pow_two_of_testBit
      intro i hi
      rw [hb]
      have : ¬ (i - c * P < cnt n (fun i => w i == nI c)) := by omega
      simp [this]
    have h2 : 2 ^ (c * P + P - 1) * 2 = 2 ^ (c * P + P) := by rw [← Nat.pow_succ]; congr 1; omega
    have h3 : 2 ^ (c * P + P) ≤ 2 ^ 32 := Nat.pow_le_pow_right (by decide) (by omega)
    omega
  · apply Nat.eq_of_testBit_eq
    intro k
    rw [Nat.testBit_or, Nat.testBit_or, Nat.testBit_two_pow]
    have h2b : ((shI P C n w &&& (2 ^ P - 1) * 2 ^ (c * P)) * 2).testBit k = (decide (1 ≤ k) && (shI P C n w &&& (2 ^ P - 1) * 2 ^ (c * P)).testBit (k - 1)) := by
      rw [show (shI P C n w &&& (2 ^ P - 1) * 2 ^ (c * P)) * 2 = (shI P C n w &&& (2 ^ P - 1) * 2 ^ (c * P)) <<< 1 by rw [Nat.shiftLeft_eq, Nat.pow_one], Nat.testBit_shiftLeft]
    rw [h2b, hb]
    unfold shI
    rw [fbits_bit, fbits_bit]
    unfold shB
    by_cases e1 : k < P * C
    · have e32 : k < 32 := by omega
      have hs : cnt (n + 1) (fun i => w i == nI (k / P)) = cnt n (fun i => w i == nI (k / P)) + (if (w n == nI (k / P)) = true then 1 else 0) := rfl
      have hq : k / P < C := Nat.div_lt_of_lt_mul e1
      have hdm := Nat.div_add_mod k P
      have hml : k % P < P := Nat.mod_lt k (by omega)
      rw [hs, h]
      by_cases e2 : k / P = c
      · rw [e2] at hdm ⊢
        rw [Nat.mul_comm] at hdm
        have g1 : k - c * P = k % P := by omega
        have g3 : (c * P = k) ↔ k % P = 0 := by omega
        simp only [e32, e1, decide_true, Bool.true_and, beq_self_eq_true, if_true]
        by_cases g4 : k % P = 0
        · have g5 : c * P = k := by omega
          have : 0 < cnt n (fun i => w i == nI c) + 1 := by omega
          simp [g4, g5]
        · have g5 : ¬ c * P = k := by omega
          have g6 : c * P ≤ k - 1 := by omega
          have g7 : k - 1 - c * P = k % P - 1 := by omega
          have g8 : k % P - 1 < P := by omega
          have g9 : 1 ≤ k := by omega
          rw [g7]
          simp only [g5, g6, g8, g9, decide_true, decide_false, Bool.true_and, Bool.or_false]
          rw [← Bool.decide_or]
          apply decide_eq_decide.mpr
          omega
      · have hne : ¬ nI c = nI (k / P) := fun q => e2 (nI_inj (by omega) (by omega) q).symm
        have g5 : ¬ c * P = k := by
          intro q
          apply e2
          rw [← q, Nat.mul_div_cancel _ (by omega)]
        have g6 : ¬ (1 ≤ k ∧ c * P ≤ k - 1 ∧ k - 1 - c * P < P ∧ k - 1 - c * P < cnt n (fun i => w i == nI c)) := by
          rintro ⟨a1, a2, a3, a4⟩
          have a5 : k - c * P < P := by omega
          apply e2
          apply Nat.div_eq_of_lt_le
          · omega
          · rw [Nat.succ_mul]; omega
        have g7 : (decide (1 ≤ k) && (decide (c * P ≤ k - 1) && (decide (k - 1 - c * P < P) && decide (k - 1 - c * P < cnt n (fun i => w i == nI c))))) = false := by
          rw [← Bool.decide_and, ← Bool.decide_and, ← Bool.decide_and]
          exact decide_eq_false g6
        rw [g7]
        simp [e32, e1, hne, g5]
    · have g5 : ¬ c * P = k := by omega
      have g7 : (decide (1 ≤ k) && (decide (c * P ≤ k - 1) && (decide (k - 1 - c * P < P) && decide (k - 1 - c * P < cnt n (fun i => w i == nI c))))) = false := by
        rw [← Bool.decide_and, ← Bool.decide_and, ← Bool.decide_and]
        apply decide_eq_false
        rintro ⟨a1, a2, a3, a4⟩
        omega
      rw [g7]
      simp [e1, g5]
/-! packs -/
def pkI (n : Nat) (w : Nat → Int32) : Nat := fbits 15 (fun k => decide (k < 3 * n) && (nat (w (k / 3))).testBit (k % 3))
theorem pk_0 (w : Nat → Int32) : pkI 0 w = 0 := by
  apply Nat.eq_of_testBit_eq
  intro k
  unfold pkI
  rw [fbits_bit]
  simp
theorem pkI_lt (n : Nat) (w : Nat → Int32) : pkI n w < 2 ^ 15 := fbits_lt 15 _
theorem pk_step {n c : Nat} (hn : n < 5) (hc : c < 8) {w : Nat → Int32} (h : nat (w n) = c) : pkI n w ||| c * 2 ^ (3 * n) = pkI (n + 1) w := by
  apply Nat.eq_of_testBit_eq
  intro k
  unfold pkI
  rw [Nat.testBit_or, fbits_bit, fbits_bit, ← Nat.shiftLeft_eq, Nat.testBit_shiftLeft]
  by_cases e : k < 3 * n
  · have e1 : k < 3 * (n + 1) := by omega
    have e2 : ¬ 3 * n ≤ k := by omega
    simp [e, e1, e2]
  · by_cases e2 : k < 3 * (n + 1)
    · have hd : k / 3 = n := by omega
      have hm : k % 3 = k - 3 * n := by omega
      have e15 : k < 15 := by omega
      rw [hd, hm, h]
      have e3 : 3 * n ≤ k := by omega
      simp [e, e2, e15, e3]
    · have e3 : 3 * n ≤ k := by omega
      have : c.testBit (k - 3 * n) = false := Nat.testBit_lt_two_pow (Nat.lt_of_lt_of_le hc (show 2 ^ 3 ≤ 2 ^ (k - 3 * n) from Nat.pow_le_pow_right (by decide) (by omega)))
      simp [e, e2, this]
theorem pk_get {n i : Nat} (hn : n ≤ 5) (hi : i < n) {w : Nat → Int32} (h : nat (w i) < 8) : (pkI n w / 2 ^ (3 * i)) &&& 7 = nat (w i) := by
  apply Nat.eq_of_testBit_eq
  intro k
  unfold pkI
  rw [Nat.testBit_and, Nat.testBit_div_two_pow, fbits_bit, show (7 : Nat) = 2 ^ 3 - 1 from rfl, Nat.testBit_two_pow_sub_one]
  by_cases e : k < 3
  · have h1 : (k + 3 * i) / 3 = i := by omega
    have h2 : (k + 3 * i) % 3 = k := by omega
    have h3 : k + 3 * i < 15 := by omega
    have h4 : k + 3 * i < 3 * n := by omega
    rw [h1, h2]
    simp [e, h3, h4]
  · have : (nat (w i)).testBit k = false := Nat.testBit_lt_two_pow (Nat.lt_of_lt_of_le h (show 2 ^ 3 ≤ 2 ^ k from Nat.pow_le_pow_right (by decide) (by omega)))
    rw [this]
    simp [e]
/-! the next code -/
theorem peg_next {P C code i : Nat} (hC : 1 ≤ C) (hi : i < P) (hd : C ^ (P - 1 - i) ∣ code + 1) : (∀ j, i < j → j < P → pegOf P C (code + 1) j = 0) ∧ (pegOf P C code i + 1 < C → pegOf P C (code + 1) i = pegOf P C code i + 1 ∧ ∀ j, j < i → pegOf P C (code + 1) j = pegOf P C code j) ∧ (¬ pegOf P C code i + 1 < C → pegOf P C (code + 1) i = 0 ∧ C ^ (P - i) ∣ code + 1) := by
  obtain ⟨q, hq⟩ := hd
  have hpos : 0 < C ^ (P - 1 - i) := Nat.pow_pos hC
  have hq0 : 0 < q := by
    rcases Nat.eq_zero_or_pos q with h | h
    · subst h; omega
    · exact h
  have e1 : (code + 1) / C ^ (P - 1 - i) = q := by rw [hq, Nat.mul_div_cancel_left _ hpos]
  have e2 : code / C ^ (P - 1 - i) = q - 1 := by
    apply Nat.div_eq_of_lt_le
    · have : (q - 1) * C ^ (P - 1 - i) + C ^ (P - 1 - i) = code + 1 := by rw [← Nat.succ_mul, Nat.succ_eq_add_one, show q - 1 + 1 = q by omega, Nat.mul_comm]; exact hq.symm
      omega
    · rw [show q - 1 + 1 = q by omega, Nat.mul_comm]; omega
  have hsplit : ∀ j, j < i → P - 1 - j = (P - 1 - i) + (1 + (i - j - 1)) := fun j hj => by omega
  refine ⟨fun j h1 h2 => ?_, fun h => ?_, fun h => ?_⟩
  · unfold pegOf
    have : P - 1 - i = (P - 1 - j) + (1 + (j - i - 1)) := by omega
    rw [hq, this, Nat.pow_add, Nat.mul_assoc, Nat.mul_div_cancel_left _ (Nat.pow_pos hC), Nat.pow_add, Nat.pow_one, Nat.mul_assoc, Nat.mul_mod_right]
  · have e1' := e1
    have e2' := e2
    unfold pegOf at h ⊢
    rw [e2] at h
    rw [e1, e2]
    have hm : q % C = (q - 1) % C + 1 := by
      have := Nat.div_add_mod (q - 1) C
      have e : q = C * ((q - 1) / C) + ((q - 1) % C + 1) := by omega
      have h9 : q % C = (C * ((q - 1) / C) + ((q - 1) % C + 1)) % C := congrArg (· % C) e
      rw [Nat.mul_add_mod, Nat.mod_eq_of_lt h] at h9
      exact h9
    refine ⟨hm, fun j hj => ?_⟩
    have hdv : q / C = (q - 1) / C := by
      have := Nat.div_add_mod (q - 1) C
      have e : q = C * ((q - 1) / C) + ((q - 1) % C + 1) := by omega
      have h9 : q / C = (C * ((q - 1) / C) + ((q - 1) % C + 1)) / C := congrArg (· / C) e
      rw [Nat.mul_add_div hC, Nat.div_eq_of_lt h, Nat.add_zero] at h9
      exact h9
    rw [hsplit j hj, Nat.pow_add, Nat.pow_add, Nat.pow_one, ← Nat.div_div_eq_div_mul, ← Nat.div_div_eq_div_mul, ← Nat.div_div_eq_div_mul, ← Nat.div_div_eq_div_mul, e1', e2', hdv]
  · unfold pegOf at h ⊢
    rw [e2] at h
    rw [e1]
    have hl : (q - 1) % C < C := Nat.mod_lt _ hC
    have := Nat.div_add_mod (q - 1) C
    have e : q = C * ((q - 1) / C + 1) := by rw [Nat.mul_add, Nat.mul_one]; omega
    refine ⟨by rw [e, Nat.mul_mod_right], ?_⟩
    rw [show P - i = (P - 1 - i) + 1 by omega, Nat.pow_succ]
    refine ⟨(q - 1) / C + 1, ?_⟩
    rw [hq, Nat.mul_assoc, ← e]
theorem peg_0 (P C i : Nat) : pegOf P C 0 i = 0 := by unfold pegOf; rw [Nat.zero_div, Nat.zero_mod]

