/-! ===== calls of the class: a turn told ===== -/
theorem qbst_ok {σ : St} {P C N T L : Nat} : ∀ s, match qbst σ P C N T L s with
    | none => ∀ x, x < s → qB σ P C N T L x = false
    | some b => qB σ P C N T L b = true ∧ b < s ∧ ∀ x, x < s → qB σ P C N T L x = true → ones b < ones x ∨ (ones b = ones x ∧ b ≤ x) := by
  intro s
  induction s with
  | zero => intro x hx; omega
  | succ s ih =>
    rw [qbst]
    cases hq : qbst σ P C N T L s with
    | none =>
      rw [hq] at ih
      simp only at ih ⊢
      by_cases h : qB σ P C N T L s = true
      · rw [if_pos h]
        refine ⟨h, by omega, fun x hx hxq => ?_⟩
        rcases Nat.lt_succ_iff_lt_or_eq.mp hx with q | q
        · rw [ih x q] at hxq; cases hxq
        · subst q; exact Or.inr ⟨rfl, Nat.le_refl _⟩
      · rw [if_neg h]
        intro x hx
        rcases Nat.lt_succ_iff_lt_or_eq.mp hx with q | q
        · exact ih x q
        · subst q; exact Bool.eq_false_iff.mpr h
    | some b =>
      rw [hq] at ih
      simp only at ih ⊢
      obtain ⟨h1, h2, h3⟩ := ih
      by_cases ho : ones b ≤ ones s
      · rw [if_pos ho]
        refine ⟨h1, by omega, fun x hx hxq => ?_⟩
        rcases Nat.lt_succ_iff_lt_or_eq.mp hx with q | q
        · exact h3 x q hxq
        · subst q; omega
      · rw [if_neg ho]
        by_cases h : qB σ P C N T L s = true
        · rw [if_pos h]
          refine ⟨h, by omega, fun x hx hxq => ?_⟩
          rcases Nat.lt_succ_iff_lt_or_eq.mp hx with q | q
          · have := h3 x q hxq; omega
          · subst q; exact Or.inr ⟨rfl, Nat.le_refl _⟩
        · rw [if_neg h]
          refine ⟨h1, by omega, fun x hx hxq => ?_⟩
          rcases Nat.lt_succ_iff_lt_or_eq.mp hx with q | q
          · exact h3 x q hxq
          · subst q; exact absurd hxq h
theorem lqP_bst {σ : St} {P C N T L R : Nat} (h : lqP (qB σ P C N T L) (2 ^ T) R) : R = qSet σ P C N T L := by
  have hq := qbst_ok (σ := σ) (P := P) (C := C) (N := N) (T := T) (L := L) (2 ^ T)
  unfold qSet
  cases e : qbst σ P C N T L (2 ^ T) with
  | none =>
    rw [e] at hq
    simp only at hq
    rcases h with ⟨a, b, c⟩ | ⟨a, b⟩
    · rw [hq R b] at a; cases a
    · exact b
  | some b =>
    rw [e] at hq
    obtain ⟨h1, h2, h3⟩ := hq
    rcases h with ⟨a, b', c⟩ | ⟨a, b'⟩
    · have q1 := c b h2 h1
      have q2 := h3 R b' a
      show R = b
      omega
    · rw [a b h2] at h1; cases h1
theorem qq_qB {N T L : Nat} {ok : Nat → Bool} {fb : Nat → Nat} (hf : ∀ c, c < N → fb c < 2 ^ T) (s : Nat) : qq (knB ok fb N) T L s = !anyN N (fun c => ok c && decide (ones (fb c &&& s) ≤ L)) := by
  show (!anyN (2 ^ T) (fun x => anyN N (fun c => ok c && fb c == x) && decide (ones (x &&& s) ≤ L))) = _
  congr 1
  rw [Bool.eq_iff_iff, anyN_iff, anyN_iff]
  constructor
  · rintro ⟨x, hx, h⟩
    rw [Bool.and_eq_true, anyN_iff] at h
    obtain ⟨⟨c, hc, h1⟩, h2⟩ := h
    rw [Bool.and_eq_true, beq_iff_eq] at h1
    exact ⟨c, hc, by rw [h1.1, h1.2, h2]; rfl⟩
  · rintro ⟨c, hc, h⟩
    rw [Bool.and_eq_true] at h
    refine ⟨fb c, hf c hc, ?_⟩
    rw [Bool.and_eq_true, anyN_iff]
    exact ⟨⟨c, hc, by rw [h.1]; simp⟩, h.2⟩
theorem lqP_c {p q : Nat → Bool} {n R : Nat} (e : ∀ s, p s = q s) (h : lqP p n R) : lqP q n R := by
  have : p = q := funext e
  rw [← this]; exact h
theorem cnt_up {p : Nat → Bool} {n : Nat} (h : ∀ i, n ≤ i → p i = false) : ∀ d, cnt (n + d) p = cnt n p := by
  intro d
  induction d with
  | zero => rfl
  | succ d ih => show cnt (n + d + 1) p = _; rw [cnt, ih]; simp [h (n + d) (by omega)]
theorem nthT_up {p : Nat → Bool} {n : Nat} (h : ∀ i, n ≤ i → p i = false) (j : Nat) : ∀ d, nthT (n + d) p j = nthT n p j := by
  intro d
  induction d with
  | zero => rfl
  | succ d ih => show nthT (n + d + 1) p j = _; rw [nthT, ih]; simp [h (n + d) (by omega)]
theorem tl_fb {μ : St} (hP : pN μ ≤ 5) (a : Int32) (c : Nat) : fbM (tlS μ a) (pN μ) (cN μ) (tN μ + 1) c = mkF (pN μ) (cN μ) (tN μ) (μ 2) a (fbN μ) c := by
  show fbits (tN μ + 1) (isF (pN μ) (cN μ) (rng (5 * tN μ) (pN μ) (μ 2) (μ 3)) (upd (μ 4) (tN μ) a) c) = if nI (ans (pN μ) (cN μ) (μ 2) c) = a then fbits (tN μ) (isF (pN μ) (cN μ) (μ 3) (μ 4) c) else fbits (tN μ) (isF (pN μ) (cN μ) (μ 3) (μ 4) c) ||| 2 ^ tN μ
  have e1 : fbits (tN μ) (isF (pN μ) (cN μ) (rng (5 * tN μ) (pN μ) (μ 2) (μ 3)) (upd (μ 4) (tN μ) a) c) = fbits (tN μ) (isF (pN μ) (cN μ) (μ 3) (μ 4) c) := fbits_congr (fun t ht => by
    unfold isF
    rw [show upd (μ 4) (tN μ) a t = μ 4 t from by unfold upd; rw [if_neg (by omega)], ans_congr (v := fun i => μ 3 (5 * t + i)) (fun i hi => by unfold rng; rw [if_neg (by omega)])])
  have e2 : isF (pN μ) (cN μ) (rng (5 * tN μ) (pN μ) (μ 2) (μ 3)) (upd (μ 4) (tN μ) a) c (tN μ) = !(nI (ans (pN μ) (cN μ) (μ 2) c) == a) := by
    unfold isF
    rw [show upd (μ 4) (tN μ) a (tN μ) = a from by unfold upd; rw [if_pos rfl], ans_congr (v := μ 2) (fun i hi => by unfold rng; rw [if_pos (by omega)]; congr 1; omega)]
  rw [fbits, e1, e2]
  by_cases q : nI (ans (pN μ) (cN μ) (μ 2) c) = a
  · rw [if_pos q, if_neg (by simp [q])]
  · rw [if_neg q, if_pos (by simp [q])]

