/-! ===== the total of a plan ===== -/
theorem cnt_full {n : Nat} {p : Nat → Bool} (h : cnt n p = n) : ∀ i, i < n → p i = true := by
  induction n with
  | zero => intro i hi; omega
  | succ n ih =>
    have h1 := cnt_le n p
    have e : cnt (n + 1) p = cnt n p + (if p n = true then 1 else 0) := rfl
    rw [e] at h
    by_cases q : p n = true
    · rw [if_pos q] at h
      intro i hi
      by_cases qi : i = n
      · subst qi; exact q
      · exact ih (by omega) i (by omega)
    · rw [if_neg q] at h
      omega
theorem pegOf_hi (P C x i : Nat) (hi : i < P) : pegOf (P + 1) C x i = pegOf P C (x / C) i := by
  unfold pegOf
  rw [Nat.div_div_eq_div_mul, show P + 1 - 1 - i = (P - 1 - i) + 1 by omega, Nat.pow_succ, Nat.mul_comm C]
theorem pegOf_lo (P C x : Nat) : pegOf (P + 1) C x P = x % C := by
  unfold pegOf
  rw [show P + 1 - 1 - P = 0 by omega, Nat.pow_zero, Nat.div_one]
theorem digits {C : Nat} (hC : 0 < C) : ∀ (P x c : Nat), x < C ^ P → c < C ^ P → (∀ i, i < P → pegOf P C x i = pegOf P C c i) → x = c := by
  intro P
  induction P with
  | zero => intro x c hx hc _; simp at hx hc; omega
  | succ P ih =>
    intro x c hx hc h
    have h1 : x / C = c / C := by
      refine ih _ _ ?_ ?_ (fun i hi => ?_)
      · exact Nat.div_lt_of_lt_mul (by rw [Nat.mul_comm, ← Nat.pow_succ]; exact hx)
      · exact Nat.div_lt_of_lt_mul (by rw [Nat.mul_comm, ← Nat.pow_succ]; exact hc)
      · rw [← pegOf_hi P C x i hi, ← pegOf_hi P C c i hi]; exact h i (by omega)
    have h2 := h P (by omega)
    rw [pegOf_lo, pegOf_lo] at h2
    have e1 := Nat.div_add_mod x C
    have e2 := Nat.div_add_mod c C
    rw [← e1, ← e2, h1, h2]
theorem ans_full {P C : Nat} (hP : 1 ≤ P) (hP5 : P ≤ 5) (hC : 1 ≤ C) (hC8 : C ≤ 8) {x c : Nat} (hx : x < C ^ P) (hc : c < C ^ P) (h : ans P C (fun i => nI (pegOf P C x i)) c = 10 * P) : x = c := by
  have h1 := blacks_le P C (fun i => nI (pegOf P C x i)) c
  have h2 := alike_P P C (fun i => nI (pegOf P C x i)) c
  have h3 : blacks P C (fun i => nI (pegOf P C x i)) c = P := by unfold ans at h; omega
  refine digits hC P x c hx hc (fun i hi => ?_)
  have h4 := cnt_full h3 i hi
  have h5 : nI (pegOf P C x i) = nI (pegOf P C c i) := by simpa using h4
  exact nI_inj (Nat.lt_trans (pegOf_lt hC x i) (by omega)) (Nat.lt_trans (pegOf_lt hC c i) (by omega)) h5
theorem mea_fuel {σ : St} (hp : plOK σ) (c : Nat) : ∀ f f' n, n < plN σ → n ≤ f → n ≤ f' → mea σ c f n = mea σ c f' n := by
  intro f
  induction f with
  | zero =>
    intro f' n hn h1 h2
    have : n = 0 := by omega
    subst this
    cases f' with
    | zero => rfl
    | succ f' => rw [mea, mea]; rw [if_pos rfl]
  | succ f ih =>
    intro f' n hn h1 h2
    cases f' with
    | zero =>
      have : n = 0 := by omega
      subst this
      rw [mea, mea]; rw [if_pos rfl]
    | succ f' =>
      rw [mea, mea]
      by_cases e : n = 0
      · rw [if_pos e, if_pos e]
      · obtain ⟨-, hpn⟩ := hp.2.2 n hn
        obtain ⟨⟨hf0, hfn⟩, -⟩ := hpn (by omega)
        rw [if_neg e, if_neg e, ih f' (pf σ n) (by omega) (by omega) (by omega)]
/-- the last child of n by the answer a, or -1 -/
def chd (σ : St) (n a m : Nat) : Int32 := match m with
  | 0 => -1
  | m + 1 => if chP σ n a m = true then nI m else chd σ n a m
/-- how many guesses the plan makes from node n on, till c is found -/
def pth (σ : St) (c : Nat) (f n : Nat) : Nat := match f with
  | 0 => 1
  | f + 1 => if pg σ n = c then 1 else pth σ c f (nat (chd σ n (cA2 σ (pg σ n) c) (plN σ))) + 1
def totS (σ : St) : Nat := sumN (lm σ) (fun k => pth σ (lth σ k) 40 0)
theorem chd_ex {σ : St} {n a : Nat} : ∀ m, 0 < cnt m (chP σ n a) → ∃ x, x < m ∧ chd σ n a m = nI x ∧ chP σ n a x = true := by
  intro m
  induction m with
  | zero => intro h; exact absurd h (Nat.lt_irrefl 0)
  | succ m ih =>
    intro h
    by_cases q : chP σ n a m = true
    · exact ⟨m, by omega, by rw [chd]; rw [if_pos q], q⟩
    · have e : cnt (m + 1) (chP σ n a) = cnt m (chP σ n a) + (if chP σ n a m = true then 1 else 0) := rfl
      rw [e, if_neg q] at h
      obtain ⟨x, h1, h2, h3⟩ := ih h
      exact ⟨x, by omega, by rw [chd]; rw [if_neg q]; exact h2, h3⟩
/-- the next node, where all nodes are whole -/
theorem next_ok {σ : St} (hm : mOK σ (pN σ) (cN σ) (nN σ) (tN σ) (liN σ)) (hp : plOK σ) {k n : Nat} (hk : k < lm σ) (hn : n < plN σ) (hw : wholeB σ n = true) (hme : meant σ (lth σ k) n = true) (hne : ¬ pg σ n = lth σ k) : ∃ x, x < plN σ ∧ n < x ∧ chd σ n (cA2 σ (pg σ n) (lth σ k)) (plN σ) = nI x ∧ meant σ (lth σ k) x = true := by
  obtain ⟨⟨hP, hC, hP1, hP5, hC1, hC8⟩, h2, h3, h4, -⟩ := id hm
  obtain ⟨hp0, hp40, hpl⟩ := id hp
  obtain ⟨⟨hg0, hgn⟩, -⟩ := hpl n hn
  have hl := lth_lt hk
  have ha : cA2 σ (pg σ n) (lth σ k) ≤ 10 * pN σ := ans_50 hP5 _ _
  have hna : ¬ cA2 σ (pg σ n) (lth σ k) = 10 * pN σ := fun q => hne (ans_full hP1 hP5 hC1 hC8 (by rw [← h3]; exact hgn) (by rw [← h3]; exact hl) q)
  have hb : hasB σ n (cA2 σ (pg σ n) (lth σ k)) (lm σ) = true := (anyN_iff _ _).mpr ⟨k, hk, by rw [hme]; simp⟩
  have hgG : hasG σ n (cA2 σ (pg σ n) (lth σ k)) = true := by
    unfold hasG
    rw [hb, beq_eq_false_iff_ne.mpr hna]
    rfl
  have hch : chN σ n (cA2 σ (pg σ n) (lth σ k)) = 1 := by
    unfold wholeB at hw
    have h := anyN_false (by simpa using hw) (cA2 σ (pg σ n) (lth σ k)) (show _ < 60 by omega)
    rw [hgG] at h
    simpa using h
  obtain ⟨x, hx1, hx2, hx3⟩ := chd_ex (plN σ) (show 0 < cnt (plN σ) (chP σ n (cA2 σ (pg σ n) (lth σ k))) by unfold chN at hch; omega)
  unfold chP at hx3
  simp only [Bool.and_eq_true, decide_eq_true_eq, beq_iff_eq] at hx3
  obtain ⟨⟨hx0, hx30⟩, hx31⟩ := hx3
  obtain ⟨-, hpn⟩ := hpl x hx1
  obtain ⟨⟨hf0, hfn⟩, -⟩ := hpn hx0
  have epf : pf σ x = n := by show nat (σ 30 x) = n; rw [hx30, nat_nI (by omega)]
  refine ⟨x, hx1, by omega, hx2, ?_⟩
  show mea σ (lth σ k) (39 + 1) x = true
  rw [mea, if_neg (by omega), epf, hx31, mea_fuel hp _ 39 40 n hn (by omega) (by omega)]
  simp only [beq_self_eq_true, Bool.true_and]
  exact hme
theorem neg20 : ∀ x, x < 40 → ¬ (0 : Int32) < -20 - nI x := by decide +kernel
theorem jud_pos {σ : St} (hp : plOK σ) (hj : 0 < judS σ) : (¬ (plN σ = 0 ∨ lm σ = 0)) ∧ ∀ n, n < plN σ → wholeB σ n = true := by
  have h1 : ¬ (plN σ = 0 ∨ lm σ = 0) := fun q => by unfold judS at hj; rw [if_pos q] at hj; exact absurd hj (by decide)
  have h2 : ¬ ¬ σ 0 5 = 0 := fun q => by unfold judS at hj; rw [if_neg h1, if_pos q] at hj; exact absurd hj (by decide)
  refine ⟨h1, fun n hn => ?_⟩
  rcases hb : wholeB σ n with _ | _
  · have h3 : 0 < cnt (plN σ) (nw σ) := Nat.lt_of_le_of_lt (Nat.zero_le _) (cnt_lt hn (by show (!wholeB σ n) = true; rw [hb]; rfl))
    unfold judS at hj
    rw [if_neg h1, if_neg h2, if_pos h3] at hj
    exact absurd hj (neg20 _ (Nat.lt_of_lt_of_le (nthT_ok h3).1 hp.2.1))
  · rfl
theorem pth_le (σ : St) (c : Nat) : ∀ f n, pth σ c f n ≤ f + 1 := by
  intro f
  induction f with
  | zero => intro n; exact Nat.le_refl _
  | succ f ih => intro n; rw [pth]; split; omega; have := ih (nat (chd σ n (cA2 σ (pg σ n) c) (plN σ))); omega
theorem W12_total {g : Gx} {σ : St} {Q : Option Value → St → Prop} {F : Nat → Int32} (hc : cX g YM RX12 cX12_total 7 (some .int) 9) (hm : mOK σ (pN σ) (cN σ) (nN σ) (tN σ) (liN σ)) (hp : plOK σ) (hj : 0 < judS σ) (hF : ∀ k, k < lm σ → F k = nI (lth σ k)) (hQ : ∀ w v, Q (some (.int (nI (totS σ)))) (jS σ F w v)) (w0 v0 : Nat → Int32) : aW g YM 7 Q 14 [some (.ref 0), none, none, none, none, none, none] [] (jS σ F w0 v0) := by
  obtain ⟨hpc, h2, h3, h4, -⟩ := id hm
  obtain ⟨hp0, hp40, hpl⟩ := id hp
  obtain ⟨hno, hwh⟩ := jud_pos hp hj
  have e43 : σ 0 43 = nI (plN σ) := (nI_nat hp0).symm
  have hlm : lm σ ≤ 4096 := Nat.le_trans (cnt_le _ _) h4
  have hp1 : 0 < plN σ := by rcases Nat.eq_zero_or_pos (plN σ) with q | q; exact absurd (Or.inl q) hno; exact q
  have k74 : ∀ (S : St) (x1 x2 x3 : Int32) (n a : Nat), S 30 = σ 30 → S 31 = σ 31 → S 0 43 = σ 0 43 → a < 60 → x3 = nI a → x2 = nI n → n < plN σ → aW g YM 7 Q 116 [some (.ref 0), some (.int x1), some (.int 0), some (.int x2), some (.int x3), some (.int (chd σ n a (plN σ))), none] [] S → ∀ x9 : Int32, x9 = 0 → aW g YM 7 Q 74 [some (.ref 0), some (.int x1), some (.int x9), some (.int x2), some (.int x3), some (.int (-1)), some (.int (nI 1))] [] S := by
    sorry
  sorry

