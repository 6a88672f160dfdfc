/-! ===== trees: what the forest rests on ===== -/
def tG (t : TD) : Prop := tOK t ∧ 1 ≤ tn t ∧ (∀ j k, j < k → k < tn t → tL t j < tL t k) ∧ (∀ k, k < tn t → tL t k < tN2 t) ∧ (∀ g k, g < tN2 t → k < tn t → tA t g k = tfu t → tL t k = g) ∧ tfu t < 60
theorem tG.inj {t : TD} (h : tG t) {j k : Nat} (hj : j < tn t) (hk : k < tn t) (e : tL t j = tL t k) : j = k := by
  rcases Nat.lt_trichotomy j k with q | q | q
  · have := h.2.2.1 j k q hk; omega
  · exact q
  · have := h.2.2.1 k j q hj; omega
theorem p2n {n : Nat} (h : n ≤ 10) : 2 ^ n ≤ 1024 := Nat.pow_le_pow_right (by decide) h
theorem sumO_none {f : Nat → Option Nat} {n i : Nat} (hi : i < n) (h : f i = none) : sumO f n = none := by
  rcases hz : sumO f n with _ | x
  · rfl
  · obtain ⟨y, hy⟩ := sumO_ex n x hz i hi
    rw [h] at hy
    exact absurd hy (by simp)
theorem sumO_all {f : Nat → Option Nat} : ∀ n, (∀ i, i < n → ∃ y, f i = some y) → ∃ x, sumO f n = some x := by
  intro n
  induction n with
  | zero => intro _; exact ⟨0, rfl⟩
  | succ n ih =>
    intro h
    obtain ⟨x, hx⟩ := ih (fun i hi => h i (by omega))
    obtain ⟨y, hy⟩ := h n (by omega)
    exact ⟨x + y, by unfold sumO; rw [hx, hy]⟩
theorem sumO_some {g : Nat → Nat} : ∀ n, sumO (fun i => some (g i)) n = some (sumN n g) := by
  intro n
  induction n with
  | zero => rfl
  | succ n ih => unfold sumO sumN; rw [ih]
theorem sumO_ge {f : Nat → Option Nat} {b : Nat → Nat} : ∀ n x, sumO f n = some x → (∀ i, i < n → ∀ y, f i = some y → b i ≤ y) → sumN n b ≤ x := by
  intro n
  induction n with
  | zero => intro x _ _; exact Nat.zero_le _
  | succ n ih =>
    intro x h hb
    unfold sumO at h
    rcases h1 : sumO f n with _ | u
    · rw [h1] at h; simp at h
    · rcases h2 : f n with _ | v
      · rw [h1, h2] at h; simp at h
      · rw [h1, h2] at h
        simp at h
        have a1 := ih u h1 (fun i hi y hy => hb i (by omega) y hy)
        have a2 := hb n (by omega) v h2
        show sumN n b + b n ≤ x
        omega
theorem bst_none {c : Nat → Option Nat} : ∀ n, bstO c n = none ↔ ∀ i, i < n → c i = none := by
  intro n
  induction n with
  | zero => exact ⟨fun _ i hi => by omega, fun _ => rfl⟩
  | succ n ih =>
    rcases h : c n with _ | v
    · rw [bst_no h, ih]
      exact ⟨fun q i hi => by
        by_cases e : i = n
        · subst e; exact h
        · exact q i (by omega), fun q i hi => q i (by omega)⟩
    · constructor
      · intro q
        rw [bst_some h] at q
        rcases hz : bstO c n with _ | b
        · rw [hz] at q; simp at q
        · rw [hz] at q; simp only at q; split at q <;> simp at q
      · intro q; have := q n (by omega); rw [h] at this; simp at this
theorem bst_of {c : Nat → Option Nat} {v g : Nat} : ∀ n, g < n → c g = some v → (∀ i, i < g → ∀ x, c i = some x → v < x) → (∀ i, i < n → ∀ x, c i = some x → v ≤ x) → bstO c n = some (v, g) := by
  intro n
  induction n with
  | zero => intro h; omega
  | succ n ih =>
    intro hg hc h1 h2
    by_cases e : g = n
    · subst e
      rw [bst_some hc]
      rcases hz : bstO c g with _ | b
      · rfl
      · obtain ⟨b1, b2⟩ := bstO_val g b hz
        have := h1 b.2 b1 b.1 b2
        simp only
        rw [if_pos this]
    · have hb := ih (by omega) hc h1 (fun i hi => h2 i (by omega))
      rcases hz : c n with _ | x
      · rw [bst_no hz]; exact hb
      · rw [bst_some hz, hb]
        have := h2 n (by omega) x hz
        simp only
        rw [if_neg (by omega)]
theorem bst_is {c : Nat → Option Nat} : ∀ n b, bstO c n = some b → b.2 < n ∧ c b.2 = some b.1 ∧ (∀ i, i < b.2 → ∀ x, c i = some x → b.1 < x) ∧ ∀ i, i < n → ∀ x, c i = some x → b.1 ≤ x := by
  intro n
  induction n with
  | zero => intro b h; exact absurd h (by show ¬ (none : Option (Nat × Nat)) = some b; simp)
  | succ n ih =>
    intro b h
    rcases hz : c n with _ | v
    · rw [bst_no hz] at h
      obtain ⟨a1, a2, a3, a4⟩ := ih b h
      refine ⟨by omega, a2, a3, fun i hi x hx => ?_⟩
      by_cases e : i = n
      · subst e; rw [hz] at hx; simp at hx
      · exact a4 i (by omega) x hx
    · rw [bst_some hz] at h
      rcases hy : bstO c n with _ | w
      · rw [hy] at h
        simp only [Option.some.injEq] at h
        subst h
        have hno := (bst_none n).mp hy
        refine ⟨by simp, hz, fun i hi x hx => ?_, fun i hi x hx => ?_⟩
        · rw [hno i hi] at hx; simp at hx
        · by_cases e : i = n
          · subst e; rw [hz] at hx; simp at hx; simp; omega
          · rw [hno i (by omega)] at hx; simp at hx
      · obtain ⟨a1, a2, a3, a4⟩ := ih w hy
        rw [hy] at h
        simp only at h
        by_cases q : v < w.1
        · rw [if_pos q] at h
          simp only [Option.some.injEq] at h
          subst h
          refine ⟨by simp, hz, fun i hi x hx => ?_, fun i hi x hx => ?_⟩
          · have := a4 i hi x hx; simp; omega
          · by_cases e : i = n
            · subst e; rw [hz] at hx; simp at hx; simp; omega
            · have := a4 i (by omega) x hx; simp; omega
        · rw [if_neg q] at h
          simp only [Option.some.injEq] at h
          subst h
          refine ⟨by omega, a2, a3, fun i hi x hx => ?_⟩
          by_cases e : i = n
          · subst e; rw [hz] at hx; simp at hx; omega
          · exact a4 i (by omega) x hx
theorem msC_some {t : TD} {f : Nat → Nat → Option (Nat × Nat)} {d s g : Nat} : (∃ v, msC t f d s g = some v) ↔ cand t g s = true ∧ ∀ a, a < 60 → ¬ pA t g s a = 0 → ¬ d = 1 ∧ ∃ b, f (d - 1) (pA t g s a) = some b := by
  unfold msC
  constructor
  · rintro ⟨v, h⟩
    by_cases hc : cand t g s = true
    · rw [if_pos hc] at h
      obtain ⟨x, hx, -⟩ := Option.map_eq_some_iff.mp h
      refine ⟨hc, fun a ha hp => ?_⟩
      obtain ⟨y, hy⟩ := sumO_ex 60 x hx a ha
      rw [if_neg hp] at hy
      by_cases e : d = 1
      · rw [if_pos e] at hy; simp at hy
      · rw [if_neg e] at hy
        obtain ⟨b, hb, -⟩ := Option.map_eq_some_iff.mp hy
        exact ⟨e, b, hb⟩
    · rw [if_neg hc] at h; simp at h
  · rintro ⟨hc, h⟩
    rw [if_pos hc]
    obtain ⟨x, hx⟩ := sumO_all (f := fun a => if pA t g s a = 0 then some 0 else if d = 1 then none else (f (d - 1) (pA t g s a)).map Prod.fst) 60 (fun a ha => by
      by_cases hp : pA t g s a = 0
      · exact ⟨0, by simp [hp]⟩
      · obtain ⟨e, b, hb⟩ := h a ha hp
        exact ⟨b.1, by simp [hp, e, hb]⟩)
    exact ⟨ones s + x, by rw [hx]; rfl⟩
/-- a depth that is no bound -/
theorem ms_sat {t : TD} (ht : tOK t) : ∀ s, 0 < s → s < 2 ^ tn t → ∀ d e, (d = 0 ∨ ones s ≤ d) → (e = 0 ∨ ones s ≤ e) → ms t d s = ms t e s := by
  intro s
  induction s using Nat.strongRecOn with
  | ind s ih =>
    intro h0 hs d e hd he
    have hn := p2n ht.1
    rw [ms_eq ht d hs, ms_eq ht e hs]
    apply bstO_congr
    intro g _
    unfold msC
    by_cases hc : cand t g s = true
    · rw [if_pos hc, if_pos hc]
      congr 1
      apply sumO_congr
      intro a ha
      by_cases hp : pA t g s a = 0
      · rw [if_pos hp, if_pos hp]
      · rw [if_neg hp, if_neg hp]
        obtain ⟨p1, p2⟩ := part_ok ht hc hs hp ha
        have p3 := ones_pos hp (Nat.lt_of_lt_of_le (pA_lt g s a) (by omega : 2 ^ tn t ≤ 2 ^ 11))
        rw [if_neg (by omega), if_neg (by omega), ih _ p1 (by omega) (pA_lt g s a) (d - 1) (e - 1) (by omega) (by omega)]
    · rw [if_neg hc, if_neg hc]
theorem ones_parts {K m n s : Nat} {A : Nat → Nat} (hA : ∀ i, i < n → A i < K) : sumN K (fun a => cnt m (fun i => decide (i < n) && (s.testBit i && A i == a))) = cnt m (fun i => decide (i < n) && s.testBit i) := by
  induction m with
  | zero => exact sumN_zero (fun _ _ => rfl)
  | succ m ih =>
    show sumN K (fun a => cnt m (fun i => decide (i < n) && (s.testBit i && A i == a)) + (if (decide (m < n) && (s.testBit m && A m == a)) = true then 1 else 0)) = cnt m (fun i => decide (i < n) && s.testBit i) + (if (decide (m < n) && s.testBit m) = true then 1 else 0)
    rw [sumN_add, ih]
    congr 1
    by_cases h1 : m < n
    · by_cases h2 : s.testBit m = true
      · rw [h2]
        have : sumN K (fun a => if (decide (m < n) && (true && A m == a)) = true then 1 else 0) = sumN K (fun a => if a = A m then 1 else 0) := sumN_congr (fun a _ => by
          by_cases e : a = A m
          · subst e; simp [h1]
          · simp [e]; exact fun _ q => e q.symm)
        rw [this, sumN_at (hA m h1)]
        simp [h1]
      · have h2 : s.testBit m = false := by simpa using h2
        rw [h2]
        simp
        exact sumN_zero (fun _ _ => rfl)
    · simp [h1]
      exact sumN_zero (fun _ _ => rfl)
theorem sum_ones_eq {t : TD} (ht : tG t) {g s : Nat} (hg : g < tN2 t) (hs : s < 2 ^ tn t) : sumN 60 (fun a => ones (pA t g s a)) + (if hasFu t g s = true then 1 else 0) = ones s := by
  obtain ⟨hok, h1, h2, h3, h4, h60⟩ := id ht
  have hn := hok.1
  have e1 : sumN 60 (fun a => ones (prt s (tA t g) (tn t) a)) = ones s := by
    have := ones_parts (K := 60) (m := 11) (n := tn t) (s := s) (A := tA t g) (fun i hi => hok.2.2 g i hi)
    have e2 : cnt 11 (fun i => decide (i < tn t) && s.testBit i) = ones s := cnt_congr (fun i _ => by
      by_cases q : i < tn t
      · simp [q]
      · rw [Nat.testBit_lt_two_pow (Nat.lt_of_lt_of_le hs (Nat.pow_le_pow_right (by decide) (by omega)))]; simp)
    rw [← e2, ← this]
    exact sumN_congr (fun a _ => cnt_congr (fun i _ => by rw [mem_bit]))
  have e3 : ones (prt s (tA t g) (tn t) (tfu t)) = if hasFu t g s = true then 1 else 0 := by
    by_cases hf : hasFu t g s = true
    · rw [if_pos hf]
      obtain ⟨i, hi, hm⟩ := (anyN_iff _ _).mp hf
      have hm2 : (s.testBit i && tA t g i == tfu t) = true := hm
      rw [Bool.and_eq_true] at hm2
      have hL := h4 g i hg hi (eq_of_beq hm2.2)
      have : ones (prt s (tA t g) (tn t) (tfu t)) = cnt 11 (fun b => decide (b = i)) := cnt_congr (fun b _ => by
        rw [mem_bit]
        by_cases e : b = i
        · subst e; simp [hi, hm2.1, eq_of_beq hm2.2]
        · rcases hz : (decide (b < tn t) && (s.testBit b && tA t g b == tfu t)) with _ | _
          · simp [e]
          · rw [Bool.and_eq_true, Bool.and_eq_true] at hz
            have hb := of_decide_eq_true hz.1
            have := h4 g b hg hb (eq_of_beq hz.2.2)
            exact absurd (ht.inj hb hi (this.trans hL.symm)) e)
      rw [this]
      exact cnt_one (by omega)
    · rw [if_neg hf]
      have hf2 : hasFu t g s = false := by simpa using hf
      unfold prt
      rw [fbits_z hf2]
      rfl
  rw [← e3, ← e1]
  have e4 : sumN 60 (fun a => ones (prt s (tA t g) (tn t) a)) = sumN 60 (fun a => ones (pA t g s a) + (if a = tfu t then ones (prt s (tA t g) (tn t) (tfu t)) else 0)) := sumN_congr (fun a _ => by
    unfold pA
    by_cases e : a = tfu t
    · subst e; rw [if_pos rfl, if_pos rfl]; show _ = ones 0 + _; rw [show ones 0 = 0 from by decide, Nat.zero_add]
    · rw [if_neg e, if_neg e, Nat.add_zero])
  rw [e4, sumN_add, sumN_at h60]
theorem ms_ge {t : TD} (ht : tG t) : ∀ s, 0 < s → s < 2 ^ tn t → ∀ d b, ms t d s = some b → 2 * ones s - 1 ≤ b.1 := by
  intro s
  induction s using Nat.strongRecOn with
  | ind s ih =>
    intro h0 hs d b hb
    have hok := ht.1
    have hn := p2n hok.1
    rw [ms_eq hok d hs] at hb
    obtain ⟨b1, b2⟩ := bstO_val _ _ hb
    unfold msC at b2
    by_cases hc : cand t b.2 s = true
    · rw [if_pos hc] at b2
      obtain ⟨x, hx, hxe⟩ := Option.map_eq_some_iff.mp b2
      have hge := sumO_ge (b := fun a => ones (pA t b.2 s a)) 60 x hx (fun a ha y hy => by
        by_cases hp : pA t b.2 s a = 0
        · rw [hp]; show ones 0 ≤ y; rw [show ones 0 = 0 from by decide]; exact Nat.zero_le _
        · rw [if_neg hp] at hy
          by_cases e : d = 1
          · rw [if_pos e] at hy; simp at hy
          · rw [if_neg e] at hy
            obtain ⟨c, hc1, hc2⟩ := Option.map_eq_some_iff.mp hy
            obtain ⟨p1, p2⟩ := part_ok hok hc hs hp ha
            have p3 := ones_pos hp (Nat.lt_of_lt_of_le (pA_lt b.2 s a) (by omega : 2 ^ tn t ≤ 2 ^ 11))
            have := ih _ p1 (by omega) (pA_lt b.2 s a) _ c hc1
            omega)
      have hse := sum_ones_eq ht b1 hs
      have : (if hasFu t b.2 s = true then 1 else 0) ≤ 1 := by split <;> omega
      omega
    · rw [if_neg hc] at b2; simp at b2
/-- a value that is behind a guess: with the guess among the set, or not -/
theorem msC_ge {t : TD} (ht : tG t) {s d g v : Nat} (h0 : 0 < s) (hs : s < 2 ^ tn t) (hg : g < tN2 t) (h : msC t (ms t) d s g = some v) : 2 * ones s - (if hasFu t g s = true then 1 else 0) ≤ v ∧ 2 * ones s - 1 ≤ v := by
  have hok := ht.1
  have hn := p2n hok.1
  unfold msC at h
  by_cases hc : cand t g s = true
  · rw [if_pos hc] at h
    obtain ⟨x, hx, hxe⟩ := Option.map_eq_some_iff.mp h
    have hge := sumO_ge (b := fun a => ones (pA t g s a)) 60 x hx (fun a ha y hy => by
      by_cases hp : pA t g s a = 0
      · rw [hp]; show ones 0 ≤ y; rw [show ones 0 = 0 from by decide]; exact Nat.zero_le _
      · rw [if_neg hp] at hy
        by_cases e : d = 1
        · rw [if_pos e] at hy; simp at hy
        · rw [if_neg e] at hy
          obtain ⟨c, hc1, hc2⟩ := Option.map_eq_some_iff.mp hy
          obtain ⟨p1, p2⟩ := part_ok hok hc hs hp ha
          have p3 := ones_pos hp (Nat.lt_of_lt_of_le (pA_lt g s a) (by omega : 2 ^ tn t ≤ 2 ^ 11))
          have := ms_ge ht _ (by omega) (pA_lt g s a) _ c hc1
          omega)
    have hse := sum_ones_eq ht hg hs
    have : (if hasFu t g s = true then 1 else 0) ≤ 1 := by split <;> omega
    constructor <;> omega
  · rw [if_neg hc] at h; simp at h
theorem inS_fu {t : TD} (ht : tG t) {g s : Nat} (hg : g < tN2 t) : inS (tn t) (tL t) s g = hasFu t g s := by
  apply Bool.eq_iff_iff.mpr
  constructor
  · intro h
    obtain ⟨k, hk, q⟩ := (anyN_iff _ _).mp h
    rw [Bool.and_eq_true] at q
    have e := eq_of_beq q.2
    exact (anyN_iff _ _).mpr ⟨k, hk, by show (s.testBit k && tA t g k == tfu t) = true; rw [q.1, ← e, ht.1.2.1 k hk]; simp⟩
  · intro h
    obtain ⟨k, hk, q⟩ := (anyN_iff _ _).mp h
    have q : (s.testBit k && tA t g k == tfu t) = true := q
    rw [Bool.and_eq_true] at q
    exact (anyN_iff _ _).mpr ⟨k, hk, by rw [q.1, ht.2.2.2.2.1 g k hg hk (eq_of_beq q.2)]; simp⟩
theorem npt_pos {t : TD} (ht : tG t) {g s : Nat} (hg : g < tN2 t) (hs : s < 2 ^ tn t) (h : (if hasFu t g s = true then 1 else 0) < ones s) : 0 < npt t g s := by
  have hse := sum_ones_eq ht hg hs
  have hpos : 0 < sumN 60 (fun a => ones (pA t g s a)) := by omega
  rcases Nat.eq_zero_or_pos (npt t g s) with z | z
  · have hall : ∀ a, a < 60 → pA t g s a = 0 := fun a ha => by
      rcases Nat.eq_zero_or_pos (pA t g s a) with q | q
      · exact q
      · have := cnt_lt (p := fun a => decide (¬ pA t g s a = 0)) ha (by simp; omega)
        have z2 : cnt 60 (fun a => decide (¬ pA t g s a = 0)) = 0 := z
        omega
    rw [sumN_zero (fun a ha => by rw [hall a ha]; decide)] at hpos
    omega
  · exact z
theorem cand_in {t : TD} (ht : tG t) {g s : Nat} (hg : g < tN2 t) (hs : s < 2 ^ tn t) (h1 : 1 < ones s) : cand t g s = (if hasFu t g s = true then true else (!tpo t && decide (2 ≤ npt t g s))) := by
  have hnp := fun h => npt_pos ht hg hs (s := s) h
  unfold cand
  rw [inS_fu ht hg]
  have hne : (ones s == 1) = false := beq_false_of_ne (by omega)
  rw [hne, decide_eq_true h1, Bool.or_false, Bool.and_true]
  rcases hf : hasFu t g s with _ | _
  · rw [hf] at hnp
    have := hnp (by simp; omega)
    simp only [Bool.not_false, Bool.and_true, Bool.false_eq_true, if_false, Nat.add_zero]
    congr 1
    by_cases e : 2 ≤ npt t g s
    · simp [e]; omega
    · simp [e]; omega
  · rw [hf] at hnp
    have := hnp (by simp; omega)
    simp
    omega
theorem sumN_mem {n a : Nat} {f : Nat → Nat} (h : a < n) : f a ≤ sumN n f := by
  induction n with
  | zero => omega
  | succ n ih =>
    show f a ≤ sumN n f + f n
    by_cases e : a = n
    · subst e; omega
    · have := ih (by omega); omega
theorem ms_one {t : TD} (ht : tG t) {k d : Nat} (hk : k < tn t) : ms t d (2 ^ k) = some (1, tL t k) := by
  have hok := ht.1
  have hs : 2 ^ k < 2 ^ tn t := Nat.pow_lt_pow_right (by decide) hk
  have h10 := hok.1
  have ho : ones (2 ^ k) = 1 := by
    have : ones (2 ^ k) = cnt 11 (fun b => decide (b = k)) := cnt_congr (fun b _ => by rw [Nat.testBit_two_pow]; exact decide_eq_decide.mpr ⟨fun q => q.symm, fun q => q.symm⟩)
    rw [this]; exact cnt_one (by omega)
  have hin : ∀ g, g < tN2 t → (hasFu t g (2 ^ k) = true ↔ tL t k = g) := fun g hg => by
    rw [← inS_fu ht hg]
    constructor
    · intro h
      obtain ⟨j, hj, q⟩ := (anyN_iff _ _).mp h
      rw [Bool.and_eq_true, Nat.testBit_two_pow] at q
      have : k = j := of_decide_eq_true q.1
      subst this
      exact eq_of_beq q.2
    · intro h
      exact (anyN_iff _ _).mpr ⟨k, hk, by rw [Nat.testBit_two_pow_self, h]; simp⟩
  have hcd : ∀ g, g < tN2 t → cand t g (2 ^ k) = hasFu t g (2 ^ k) := fun g hg => by
    unfold cand
    rw [ho, inS_fu ht hg]
    simp
  have hL := ht.2.2.2.1 k hk
  rw [ms_eq hok d hs]
  have hval : msC t (ms t) d (2 ^ k) (tL t k) = some 1 := by
    have hf : hasFu t (tL t k) (2 ^ k) = true := (hin _ hL).mpr rfl
    have hz : ∀ a, a < 60 → pA t (tL t k) (2 ^ k) a = 0 := fun a ha => by
      have hse := sum_ones_eq ht hL hs
      rw [hf, ho] at hse
      simp at hse
      rcases Nat.eq_zero_or_pos (pA t (tL t k) (2 ^ k) a) with q | q
      · exact q
      · have p3 := ones_pos (s := pA t (tL t k) (2 ^ k) a) (by omega) (Nat.lt_of_lt_of_le (pA_lt _ _ a) (by have := p2n h10; omega : 2 ^ tn t ≤ 2 ^ 11))
        have := sumN_mem (f := fun a => ones (pA t (tL t k) (2 ^ k) a)) ha
        omega
    unfold msC
    rw [if_pos (by rw [hcd _ hL]; exact hf), sumO_congr (h := fun _ => some 0) 60 (fun a ha => by rw [hz a ha, if_pos rfl]), sumO_some (g := fun _ => 0), sumN_zero (fun _ _ => rfl), ho]
    rfl
  refine bst_of _ hL hval (fun i hi x hx => ?_) (fun i hi x hx => ?_)
  · have h2 := (msC_some.mp ⟨x, hx⟩).1
    rw [hcd i (by omega)] at h2
    have := (hin i (by omega)).mp h2
    omega
  · have := (msC_ge ht (Nat.pow_pos (by decide)) hs hi hx).2
    rw [ho] at this
    omega

