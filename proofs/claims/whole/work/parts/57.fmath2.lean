/-! ===== trees: small sets, depths, labels ===== -/
/-- the least member of a set -/
abbrev lbit (n s : Nat) : Nat := nthT n (fun k => s.testBit k) 0
theorem cnt_bits {n s : Nat} (hn : n ≤ 10) (hs : s < 2 ^ n) : cnt n (fun k => s.testBit k) = ones s := by
  unfold ones
  obtain ⟨m, hm⟩ : ∃ m, 11 = n + m := ⟨11 - n, by omega⟩
  rw [hm, cnt_add, cnt_zero (p := fun k => s.testBit (n + k)) (fun k _ => Nat.testBit_lt_two_pow (Nat.lt_of_lt_of_le hs (Nat.pow_le_pow_right (by decide) (by omega)))), Nat.add_zero]
theorem lbit_ok {n s : Nat} (hn : n ≤ 10) (hs : s < 2 ^ n) (h : 0 < ones s) : lbit n s < n ∧ s.testBit (lbit n s) = true ∧ ∀ k, k < lbit n s → s.testBit k = false := by
  have hc := cnt_bits hn hs
  obtain ⟨a1, a2, a3⟩ := nthT_ok (n := n) (p := fun k => s.testBit k) (k := 0) (by omega)
  refine ⟨a1, a2, fun k hk => ?_⟩
  rcases hz : s.testBit k with _ | _
  · rfl
  · have := cnt_lt (p := fun k => s.testBit k) (i := k) (j := lbit n s) hk hz
    have a4 : cnt (lbit n s) (fun k => s.testBit k) = 0 := a3
    omega
theorem one_pow {n s : Nat} (hn : n ≤ 10) (hs : s < 2 ^ n) (h : ones s = 1) : s = 2 ^ lbit n s := by
  obtain ⟨a1, a2, a3⟩ := lbit_ok hn hs (by omega)
  apply Nat.eq_of_testBit_eq
  intro k
  rw [Nat.testBit_two_pow]
  by_cases e : lbit n s = k
  · rw [decide_eq_true e, ← e]; exact a2
  · rw [decide_eq_false e]
    rcases hz : s.testBit k with _ | _
    · rfl
    · have hk : k < n := by
        rcases Nat.lt_or_ge k n with q | q
        · exact q
        · rw [Nat.testBit_lt_two_pow (Nat.lt_of_lt_of_le hs (Nat.pow_le_pow_right (by decide) q))] at hz; exact absurd hz (by decide)
      exact absurd (cnt_uniq (p := fun k => s.testBit k) (by rw [cnt_bits hn hs]; omega) a1 hk a2 hz) e
theorem ms_1 {t : TD} (ht : tG t) {s d : Nat} (hs : s < 2 ^ tn t) (h : ones s = 1) : ms t d s = some (1, tL t (lbit (tn t) s)) := by
  have e := one_pow ht.1.1 hs h
  have hk := (lbit_ok ht.1.1 hs (by omega)).1
  have := ms_one ht (k := lbit (tn t) s) (d := d) hk
  rw [← e] at this
  exact this
theorem fu_bit {t : TD} (ht : tG t) {g s : Nat} (hg : g < tN2 t) (h : hasFu t g s = true) : ∃ k, k < tn t ∧ s.testBit k = true ∧ tL t k = g := by
  rw [← inS_fu ht hg] at h
  obtain ⟨k, hk, q⟩ := (anyN_iff _ _).mp h
  rw [Bool.and_eq_true] at q
  exact ⟨k, hk, q.1, eq_of_beq q.2⟩
theorem bit_fu {t : TD} (ht : tG t) {k s : Nat} (hk : k < tn t) (hb : s.testBit k = true) : hasFu t (tL t k) s = true := by
  rw [← inS_fu ht (ht.2.2.2.1 k hk)]
  exact (anyN_iff _ _).mpr ⟨k, hk, by rw [hb]; simp⟩
theorem ms_2 {t : TD} (ht : tG t) {s d : Nat} (hs : s < 2 ^ tn t) (h : ones s = 2) (hd : ¬ d = 1) : ms t d s = some (3, tL t (lbit (tn t) s)) := by
  have hok := ht.1
  have h10 := hok.1
  have hn := p2n h10
  obtain ⟨a1, a2, a3⟩ := lbit_ok h10 hs (by omega)
  generalize lbit (tn t) s = i at *
  have hL := ht.2.2.2.1 i a1
  have hf := bit_fu ht a1 a2
  have hs0 : 0 < s := by
    rcases Nat.eq_zero_or_pos s with q | q
    · subst q; exact absurd a2 (by simp)
    · exact q
  rw [ms_eq hok d hs]
  have hcd : cand t (tL t i) s = true := by rw [cand_in ht hL hs (by omega), if_pos hf]
  have hse := sum_ones_eq ht hL hs
  rw [hf, h] at hse
  simp only [if_true] at hse
  have hval : msC t (ms t) d s (tL t i) = some 3 := by
    unfold msC
    rw [if_pos hcd, sumO_congr (h := fun a => some (ones (pA t (tL t i) s a))) 60 (fun a ha => ?_), sumO_some (g := fun a => ones (pA t (tL t i) s a)), h, show sumN 60 (fun a => ones (pA t (tL t i) s a)) = 1 by omega]
    · rfl
    · by_cases hp : pA t (tL t i) s a = 0
      · rw [if_pos hp, hp]; rfl
      · rw [if_neg hp, if_neg hd]
        have p3 := ones_pos hp (Nat.lt_of_lt_of_le (pA_lt _ s a) (by omega : 2 ^ tn t ≤ 2 ^ 11))
        have p4 := sumN_mem (f := fun a => ones (pA t (tL t i) s a)) ha
        have p5 : ones (pA t (tL t i) s a) = 1 := by omega
        rw [ms_1 ht (pA_lt _ s a) p5, p5]
        rfl
  refine bst_of _ hL hval (fun g hg x hx => ?_) (fun g hg x hx => ?_)
  · have hno : hasFu t g s = false := by
      rcases hz : hasFu t g s with _ | _
      · rfl
      · obtain ⟨k, k1, k2, k3⟩ := fu_bit ht (by omega) hz
        rcases Nat.lt_trichotomy k i with q | q | q
        · rw [a3 k q] at k2; exact absurd k2 (by decide)
        · subst q; omega
        · have := ht.2.2.1 i k q k1; omega
    have := (msC_ge ht hs0 hs (by omega) hx).1
    rw [hno, h] at this
    simp at this
    omega
  · have := (msC_ge ht hs0 hs hg hx).2
    omega
theorem ms_d1 {t : TD} (ht : tG t) {s : Nat} (hs : s < 2 ^ tn t) (h : 1 < ones s) : ms t 1 s = none := by
  have hok := ht.1
  rw [ms_eq hok 1 hs]
  refine (bst_none _).mpr (fun g hg => ?_)
  rcases hz : msC t (ms t) 1 s g with _ | v
  · rfl
  · obtain ⟨-, h2⟩ := msC_some.mp ⟨v, hz⟩
    have h3 := npt_pos ht hg hs (by have : (if hasFu t g s = true then 1 else 0) ≤ 1 := by split <;> omega
                                    omega)
    have h4 : npt t g s = 0 := cnt_zero (fun a ha => by
      apply decide_eq_false
      intro q
      exact (h2 a ha q).1 rfl)
    omega
theorem maxO_iff {f : Nat → Option Nat} {k : Nat} : ∀ n, (∃ x, maxO f n = some x ∧ x ≤ k) ↔ ∀ i, i < n → ∃ y, f i = some y ∧ y ≤ k := by
  intro n
  induction n with
  | zero => exact ⟨fun _ i hi => by omega, fun _ => ⟨0, rfl, Nat.zero_le _⟩⟩
  | succ n ih =>
    constructor
    · rintro ⟨x, hx, hxk⟩
      unfold maxO at hx
      rcases h1 : maxO f n with _ | u
      · rw [h1] at hx; simp at hx
      · rcases h2 : f n with _ | v
        · rw [h1, h2] at hx; simp at hx
        · rw [h1, h2] at hx
          simp only [Option.some.injEq] at hx
          have hu : u ≤ k := by split at hx <;> omega
          have hv : v ≤ k := by split at hx <;> omega
          intro i hi
          by_cases e : i = n
          · subst e; exact ⟨v, h2, hv⟩
          · exact ih.mp ⟨u, h1, hu⟩ i (by omega)
    · intro h
      obtain ⟨u, hu, huk⟩ := ih.mpr (fun i hi => h i (by omega))
      obtain ⟨v, hv, hvk⟩ := h n (by omega)
      refine ⟨if u < v then v else u, by unfold maxO; rw [hu, hv], by split <;> omega⟩
theorem mdC_iff {t : TD} {f : Nat → Option (Nat × Nat)} {d s g : Nat} (hd : 1 ≤ d) : (∃ m, mdC t f s g = some m ∧ m ≤ d) ↔ cand t g s = true ∧ ∀ a, a < 60 → ¬ pA t g s a = 0 → ∃ b, f (pA t g s a) = some b ∧ b.1 ≤ d - 1 := by
  unfold mdC
  constructor
  · rintro ⟨m, h, hm⟩
    by_cases hc : cand t g s = true
    · rw [if_pos hc] at h
      obtain ⟨x, hx, hxe⟩ := Option.map_eq_some_iff.mp h
      refine ⟨hc, fun a ha hp => ?_⟩
      obtain ⟨y, hy, hyk⟩ := (maxO_iff 60).mp ⟨x, hx, (by omega : x ≤ d - 1)⟩ a ha
      rw [if_neg hp] at hy
      obtain ⟨b, hb, hbe⟩ := Option.map_eq_some_iff.mp hy
      exact ⟨b, hb, by omega⟩
    · rw [if_neg hc] at h; simp at h
  · rintro ⟨hc, h⟩
    rw [if_pos hc]
    obtain ⟨x, hx, hxk⟩ := (maxO_iff (f := fun a => if pA t g s a = 0 then some 0 else (f (pA t g s a)).map Prod.fst) (k := d - 1) 60).mpr (fun a ha => by
      by_cases hp : pA t g s a = 0
      · exact ⟨0, by simp [hp], Nat.zero_le _⟩
      · obtain ⟨b, hb, hbk⟩ := h a ha hp
        exact ⟨b.1, by simp [hp, hb], hbk⟩)
    exact ⟨1 + x, by rw [hx]; rfl, by omega⟩
theorem bst_le {c : Nat → Option Nat} {n d : Nat} : (∃ b, bstO c n = some b ∧ b.1 ≤ d) ↔ ∃ g, g < n ∧ ∃ m, c g = some m ∧ m ≤ d := by
  constructor
  · rintro ⟨b, hb, hd⟩
    obtain ⟨a1, a2, -, -⟩ := bst_is n b hb
    exact ⟨b.2, a1, b.1, a2, hd⟩
  · rintro ⟨g, hg, m, hm, hd⟩
    rcases hz : bstO c n with _ | b
    · rw [(bst_none n).mp hz g hg] at hm; simp at hm
    · have := (bst_is n b hz).2.2.2 g hg m hm
      exact ⟨b, rfl, by omega⟩
theorem bst_ex {c : Nat → Option Nat} {n : Nat} : (∃ b, bstO c n = some b) ↔ ∃ g, g < n ∧ ∃ m, c g = some m := by
  constructor
  · rintro ⟨b, hb⟩
    obtain ⟨a1, a2, -, -⟩ := bst_is n b hb
    exact ⟨b.2, a1, b.1, a2⟩
  · rintro ⟨g, hg, m, hm⟩
    rcases hz : bstO c n with _ | b
    · rw [(bst_none n).mp hz g hg] at hm; simp at hm
    · exact ⟨b, rfl⟩
theorem md_ms {t : TD} (ht : tOK t) : ∀ s, 0 < s → s < 2 ^ tn t → ∀ d, 1 ≤ d → ((∃ b, ms t d s = some b) ↔ ∃ b, md t s = some b ∧ b.1 ≤ d) ∧ ∀ g, ((∃ v, msC t (ms t) d s g = some v) ↔ ∃ m, mdC t (md t) s g = some m ∧ m ≤ d) := by
  intro s
  induction s using Nat.strongRecOn with
  | ind s ih =>
    intro h0 hs d hd
    have hn := p2n ht.1
    have hg : ∀ g, ((∃ v, msC t (ms t) d s g = some v) ↔ ∃ m, mdC t (md t) s g = some m ∧ m ≤ d) := fun g => by
      rw [msC_some, mdC_iff hd]
      constructor
      · rintro ⟨hc, h⟩
        refine ⟨hc, fun a ha hp => ?_⟩
        obtain ⟨h1, h2⟩ := h a ha hp
        have p1 := (part_ok ht hc hs hp ha).1
        exact ((ih _ p1 (by omega) (pA_lt g s a) (d - 1) (by omega)).1).mp h2
      · rintro ⟨hc, h⟩
        refine ⟨hc, fun a ha hp => ?_⟩
        obtain ⟨b, hb, hbd⟩ := h a ha hp
        have p1 := (part_ok ht hc hs hp ha).1
        have hb1 : 1 ≤ b.1 := by
          rw [md_eq ht (pA_lt g s a)] at hb
          have := (bst_is _ b hb).2.1
          unfold mdC at this
          split at this
          · obtain ⟨x, -, hx⟩ := Option.map_eq_some_iff.mp this
            omega
          · simp at this
        exact ⟨by omega, ((ih _ p1 (by omega) (pA_lt g s a) (d - 1) (by omega)).1).mpr ⟨b, hb, hbd⟩⟩
    refine ⟨?_, hg⟩
    rw [ms_eq ht d hs, md_eq ht hs, bst_ex, bst_le]
    constructor
    · rintro ⟨g, h1, h2⟩; exact ⟨g, h1, (hg g).mp h2⟩
    · rintro ⟨g, h1, h2⟩; exact ⟨g, h1, (hg g).mpr h2⟩
theorem cand_mem {t : TD} (ht : tG t) {k s : Nat} (hk : k < tn t) (hb : s.testBit k = true) (hs : s < 2 ^ tn t) : cand t (tL t k) s = true := by
  have hL := ht.2.2.2.1 k hk
  have hf := bit_fu ht hk hb
  rcases Nat.lt_or_ge 1 (ones s) with h | h
  · rw [cand_in ht hL hs h, if_pos hf]
  · unfold cand
    rw [inS_fu ht hL, hf, decide_eq_false (by omega : ¬ 1 < ones s)]
    simp
theorem ones_pos' {n s : Nat} (hn : n ≤ 10) (hs : s < 2 ^ n) (h0 : 0 < s) : 0 < ones s := ones_pos (by omega) (Nat.lt_of_lt_of_le hs (Nat.pow_le_pow_right (by decide) (by omega)))
theorem md_some {t : TD} (ht : tG t) : ∀ s, 0 < s → s < 2 ^ tn t → ∃ b, md t s = some b := by
  intro s
  induction s using Nat.strongRecOn with
  | ind s ih =>
    intro h0 hs
    have hok := ht.1
    obtain ⟨a1, a2, -⟩ := lbit_ok hok.1 hs (ones_pos' hok.1 hs h0)
    have hc := cand_mem ht a1 a2 hs
    rw [md_eq hok hs, bst_ex]
    refine ⟨tL t (lbit (tn t) s), ht.2.2.2.1 _ a1, ?_⟩
    obtain ⟨m, hm, -⟩ := (mdC_iff (t := t) (f := md t) (d := 2000) (s := s) (g := tL t (lbit (tn t) s)) (by decide)).mpr ⟨hc, fun a ha hp => by
      have p1 := (part_ok hok hc hs hp ha).1
      obtain ⟨b, hb⟩ := ih _ p1 (by omega) (pA_lt _ s a)
      have := md_le hok _ _ b (Nat.le_refl _) (by omega) (pA_lt _ s a) hb
      have h11 := ones_le (pA t (tL t (lbit (tn t) s)) s a)
      exact ⟨b, hb, by omega⟩⟩
    exact ⟨m, hm⟩
/-! labels: the members by the class of their answer -/
def Lab (A : Nat → Nat) (fu n M : Nat) (lb : Nat → Nat) : Prop := M ≤ n ∧ (∀ k, k < n → A k = fu → lb k = 15) ∧ (∀ k, k < n → ¬ A k = fu → lb k < M) ∧ (∀ j k, j < n → k < n → ¬ A j = fu → ¬ A k = fu → (lb j = lb k ↔ A j = A k)) ∧ ∀ m, m < M → ∃ k, k < n ∧ ¬ A k = fu ∧ lb k = m
abbrev lpt (n : Nat) (lb : Nat → Nat) (s m : Nat) : Nat := fbits n (fun k => s.testBit k && lb k == m)
theorem Lab_sum {t : TD} {g s M : Nat} {lb : Nat → Nat} (h10 : tn t ≤ 10) (h60 : ∀ k, k < tn t → tA t g k < 60) (hl : Lab (tA t g) (tfu t) (tn t) M lb) (F : Nat → Option Nat) : sumO (fun m => if lpt (tn t) lb s m = 0 then some 0 else F (lpt (tn t) lb s m)) M = sumO (fun a => if pA t g s a = 0 then some 0 else F (pA t g s a)) 60 := by
  obtain ⟨l1, l2, l3, l4, l5⟩ := hl
  let rp : Nat → Nat := fun m => nthT (tn t) (fun k => lb k == m) 0
  have hrp : ∀ m, m < M → rp m < tn t ∧ lb (rp m) = m ∧ ¬ tA t g (rp m) = tfu t := fun m hm => by
    obtain ⟨k, k1, k2, k3⟩ := l5 m hm
    have hc : 0 < cnt (tn t) (fun k => lb k == m) := Nat.lt_of_le_of_lt (Nat.zero_le _) (cnt_lt (p := fun k => lb k == m) k1 (by rw [k3]; simp))
    obtain ⟨b1, b2, -⟩ := nthT_ok hc
    have b3 : lb (rp m) = m := eq_of_beq b2
    exact ⟨b1, b3, fun q => by have h15 : lb (rp m) = 15 := l2 (rp m) b1 q; omega⟩
  have hpt : ∀ m, m < M → lpt (tn t) lb s m = pA t g s (tA t g (rp m)) := fun m hm => by
    obtain ⟨r1, r2, r3⟩ := hrp m hm
    unfold pA
    rw [if_neg r3]
    refine fbits_congr (fun k hk => ?_)
    show _ = (s.testBit k && tA t g k == tA t g (rp m))
    congr 1
    by_cases e : tA t g k = tfu t
    · rw [beq_false_of_ne (fun q => r3 (q.symm.trans e)), beq_false_of_ne (by have := l2 k hk e; omega)]
    · have := l4 k (rp m) hk r1 e r3
      rw [r2] at this
      by_cases q : lb k = m
      · rw [this.mp q, q]; simp
      · rw [beq_false_of_ne q, beq_false_of_ne (fun z => q (this.mpr z))]
  rw [sumO_congr (h := fun m => (fun a => if pA t g s a = 0 then some 0 else F (pA t g s a)) (tA t g (rp m))) M (fun m hm => by simp only [hpt m hm])]
  rw [sumO_list (f := fun a => if pA t g s a = 0 then some 0 else F (pA t g s a)) (pa := fun m => tA t g (rp m)) M (fun m hm => h60 _ (hrp m hm).1) (fun m m' hm hm' e => by
    obtain ⟨r1, r2, r3⟩ := hrp m hm
    obtain ⟨q1, q2, q3⟩ := hrp m' hm'
    have := (l4 _ _ r1 q1 r3 q3).mpr e
    omega)]
  apply sumO_congr
  intro a ha
  by_cases hz : anyN M (fun m => tA t g (rp m) == a) = true
  · rw [if_pos hz]
  · rw [if_neg hz]
    have h0 : pA t g s a = 0 := by
      unfold pA
      by_cases e : a = tfu t
      · rw [if_pos e]
      · rw [if_neg e]
        apply fbits_z
        rcases hy : anyN (tn t) (mem s (tA t g) a) with _ | _
        · rfl
        · obtain ⟨k, hk, q⟩ := (anyN_iff _ _).mp hy
          have q : (s.testBit k && tA t g k == a) = true := q
          rw [Bool.and_eq_true] at q
          have ea := eq_of_beq q.2
          have hne : ¬ tA t g k = tfu t := fun z => e (ea.symm.trans z)
          have hm := l3 k hk hne
          obtain ⟨r1, r2, r3⟩ := hrp (lb k) hm
          have := (l4 _ _ r1 hk r3 hne).mp r2
          exact absurd ((anyN_iff _ _).mpr ⟨lb k, hm, by rw [this, ea]; simp⟩) hz
    rw [h0, if_pos rfl]
theorem Lab_npt {t : TD} {g s M : Nat} {lb : Nat → Nat} (h10 : tn t ≤ 10) (h60 : ∀ k, k < tn t → tA t g k < 60) (hl : Lab (tA t g) (tfu t) (tn t) M lb) : npt t g s = cnt M (fun m => decide (¬ lpt (tn t) lb s m = 0)) := by
  have h := Lab_sum (s := s) h10 h60 hl (fun _ => some 1)
  have e1 : sumO (fun m => if lpt (tn t) lb s m = 0 then some 0 else some 1) M = some (cnt M (fun m => decide (¬ lpt (tn t) lb s m = 0))) := by
    rw [sumO_congr (h := fun m => some (if (decide (¬ lpt (tn t) lb s m = 0)) = true then 1 else 0)) M (fun m _ => by
      by_cases q : lpt (tn t) lb s m = 0 <;> simp [q]), sumO_some (g := fun m => if (decide (¬ lpt (tn t) lb s m = 0)) = true then 1 else 0), cnt_sum]
  have e2 : sumO (fun a => if pA t g s a = 0 then some 0 else some 1) 60 = some (npt t g s) := by
    rw [sumO_congr (h := fun a => some (if (decide (¬ pA t g s a = 0)) = true then 1 else 0)) 60 (fun m _ => by
      by_cases q : pA t g s m = 0 <;> simp [q]), sumO_some (g := fun a => if (decide (¬ pA t g s a = 0)) = true then 1 else 0), cnt_sum]
    rfl
  rw [e1, e2] at h
  simpa using h.symm
def shp (n : Nat) (lb : Nat → Nat) : Nat := fbits 40 (fun k => decide (k < 4 * n) && (lb (k / 4)).testBit (k % 4))
theorem shp_0 (lb : Nat → Nat) : shp 0 lb = 0 := by
  apply Nat.eq_of_testBit_eq
  intro k
  unfold shp
  rw [fbits_bit]
  simp
theorem shp_lt (n : Nat) (lb : Nat → Nat) : shp n lb < 2 ^ 40 := fbits_lt 40 _
theorem shp_s {n : Nat} {lb : Nat → Nat} (hn : n < 10) (h : lb n < 16) : shp n lb ||| lb n * 2 ^ (4 * n) = shp (n + 1) lb := by
  apply Nat.eq_of_testBit_eq
  intro k
  unfold shp
  rw [Nat.testBit_or, fbits_bit, fbits_bit, ← Nat.shiftLeft_eq, Nat.testBit_shiftLeft]
  by_cases e : k < 4 * n
  · have e1 : k < 4 * (n + 1) := by omega
    have e2 : ¬ 4 * n ≤ k := by omega
    simp [e, e1, e2]
  · by_cases e2 : k < 4 * (n + 1)
    · have hd : k / 4 = n := by omega
      have hm : k % 4 = k - 4 * n := by omega
      have e15 : k < 40 := by omega
      rw [hd, hm]
      have e3 : 4 * n ≤ k := by omega
      simp [e, e2, e15, e3]
    · have e3 : 4 * n ≤ k := by omega
      have : (lb n).testBit (k - 4 * n) = false := Nat.testBit_lt_two_pow (Nat.lt_of_lt_of_le h (show 2 ^ 4 ≤ 2 ^ (k - 4 * n) from Nat.pow_le_pow_right (by decide) (by omega)))
      simp [e, e2, this]
theorem shp_congr {n : Nat} {lb lc : Nat → Nat} (h : ∀ k, k < n → lb k = lc k) : shp n lb = shp n lc := fbits_congr (fun k _ => by
  by_cases e : k < 4 * n
  · rw [h (k / 4) (by omega)]
  · simp [e])
theorem shp_inj {n : Nat} {lb lc : Nat → Nat} (hn : n ≤ 10) (h1 : ∀ k, k < n → lb k < 16) (h2 : ∀ k, k < n → lc k < 16) (e : shp n lb = shp n lc) : ∀ k, k < n → lb k = lc k := by
  intro k hk
  apply Nat.eq_of_testBit_eq
  intro j
  by_cases hj : j < 4
  · have := congrArg (fun z => z.testBit (4 * k + j)) e
    unfold shp at this
    simp only [fbits_bit] at this
    rw [show (4 * k + j) / 4 = k by omega, show (4 * k + j) % 4 = j by omega] at this
    simpa [show 4 * k + j < 40 by omega, show 4 * k + j < 4 * n by omega] using this
  · rw [Nat.testBit_lt_two_pow (Nat.lt_of_lt_of_le (h1 k hk) (show 2 ^ 4 ≤ 2 ^ j from Nat.pow_le_pow_right (by decide) (by omega))), Nat.testBit_lt_two_pow (Nat.lt_of_lt_of_le (h2 k hk) (show 2 ^ 4 ≤ 2 ^ j from Nat.pow_le_pow_right (by decide) (by omega)))]
theorem Lab.lt {A : Nat → Nat} {fu n M : Nat} {lb : Nat → Nat} (h : Lab A fu n M lb) (h10 : n ≤ 10) {k : Nat} (hk : k < n) : lb k < 16 := by
  by_cases e : A k = fu
  · rw [h.2.1 k hk e]; decide
  · have := h.2.2.1 k hk e; have := h.1; omega
/-- guesses with one shape are worth the same -/
theorem Lab_same {t : TD} (ht : tG t) {g g' M M' d s : Nat} {lb lb' : Nat → Nat} (hg : g < tN2 t) (hg' : g' < tN2 t) (hs : s < 2 ^ tn t) (h1 : 1 < ones s) (hl : Lab (tA t g) (tfu t) (tn t) M lb) (hl' : Lab (tA t g') (tfu t) (tn t) M' lb') (e : ∀ k, k < tn t → lb k = lb' k) : msC t (ms t) d s g = msC t (ms t) d s g' := by
  have hok := ht.1
  have h10 := hok.1
  have hM : M = M' := by
    obtain ⟨a1, a2, a3, a4, a5⟩ := id hl
    obtain ⟨b1, b2, b3, b4, b5⟩ := id hl'
    rcases Nat.lt_trichotomy M M' with q | q | q
    · obtain ⟨k, k1, k2, k3⟩ := b5 M q
      rw [← e k k1] at k3
      by_cases z : tA t g k = tfu t
      · have := a2 k k1 z; omega
      · have := a3 k k1 z; omega
    · exact q
    · obtain ⟨k, k1, k2, k3⟩ := a5 M' q
      rw [e k k1] at k3
      by_cases z : tA t g' k = tfu t
      · have := b2 k k1 z; omega
      · have := b3 k k1 z; omega
  subst hM
  have hpt : ∀ m, lpt (tn t) lb s m = lpt (tn t) lb' s m := fun m => fbits_congr (fun k hk => by rw [e k hk])
  have hfu : hasFu t g s = hasFu t g' s := by
    have key : ∀ g lb, Lab (tA t g) (tfu t) (tn t) M lb → ∀ k, k < tn t → (tA t g k == tfu t) = (lb k == 15) := fun g lb hl k hk => by
      by_cases z : tA t g k = tfu t
      · rw [z, hl.2.1 k hk z]; simp
      · rw [beq_false_of_ne z, beq_false_of_ne (by have := hl.2.2.1 k hk z; have := hl.1; omega)]
    unfold hasFu
    apply Bool.eq_iff_iff.mpr
    rw [anyN_iff, anyN_iff]
    constructor
    · rintro ⟨k, hk, q⟩
      refine ⟨k, hk, ?_⟩
      have q : (s.testBit k && tA t g k == tfu t) = true := q
      show (s.testBit k && tA t g' k == tfu t) = true
      rw [key g lb hl k hk] at q
      rw [key g' lb' hl' k hk, ← e k hk]
      exact q
    · rintro ⟨k, hk, q⟩
      refine ⟨k, hk, ?_⟩
      have q : (s.testBit k && tA t g' k == tfu t) = true := q
      show (s.testBit k && tA t g k == tfu t) = true
      rw [key g' lb' hl' k hk] at q
      rw [key g lb hl k hk, e k hk]
      exact q
  have hnp : npt t g s = npt t g' s := by
    rw [Lab_npt h10 (fun k hk => hok.2.2 g k hk) hl, Lab_npt h10 (fun k hk => hok.2.2 g' k hk) hl']
    exact cnt_congr (fun m _ => by rw [hpt m])
  have hcd : cand t g s = cand t g' s := by rw [cand_in ht hg hs h1, cand_in ht hg' hs h1, hfu, hnp]
  unfold msC
  rw [hcd]
  by_cases q : cand t g' s = true
  · rw [if_pos q, if_pos q]
    congr 1
    have k1 := Lab_sum (s := s) h10 (fun k hk => hok.2.2 g k hk) hl (fun p => if d = 1 then none else (ms t (d - 1) p).map Prod.fst)
    have k2 := Lab_sum (s := s) h10 (fun k hk => hok.2.2 g' k hk) hl' (fun p => if d = 1 then none else (ms t (d - 1) p).map Prod.fst)
    rw [← k1, ← k2]
    exact sumO_congr _ (fun m _ => by simp only [hpt m])
  · rw [if_neg q, if_neg q]

