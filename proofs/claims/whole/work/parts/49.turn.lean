/-! ===== the class: turnings ===== -/
def swp (f : Nat → Nat) (i j : Nat) : Nat → Nat := fun k => if k = j then f i else if k = i then f j else f k
def falN (f : Nat → Nat) (k : Nat) : Nat := match k with
  | 0 => 0
  | k + 1 => if f (k + 1) < f k then falN f k else k + 1
def aboN (f : Nat → Nat) (v fl j : Nat) : Nat := match j with
  | 0 => 0
  | j + 1 => if fl < j + 1 ∧ f (j + 1) < v then aboN f v fl j else j + 1
def revF (n : Nat) (f : Nat → Nat) (lo hi : Nat) : Nat → Nat := match n with
  | 0 => f
  | n + 1 => if lo < hi then revF n (swp f lo hi) (lo + 1) (hi - 1) else f
def stepF (m : Nat) (f : Nat → Nat) : Nat → Nat := match falN f (m - 1) with
  | 0 => f
  | k + 1 => revF 5 (swp f k (aboN f (f k) k (m - 1))) (k + 1) (m - 1)
theorem step_fin : ∀ m, m < 6 → ∀ n, n < fct m - 1 → ∀ i, i < m → stepF m (lat (ordL m n)) i = lat (ordL m (n + 1)) i := by decide +kernel
theorem ord_0 : ∀ m, m < 6 → ∀ i, i < m → lat (ordL m 0) i = i := by decide +kernel
theorem ord_1 : ∀ m, m < 6 → ∀ n, n < fct m → ∀ j, j < m → cnt m (fun i => lat (ordL m n) i == j) = 1 := by decide +kernel
theorem ord_inj : ∀ m, m < 6 → ∀ n, n < fct m → ∀ i, i < m → ∀ j, j < m → lat (ordL m n) i = lat (ordL m n) j → i = j := by decide +kernel
theorem fct_pos : ∀ m, 0 < fct m := by
  intro m
  induction m with
  | zero => decide
  | succ m ih => exact Nat.mul_pos ih (Nat.succ_pos m)
theorem fct_le : ∀ m, m < 6 → fct m ≤ 120 := by decide
theorem falN_le (f : Nat → Nat) : ∀ k, falN f k ≤ k := by
  intro k
  induction k with
  | zero => exact Nat.le_refl 0
  | succ k ih => unfold falN; split <;> omega
theorem aboN_le (f : Nat → Nat) (v fl : Nat) : ∀ j, aboN f v fl j ≤ j := by
  intro j
  induction j with
  | zero => exact Nat.le_refl 0
  | succ j ih => unfold aboN; split <;> omega
/-- a row of small numbers -/
def rwI (w : Nat → Int32) (m : Nat) (f : Nat → Nat) : Prop := ∀ i, i < m → w i = nI (f i) ∧ f i < 8
theorem rwI.swp {w : Nat → Int32} {m i j : Nat} {f : Nat → Nat} (h : rwI w m f) (hi : i < m) (hj : j < m) : rwI (upd (upd w i (w j)) j (w i)) m (swp f i j) := by
  intro k hk
  unfold Jvm.Pilot.CPegCourtLaw_law_r6282_ddd2dc.swp
  by_cases e : k = j
  · subst e; rw [upd_s, if_pos rfl]; exact h i hi
  · rw [upd_n e, if_neg e]
    by_cases e2 : k = i
    · subst e2; rw [upd_s, if_pos rfl]; exact h j hj
    · rw [upd_n e2, if_neg e2]; exact h k hk
theorem C10_exchange (d : Nat) (σ : St) {x len i j : Nat} (hy : YC[x]? = some (.inl (0, len, []))) (hl5 : len ≤ 5) (hi : i < len) (hj : j < len) : Mt YC mX10_exchange d [.ref x, .int (nI i), .int (nI j)] σ (fun r τ => r = none ∧ τ = va_up σ x (upd (upd (σ x) i (σ x j)) j (σ x i))) := by
  refine Mt.ofA [some (.ref x), some (.int (nI i)), some (.int (nI j)), none] (by decide) (fun _ => Nat.le_of_ble_eq_true rfl) (fun _ => rfl) (fun g hc => ?_)
  refine st_aload_n hc dX10_exchange_0 rfl rfl ?_
  refine st_iload_n hc dX10_exchange_1 rfl rfl ?_
  refine st_ialdN (k := i) hc dX10_exchange_2 hy (rfl) (by omega) (by first | decide | omega) rfl ?_
  refine st_istore_n hc dX10_exchange_3 rfl (by decide) rfl ?_
  refine st_aload_n hc dX10_exchange_4 rfl rfl ?_
  refine st_iload_n hc dX10_exchange_5 rfl rfl ?_
  refine st_aload_n hc dX10_exchange_6 rfl rfl ?_
  refine st_iload_n hc dX10_exchange_7 rfl rfl ?_
  refine st_ialdN (k := j) hc dX10_exchange_8 hy (rfl) (by omega) (by first | decide | omega) rfl ?_
  refine st_iastN (k := i) hc dX10_exchange_9 hy (rfl) (by omega) (by first | decide | omega)  ?_
  refine st_aload_n hc dX10_exchange_10 rfl rfl ?_
  refine st_iload_n hc dX10_exchange_11 rfl rfl ?_
  refine st_iload_n hc dX10_exchange_12 rfl rfl ?_
  refine st_iastN (k := j) hc dX10_exchange_13 hy (rfl) (by omega) (by first | decide | omega)  ?_
  refine st_vret (st := []) hc dX10_exchange_14 rfl ?_
  refine ⟨rfl, ?_⟩
  rw [vu_ud (σ := up σ x i (σ x j)), up_k, vu_ud, vu_vu]
theorem C10_startOrders (d : Nat) (σ : St) {x len m : Nat} (hy : YC[x]? = some (.inl (0, len, []))) (hl5 : len ≤ 5) (hm : m ≤ len) : Mt YC mX10_startOrders d [.ref x, .int (nI m)] σ (fun r τ => r = some (.int (nI (fct m))) ∧ τ = va_up σ x (rng 0 m nI (σ x))) := by
  refine Mt.ofA [some (.ref x), some (.int (nI m)), none, none] (by decide) (fun _ => Nat.le_of_ble_eq_true rfl) (fun _ => rfl) (fun g hc => ?_)
  have k4 : aW g YC 4 (fun r τ => r = some (.int (nI (fct m))) ∧ τ = va_up σ x (rng 0 m nI (σ x))) 4 [some (.ref x), some (.int (nI m)), some (.int (nI (fct 0))), some (.int (nI 0))] [] (va_up σ x (rng 0 0 nI (σ x))) := by
    refine lpN (n := m) (F := fun i => aW g YC 4 (fun r τ => r = some (.int (nI (fct m))) ∧ τ = va_up σ x (rng 0 m nI (σ x))) 4 [some (.ref x), some (.int (nI m)), some (.int (nI (fct i))), some (.int (nI i))] [] (va_up σ x (rng 0 i nI (σ x)))) ?_ (fun i hi ih => ?_)
    · refine st_iload_n hc dX10_startOrders_4 rfl rfl ?_
      refine st_iload_n hc dX10_startOrders_5 rfl rfl ?_
      refine st_icmp_ge (tgt := 25) hc dX10_startOrders_6 (by decide) (fun h6 => ?_) (fun h6 => ?_)
      · refine st_iload_n hc dX10_startOrders_25 rfl rfl ?_
        refine st_iret (st := []) hc dX10_startOrders_26 rfl ?_
        exact ⟨rfl, rfl⟩
      · exact absurd (nI_le (Nat.le_refl _) (by omega)) h6
    · have er : upd (rng 0 i nI (σ x)) i (nI i) = rng 0 (i + 1) nI (σ x) := by have := rng_s 0 i nI (σ x); rw [Nat.zero_add] at this; exact this
      refine st_iload_n hc dX10_startOrders_4 rfl rfl ?_
      refine st_iload_n hc dX10_startOrders_5 rfl rfl ?_
      refine st_icmp_ge (tgt := 25) hc dX10_startOrders_6 (by decide) (fun h6 => ?_) (fun h6 => ?_)
      · exact absurd h6 (nI_ge hi (by omega))
      · refine st_aload_n hc dX10_startOrders_9 rfl rfl ?_
        refine st_iload_n hc dX10_startOrders_10 rfl rfl ?_
        refine st_iload_n hc dX10_startOrders_11 rfl rfl ?_
        refine st_iastN (k := i) hc dX10_startOrders_12 hy (rfl) (by omega) (by first | decide | omega)  ?_
        rw [vu_up, er]
        refine st_iload_n hc dX10_startOrders_13 rfl rfl ?_
        refine st_iload_n hc dX10_startOrders_14 rfl rfl ?_
        refine st_iconst (v := 1) hc dX10_startOrders_15 (by decide) ?_
        refine st_iadd hc dX10_startOrders_16 ?_
        rw [nI_1]
        refine st_imul hc dX10_startOrders_17 ?_
        rw [pk_mul, show fct i * (i + 1) = fct (i + 1) from rfl]
        refine st_istore_n hc dX10_startOrders_18 rfl (by decide) rfl ?_
        refine st_inc hc dX10_startOrders_19 rfl (by decide) rfl ?_
        rw [nI_1]
        refine st_goto (tgt := 4) hc dX10_startOrders_22 (by decide) ?_
        exact ih
  rw [rng_0, vu_id] at k4
  refine st_iconst (v := 1) hc dX10_startOrders_0 (by decide) ?_
  refine st_istore_n hc dX10_startOrders_1 rfl (by decide) rfl ?_
  refine st_iconst (v := 0) hc dX10_startOrders_2 (by decide) ?_
  refine st_istore_n hc dX10_startOrders_3 rfl (by decide) rfl ?_
  exact k4
theorem C10_stepOrder (d : Nat) (σ : St) {x len m : Nat} {f : Nat → Nat} (hy : YC[x]? = some (.inl (0, len, []))) (hl5 : len ≤ 5) (hm1 : 1 ≤ m) (hm : m ≤ len) (hf : rwI (σ x) m f) : Mt YC mX10_stepOrder (d + 1) [.ref x, .int (nI m)] σ (fun r τ => r = none ∧ ∃ w, rwI w m (stepF m f) ∧ τ = va_up σ x w) := by
  refine Mt.ofA [some (.ref x), some (.int (nI m)), none, none, none, none] (by decide) (fun _ => Nat.le_of_ble_eq_true rfl) (fun _ => rfl) (fun g hc => ?_)
  have k70 : ∀ (n : Nat) (f' : Nat → Nat) (w : Nat → Int32) (lo hi k a : Nat), hi < m → hi < lo + 2 * n → lo < 8 → rwI w m f' → revF n f' lo hi = stepF m f → aW g YC 6 (fun r τ => r = none ∧ ∃ w, rwI w m (stepF m f) ∧ τ = va_up σ x w) 70 [some (.ref x), some (.int (nI m)), some (.int (nI k)), some (.int (nI a)), some (.int (nI lo)), some (.int (nI hi))] [] (va_up σ x w) := by
    intro n
    induction n with
    | zero =>
      intro f' w lo hi k a h1 h2 h3 h4 h5
      refine st_iload hc dX10_stepOrder_70 rfl ?_
      refine st_iload hc dX10_stepOrder_72 rfl ?_
      refine st_icmp_ge (tgt := 94) hc dX10_stepOrder_74 (by decide) (fun h74 => ?_) (fun h74 => ?_)
      · refine st_vret (st := []) hc dX10_stepOrder_94 rfl ?_
        exact ⟨rfl, w, h5 ▸ h4, rfl⟩
      · exact absurd (nI_le (by omega) (by omega)) h74
    | succ n ih =>
      intro f' w lo hi k a h1 h2 h3 h4 h5
      have h6 : revF (n + 1) f' lo hi = if lo < hi then revF n (swp f' lo hi) (lo + 1) (hi - 1) else f' := rfl
      rw [h6] at h5
      refine st_iload hc dX10_stepOrder_70 rfl ?_
      refine st_iload hc dX10_stepOrder_72 rfl ?_
      refine st_icmp_ge (tgt := 94) hc dX10_stepOrder_74 (by decide) (fun h74 => ?_) (fun h74 => ?_)
      · rw [if_neg (by have := (nI_leI (by omega) (by omega)).mp h74; omega)] at h5
        refine st_vret (st := []) hc dX10_stepOrder_94 rfl ?_
        exact ⟨rfl, w, h5 ▸ h4, rfl⟩
      · have h74 : lo < hi := Nat.lt_of_not_le (fun q => h74 (nI_le q (by omega)))
        rw [if_pos h74] at h5
        obtain ⟨hi', rfl⟩ : ∃ y, hi = y + 1 := ⟨hi - 1, by omega⟩
        refine st_aload_n hc dX10_stepOrder_77 rfl rfl ?_
        refine st_iload hc dX10_stepOrder_78 rfl ?_
        refine st_iload hc dX10_stepOrder_80 rfl ?_
        refine st_callSn hc dX10_stepOrder_82 (C10_exchange d (va_up σ x w) hy hl5 (i := lo) (j := hi' + 1) (by omega) (by omega)) msX10_69 (by omega) rfl rfl (Nat.le_of_ble_eq_true rfl) ?_
        rintro τ1 e
        rw [vu_vu, vu_s] at e
        subst e
        refine st_inc hc dX10_stepOrder_85 rfl (by decide) rfl ?_
        rw [nI_1]
        refine st_dec hc dX10_stepOrder_88 rfl (by decide) rfl ?_
        rw [nI_pred]
        refine st_goto (tgt := 70) hc dX10_stepOrder_91 (by decide) ?_
        exact ih _ _ (lo + 1) hi' k a (by omega) (by omega) (by omega) (h4.swp (by omega) h1) h5
  have k54 : ∀ (k a : Nat), k < m → a < m → revF 5 (swp f k a) (k + 1) (m - 1) = stepF m f → aW g YC 6 (fun r τ => r = none ∧ ∃ w, rwI w m (stepF m f) ∧ τ = va_up σ x w) 54 [some (.ref x), some (.int (nI m)), some (.int (nI k)), some (.int (nI a)), none, none] [] σ := by
    intro k a hk ha he
    refine st_aload_n hc dX10_stepOrder_54 rfl rfl ?_
    refine st_iload_n hc dX10_stepOrder_55 rfl rfl ?_
    refine st_iload_n hc dX10_stepOrder_56 rfl rfl ?_
    refine st_callSn hc dX10_stepOrder_57 (C10_exchange d σ hy hl5 (i := k) (j := a) (by omega) (by omega)) msX10_69 (by omega) rfl rfl (Nat.le_of_ble_eq_true rfl) ?_
    rintro τ1 e
    subst e
    refine st_iload_n hc dX10_stepOrder_60 rfl rfl ?_
    refine st_iconst (v := 1) hc dX10_stepOrder_61 (by decide) ?_
    refine st_iadd hc dX10_stepOrder_62 ?_
    rw [nI_1]
    refine st_istore hc dX10_stepOrder_63 (by decide) rfl ?_
    refine st_iload_n hc dX10_stepOrder_65 rfl rfl ?_
    refine st_iconst (v := 1) hc dX10_stepOrder_66 (by decide) ?_
    refine st_isub hc dX10_stepOrder_67 ?_
    rw [show (1 : Int32) = nI 1 from rfl, nI_sub hm1]
    refine st_istore hc dX10_stepOrder_68 (by decide) rfl ?_
    exact k70 5 _ _ (k + 1) (m - 1) k a (by omega) (by omega) (by omega) (hf.swp hk ha) he
  have k34 : ∀ (k : Nat), k < m → (∀ a, a = aboN f (f k) k (m - 1) → revF 5 (swp f k a) (k + 1) (m - 1) = stepF m f) → ∀ j, j < m → aboN f (f k) k j = aboN f (f k) k (m - 1) → aW g YC 6 (fun r τ => r = none ∧ ∃ w, rwI w m (stepF m f) ∧ τ = va_up σ x w) 34 [some (.ref x), some (.int (nI m)), some (.int (nI k)), some (.int (nI j)), none, none] [] σ := by
    intro k hk hrev j
    induction j with
    | zero =>
      intro hj he
      refine st_iload_n hc dX10_stepOrder_34 rfl rfl ?_
      refine st_iload_n hc dX10_stepOrder_35 rfl rfl ?_
      refine st_icmp_le (tgt := 54) hc dX10_stepOrder_36 (by decide) (fun h36 => ?_) (fun h36 => ?_)
      · exact k54 k 0 hk hj (hrev 0 he)
      · exact absurd (nI_le (Nat.zero_le _) (by omega)) h36
    | succ j ih =>
      intro hj he
      have hs : aboN f (f k) k (j + 1) = if k < j + 1 ∧ f (j + 1) < f k then aboN f (f k) k j else j + 1 := rfl
      have q1 := (hf (j + 1) hj).2
      have q2 := (hf k hk).2
      refine st_iload_n hc dX10_stepOrder_34 rfl rfl ?_
      refine st_iload_n hc dX10_stepOrder_35 rfl rfl ?_
      refine st_icmp_le (tgt := 54) hc dX10_stepOrder_36 (by decide) (fun h36 => ?_) (fun h36 => ?_)
      · have h36 := (nI_leI (by omega) (by omega)).mp h36
        rw [if_neg (fun q => by omega)] at hs
        exact k54 k (j + 1) hk hj (hrev (j + 1) (hs.symm.trans he))
      · have h36 : k < j + 1 := Nat.lt_of_not_le (fun q => h36 (nI_le q (by omega)))
        refine st_aload_n hc dX10_stepOrder_39 rfl rfl ?_
        refine st_iload_n hc dX10_stepOrder_40 rfl rfl ?_
        refine st_ialdN (k := j + 1) hc dX10_stepOrder_41 hy (rfl) (by omega) (by first | decide | omega) ((hf (j + 1) hj).1) ?_
        refine st_aload_n hc dX10_stepOrder_42 rfl rfl ?_
        refine st_iload_n hc dX10_stepOrder_43 rfl rfl ?_
        refine st_ialdN (k := k) hc dX10_stepOrder_44 hy (rfl) (by omega) (by first | decide | omega) ((hf k hk).1) ?_
        refine st_icmp_ge (tgt := 54) hc dX10_stepOrder_45 (by decide) (fun h45 => ?_) (fun h45 => ?_)
        · have h45 := (nI_leI (by omega) (by omega)).mp h45
          rw [if_neg (fun q => by omega)] at hs
          exact k54 k (j + 1) hk hj (hrev (j + 1) (hs.symm.trans he))
        · have h45 : f (j + 1) < f k := Nat.lt_of_not_le (fun q => h45 (nI_le q (by omega)))
          rw [if_pos ⟨h36, h45⟩] at hs
          refine st_dec hc dX10_stepOrder_48 rfl (by decide) rfl ?_
          rw [nI_pred]
          refine st_goto (tgt := 34) hc dX10_stepOrder_51 (by decide) ?_
          exact ih (by omega) (hs.symm.trans he)
  have k4 : ∀ k, k ≤ m - 1 → falN f k = falN f (m - 1) → aW g YC 6 (fun r τ => r = none ∧ ∃ w, rwI w m (stepF m f) ∧ τ = va_up σ x w) 4 [some (.ref x), some (.int (nI m)), some (.int (nI k - 1)), none, none, none] [] σ := by
    intro k
    induction k with
    | zero =>
      intro _ he
      have hst : stepF m f = f := by unfold stepF; rw [← he]; rfl
      refine st_iload_n hc dX10_stepOrder_4 rfl rfl ?_
      refine st_if_lt (tgt := 25) hc dX10_stepOrder_5 (by decide) (fun h5 => ?_) (fun h5 => ?_)
      · refine st_iload_n hc dX10_stepOrder_25 rfl rfl ?_
        refine st_if_ge (tgt := 30) hc dX10_stepOrder_26 (by decide) (fun h26 => ?_) (fun h26 => ?_)
        · exact absurd h26 (by decide)
        · refine st_vret (st := []) hc dX10_stepOrder_29 rfl ?_
          refine ⟨rfl, σ x, ?_, by rw [vu_id]⟩
          rw [hst]
          exact hf
      · exact absurd (show nI 0 - 1 < 0 by decide) h5
    | succ k ih =>
      intro hk he
      rw [nI_pred]
      have hs : falN f (k + 1) = if f (k + 1) < f k then falN f k else k + 1 := rfl
      have q1 := (hf (k + 1) (by omega)).2
      have q2 := (hf k (by omega)).2
      have hrev : falN f (k + 1) = k + 1 → ∀ a, a = aboN f (f k) k (m - 1) → revF 5 (swp f k a) (k + 1) (m - 1) = stepF m f := fun h a ha => by
        have hst : stepF m f = revF 5 (swp f k (aboN f (f k) k (m - 1))) (k + 1) (m - 1) := by unfold stepF; rw [← he, h]
        rw [hst, ha]
      refine st_iload_n hc dX10_stepOrder_4 rfl rfl ?_
      refine st_if_lt (tgt := 25) hc dX10_stepOrder_5 (by decide) (fun h5 => ?_) (fun h5 => ?_)
      · exact absurd h5 (nI_pos (by omega))
      · refine st_aload_n hc dX10_stepOrder_8 rfl rfl ?_
        refine st_iload_n hc dX10_stepOrder_9 rfl rfl ?_
        refine st_ialdN (k := k) hc dX10_stepOrder_10 hy (rfl) (by omega) (by first | decide | omega) ((hf k (by omega)).1) ?_
        refine st_aload_n hc dX10_stepOrder_11 rfl rfl ?_
        refine st_iload_n hc dX10_stepOrder_12 rfl rfl ?_
        refine st_iconst (v := 1) hc dX10_stepOrder_13 (by decide) ?_
        refine st_iadd hc dX10_stepOrder_14 ?_
        rw [nI_1]
        refine st_ialdN (k := k + 1) hc dX10_stepOrder_15 hy (rfl) (by omega) (by first | decide | omega) ((hf (k + 1) (by omega)).1) ?_
        refine st_icmp_le (tgt := 25) hc dX10_stepOrder_16 (by decide) (fun h16 => ?_) (fun h16 => ?_)
        · have h16 := (nI_leI (by omega) (by omega)).mp h16
          rw [if_neg (by omega)] at hs
          refine st_iload_n hc dX10_stepOrder_25 rfl rfl ?_
          refine st_if_ge (tgt := 30) hc dX10_stepOrder_26 (by decide) (fun h26 => ?_) (fun h26 => ?_)
          · refine st_iload_n hc dX10_stepOrder_30 rfl rfl ?_
            refine st_iconst (v := 1) hc dX10_stepOrder_31 (by decide) ?_
            refine st_isub hc dX10_stepOrder_32 ?_
            rw [show (1 : Int32) = nI 1 from rfl, nI_sub hm1]
            refine st_istore_n hc dX10_stepOrder_33 rfl (by decide) rfl ?_
            exact k34 k (by omega) (hrev hs) (m - 1) (by omega) rfl
          · exact absurd (Int32.not_lt.mp (nI_pos (by omega))) h26
        · have h16 : f (k + 1) < f k := Nat.lt_of_not_le (fun q => h16 (nI_le q (by omega)))
          rw [if_pos h16] at hs
          refine st_dec hc dX10_stepOrder_19 rfl (by decide) rfl ?_
          refine st_goto (tgt := 4) hc dX10_stepOrder_22 (by decide) ?_
          exact ih (by omega) (hs.symm.trans he)
  have e2 : nI m - 2 = nI (m - 1) - 1 := by
    rw [show m = (m - 1) + 1 by omega, ← nI_1, Nat.add_sub_cancel]
    rw [Int32.sub_eq_add_neg, Int32.add_assoc, Int32.sub_eq_add_neg]
    rfl
  refine st_iload_n hc dX10_stepOrder_0 rfl rfl ?_
  refine st_iconst (v := 2) hc dX10_stepOrder_1 (by decide) ?_
  refine st_isub hc dX10_stepOrder_2 ?_
  rw [e2]
  refine st_istore_n hc dX10_stepOrder_3 rfl (by decide) rfl ?_
  exact k4 (m - 1) (Nat.le_refl _) rfl

