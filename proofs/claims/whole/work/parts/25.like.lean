/-! ===== orders of places and colours, and guesses that are alike ===== -/
def fct (n : Nat) : Nat := match n with
  | 0 => 1
  | n + 1 => fct n * (n + 1)
/-- the s-th number from c on that isn't used; and that there is one within f steps -/
def unu (u : Nat → Bool) (f c s : Nat) : Nat := match f with
  | 0 => c
  | f + 1 => if u c = true then unu u f (c + 1) s else if s = 0 then c else unu u f (c + 1) (s - 1)
def unuOK (u : Nat → Bool) (f c s : Nat) : Bool := match f with
  | 0 => false
  | f + 1 => if u c = true then unuOK u f (c + 1) s else if s = 0 then true else unuOK u f (c + 1) (s - 1)
abbrev lat (l : List Nat) (i : Nat) : Nat := l.getD i 0
def usd (l : List Nat) (c : Nat) : Bool := anyN l.length (fun i => lat l i == c)
/-- an order of many things, by its number, from the r-th last on -/
def ordG (r v : Nat) (acc : List Nat) : List Nat := match r with
  | 0 => acc
  | r + 1 => ordG r (v % fct r) (acc ++ [unu (usd acc) 8 0 (v / fct r)])
abbrev ordL (m n : Nat) : List Nat := ordG m n []
def ordOK (r v : Nat) (acc : List Nat) : Bool := match r with
  | 0 => true
  | r + 1 => unuOK (usd acc) 8 0 (v / fct r) && ordOK r (v % fct r) (acc ++ [unu (usd acc) 8 0 (v / fct r)])
theorem ord_fin : ∀ m, m < 6 → ∀ n, n < fct m → ordOK m n [] = true ∧ (ordL m n).length = m ∧ (∀ i, i < m → lat (ordL m n) i < m) ∧ (∀ j, j < m → anyN m (fun i => lat (ordL m n) i == j) = true) := by decide +kernel
def rowOf (l : List Nat) (f : Nat → Int32) : Nat → Int32 := fun i => if i < l.length then nI (lat l i) else f i
theorem rowOf_0 (f : Nat → Int32) : rowOf [] f = f := by
  funext i
  unfold rowOf
  rw [if_neg (show ¬ i < ([] : List Nat).length from Nat.not_lt_zero i)]
theorem rowOf_s (l : List Nat) (c : Nat) (f : Nat → Int32) : upd (rowOf l f) l.length (nI c) = rowOf (l ++ [c]) f := by
  funext i
  unfold upd rowOf lat
  rw [List.length_append, List.length_singleton]
  by_cases e : i = l.length
  · subst e
    rw [if_pos rfl, if_pos (by omega)]
    simp
  · rw [if_neg e]
    by_cases e2 : i < l.length
    · rw [if_pos e2, if_pos (by omega), List.getD_eq_getElem?_getD, List.getD_eq_getElem?_getD, List.getElem?_append_left e2]
    · rw [if_neg e2, if_neg (by omega)]
theorem unu_le (u : Nat → Bool) : ∀ f c s, unu u f c s ≤ c + f := by
  intro f
  induction f with
  | zero => intro c s; exact Nat.le_refl _
  | succ f ih =>
    intro c s
    rw [unu]
    split
    · have := ih (c + 1) s; omega
    · split
      · omega
      · have := ih (c + 1) (s - 1); omega
theorem lat_app {l : List Nat} {c : Nat} (h : ∀ i, i < l.length → lat l i ≤ 8) (hc : c ≤ 8) : ∀ i, i < (l ++ [c]).length → lat (l ++ [c]) i ≤ 8 := by
  intro i hi
  unfold lat at *
  by_cases e : i < l.length
  · have := h i e
    rw [List.getD_eq_getElem?_getD] at this ⊢
    rw [List.getElem?_append_left e]
    exact this
  · have : i = l.length := by rw [List.length_append, List.length_singleton] at hi; omega
    subst this
    simpa using hc
theorem W12_order {g : Gx} {d : Nat} {σ : St} {Q : Option Value → St → Prop} {x len m : Nat} (hc : cX g YM RX12 cX12_order 11 none d) (hy : YM[x]? = some (.inl (0, len, []))) (hl5 : len ≤ 5) (hm : m ≤ len) : ∀ (r v : Nat) (acc : List Nat), acc.length + r = m → v < 1000 → ordOK r v acc = true → Q none (va_up σ x (rowOf (ordG r v acc) (σ x))) → (∀ i, i < acc.length → lat acc i ≤ 8) → ∀ (z : Int32), aW g YM 11 Q 5 [some (.ref x), some (.int (nI m)), some (.int z), some (.int (nI v)), some (.int (nI acc.length)), none, none, none, none, none, none] [] (va_up σ x (rowOf acc (σ x))) := by
  intro r
  induction r with
  | zero =>
    intro v acc hacc hv hok hQ _ z
    have e : acc.length = m := by omega
    rw [e]
    refine st_iload hc dX12_order_5 rfl ?_
    refine st_iload_n hc dX12_order_7 rfl rfl ?_
    refine st_icmp_ge (tgt := 128) hc dX12_order_8 (by decide) (fun h8 => ?_) (fun h8 => ?_)
    · refine st_vret (st := []) hc dX12_order_128 rfl ?_
      exact hQ
    · exact absurd (nI_le (Nat.le_refl _) (by omega)) h8
  | succ r ih =>
    intro v acc hacc hv hok hQ h8 z
    have hok' : unuOK (usd acc) 8 0 (v / fct r) = true ∧ ordOK r (v % fct r) (acc ++ [unu (usd acc) 8 0 (v / fct r)]) = true := by
      rw [ordOK, Bool.and_eq_true] at hok
      exact hok
    have hfp : ∀ n, 0 < fct n := by
      intro n
      induction n with
      | zero => decide
      | succ n ih => exact Nat.mul_pos ih (by omega)
    have hr5 : r < 5 := by omega
    have hf24 : fct r ≤ 24 := (show ∀ r, r < 5 → fct r ≤ 24 by decide) r hr5
    have hvd : v / fct r < 1000 := Nat.lt_of_le_of_lt (Nat.div_le_self _ _) hv
    -- the search for the next that isn't used
    have k57 : ∀ (f c s : Nat), unuOK (usd acc) f c s = true → s < 1000 → c + f ≤ 100 → ∀ (v2 x5 x6 : Int32),
        aW g YM 11 Q 116 [some (.ref x), some (.int (nI m)), some (.int z), some (.int v2), some (.int (nI acc.length)), none, none, none, some (.int (nI (unu (usd acc) f c s))), none, none] [] (va_up σ x (rowOf acc (σ x))) →
        aW g YM 11 Q 57 [some (.ref x), some (.int (nI m)), some (.int z), some (.int v2), some (.int (nI acc.length)), some (.int x5), some (.int x6), some (.int (nI s)), some (.int (nI c - 1)), none, none] [] (va_up σ x (rowOf acc (σ x))) := by
      intro f
      induction f with
      | zero => intro c s h; cases h
      | succ f ihf =>
        intro c s hu hs hcf v2 x5 x6 kk
        have k71 : ∀ u : Bool, u = usd acc c → aW g YM 11 Q 105 [some (.ref x), some (.int (nI m)), some (.int z), some (.int v2), some (.int (nI acc.length)), some (.int x5), some (.int x6), some (.int (nI s)), some (.int (nI c)), some (.int (bI u)), none] [] (va_up σ x (rowOf acc (σ x))) := by
          intro u eu
          have e1 : unuOK (usd acc) (f + 1) c s = if usd acc c = true then unuOK (usd acc) f (c + 1) s else if s = 0 then true else unuOK (usd acc) f (c + 1) (s - 1) := rfl
          have e2 : unu (usd acc) (f + 1) c s = if usd acc c = true then unu (usd acc) f (c + 1) s else if s = 0 then c else unu (usd acc) f (c + 1) (s - 1) := rfl
          rw [e1, ← eu] at hu
          rw [e2, ← eu] at kk
          have ec : nI c = nI (c + 1) - 1 := (nI_pred c).symm
          cases u with
          | true =>
            rw [if_pos rfl] at hu kk
            refine st_iload hc dX12_order_105 rfl ?_
            refine st_if_ne (tgt := 113) hc dX12_order_107 (by decide) (fun h107 => ?_) (fun h107 => ?_)
            · refine st_goto (tgt := 57) hc dX12_order_113 (by decide) ?_
              exact st_lvq _ (by simp [lvq, ec]) (ihf (c + 1) s hu hs (by omega) v2 x5 x6 kk)
            · exact absurd h107 (by decide)
          | false =>
            rw [if_neg (by decide)] at hu kk
            by_cases es : s = 0
            · subst es
              rw [if_pos rfl] at kk
              refine st_iload hc dX12_order_105 rfl ?_
              refine st_if_ne (tgt := 113) hc dX12_order_107 (by decide) (fun h107 => ?_) (fun h107 => ?_)
              · exact absurd rfl h107
              · refine st_dec hc dX12_order_110 rfl (by decide) rfl ?_
                refine st_goto (tgt := 57) hc dX12_order_113 (by decide) ?_
                refine st_iload hc dX12_order_57 rfl ?_
                refine st_if_lt (tgt := 116) hc dX12_order_59 (by decide) (fun h59 => ?_) (fun h59 => ?_)
                · exact st_lvq _ (by simp [lvq, List.set]) kk
                · exact absurd (by decide) h59
            · rw [if_neg es] at hu kk
              refine st_iload hc dX12_order_105 rfl ?_
              refine st_if_ne (tgt := 113) hc dX12_order_107 (by decide) (fun h107 => ?_) (fun h107 => ?_)
              · exact absurd rfl h107
              · refine st_dec hc dX12_order_110 rfl (by decide) rfl ?_
                rw [show nI s - 1 = nI (s - 1) by rw [show s = (s - 1) + 1 by omega, nI_pred]; rfl]
                refine st_goto (tgt := 57) hc dX12_order_113 (by decide) ?_
                exact st_lvq _ (by simp [lvq, List.set, ec]) (ihf (c + 1) (s - 1) hu (by omega) (by omega) v2 x5 x6 kk)
        have kin : aW g YM 11 Q 71 [some (.ref x), some (.int (nI m)), some (.int z), some (.int v2), some (.int (nI acc.length)), some (.int x5), some (.int x6), some (.int (nI s)), some (.int (nI c)), some (.int (bI false)), some (.int (nI 0))] [] (va_up σ x (rowOf acc (σ x))) := by
          refine lpN (n := acc.length) (F := fun i => aW g YM 11 Q 71 [some (.ref x), some (.int (nI m)), some (.int z), some (.int v2), some (.int (nI acc.length)), some (.int x5), some (.int x6), some (.int (nI s)), some (.int (nI c)), some (.int (bI (anyN i (fun i => lat acc i == c)))), some (.int (nI i))] [] (va_up σ x (rowOf acc (σ x)))) ?_ (fun i hi ih2 => ?_)
          · refine st_iload hc dX12_order_71 rfl ?_
            refine st_iload hc dX12_order_73 rfl ?_
            refine st_icmp_ge (tgt := 105) hc dX12_order_75 (by decide) (fun h75 => ?_) (fun h75 => ?_)
            · exact st_lvq _ (by simp [lvq]) (k71 (anyN acc.length (fun i => lat acc i == c)) rfl)
            · exact absurd (nI_le (Nat.le_refl _) (by omega)) h75
          · have hrow : va_up σ x (rowOf acc (σ x)) x i = nI (lat acc i) := by rw [vu_s]; unfold rowOf; rw [if_pos hi]
            refine st_iload hc dX12_order_71 rfl ?_
            refine st_iload hc dX12_order_73 rfl ?_
            refine st_icmp_ge (tgt := 105) hc dX12_order_75 (by decide) (fun h75 => ?_) (fun h75 => ?_)
            · exact absurd h75 (nI_ge hi (by omega))
            · refine st_iload hc dX12_order_78 rfl ?_
              refine st_if_ne (tgt := 92) hc dX12_order_80 (by decide) (fun h80 => ?_) (fun h80 => ?_)
              · have e : anyN i (fun i => lat acc i == c) = true := by rcases hb : anyN i (fun i => lat acc i == c) with _ | _; exact absurd (bI_0.mpr hb) h80; rfl
                refine st_iconst (v := 1) hc dX12_order_92 (by decide) ?_
                refine st_goto (tgt := 97) hc dX12_order_93 (by decide) ?_
                refine st_istore hc dX12_order_97 (by decide) rfl ?_
                refine st_inc hc dX12_order_99 rfl (by decide) rfl ?_
                rw [nI_1]
                refine st_goto (tgt := 71) hc dX12_order_102 (by decide) ?_
                have e3 := nI_eq (show lat acc i < 2 ^ 31 from Nat.lt_of_le_of_lt (h8 i hi) (by decide)) (show c < 2 ^ 31 by omega)
                refine st_lvq _ ?_ ih2
                rw [anyN_s, e]
                simp only [lvq, List.set, and_true, true_and, Bool.true_or, Bool.false_or]
                first
                  | rfl
                  | (by_cases q : lat acc i = c
                     · rw [if_pos (e3.mpr q), beq_iff_eq.mpr q]; rfl
                     · rw [if_neg (fun z => q (e3.mp z)), beq_eq_false_iff_ne.mpr q]; rfl)
              · have e := bI_0.mp h80
                refine st_aload_n hc dX12_order_83 rfl rfl ?_
                refine st_iload hc dX12_order_84 rfl ?_
                refine st_ialdN (k := i) hc dX12_order_86 hy (rfl) (by omega) (by first | decide | omega) (hrow) ?_
                refine st_iload hc dX12_order_87 rfl ?_
                refine st_t_icmp_ne (a := 1) (b := 0) hc dX12_order_89 dX12_order_92 dX12_order_93 dX12_order_96 (by decide) (by decide) ?_
                refine st_istore hc dX12_order_97 (by decide) rfl ?_
                refine st_inc hc dX12_order_99 rfl (by decide) rfl ?_
                rw [nI_1]
                refine st_goto (tgt := 71) hc dX12_order_102 (by decide) ?_
                have e3 := nI_eq (show lat acc i < 2 ^ 31 from Nat.lt_of_le_of_lt (h8 i hi) (by decide)) (show c < 2 ^ 31 by omega)
                refine st_lvq _ ?_ ih2
                rw [anyN_s, e]
                simp only [lvq, List.set, and_true, true_and, Bool.true_or, Bool.false_or]
                first
                  | rfl
                  | (by_cases q : lat acc i = c
                     · rw [if_pos (e3.mpr q), beq_iff_eq.mpr q]; rfl
                     · rw [if_neg (fun z => q (e3.mp z)), beq_eq_false_iff_ne.mpr q]; rfl)
        refine st_iload hc dX12_order_57 rfl ?_
        refine st_if_lt (tgt := 116) hc dX12_order_59 (by decide) (fun h59 => ?_) (fun h59 => ?_)
        · exact absurd h59 (nI_pos (by omega))
        · refine st_inc hc dX12_order_62 rfl (by decide) rfl ?_
          rw [Int32.sub_add_cancel]
          refine st_iconst (v := 0) hc dX12_order_65 (by decide) ?_
          refine st_istore hc dX12_order_66 (by decide) rfl ?_
          refine st_iconst (v := 0) hc dX12_order_68 (by decide) ?_
          refine st_istore hc dX12_order_69 (by decide) rfl ?_
          exact st_lvq _ (by simp [lvq, List.set, nI_0, bI]) kin
    have k43 : ∀ (x7 : Int32), aW g YM 11 Q 43 [some (.ref x), some (.int (nI m)), some (.int z), some (.int (nI v)), some (.int (nI acc.length)), some (.int (nI (r + 1))), some (.int (nI (fct r))), some (.int x7), none, none, none] [] (va_up σ x (rowOf acc (σ x))) := by
      intro x7
      have hlt : acc.length < len := by omega
      have hvm : v % fct r < 1000 := Nat.lt_of_le_of_lt (Nat.mod_le _ _) hv
      have hul := unu_le (usd acc) 8 0 (v / fct r)
      have hlen : (acc ++ [unu (usd acc) 8 0 (v / fct r)]).length = acc.length + 1 := by rw [List.length_append, List.length_singleton]
      have hn := ih (v % fct r) (acc ++ [unu (usd acc) 8 0 (v / fct r)]) (by rw [hlen]; omega) hvm hok'.2 hQ (lat_app h8 (by omega)) z
      rw [hlen, ← rowOf_s] at hn
      have k116 : aW g YM 11 Q 116 [some (.ref x), some (.int (nI m)), some (.int z), some (.int (nI (v % fct r))), some (.int (nI acc.length)), none, none, none, some (.int (nI (unu (usd acc) 8 0 (v / fct r)))), none, none] [] (va_up σ x (rowOf acc (σ x))) := by
        refine st_aload_n hc dX12_order_116 rfl rfl ?_
        refine st_iload hc dX12_order_117 rfl ?_
        refine st_iload hc dX12_order_119 rfl ?_
        refine st_iastN (k := acc.length) hc dX12_order_121 hy (rfl) (by omega) (by first | decide | omega)  ?_
        rw [vu_up]
        refine st_inc hc dX12_order_122 rfl (by decide) rfl ?_
        rw [nI_1]
        refine st_goto (tgt := 5) hc dX12_order_125 (by decide) ?_
        exact st_lvq _ (by simp [lvq, List.set]) hn
      refine st_iload_n hc dX12_order_43 rfl rfl ?_
      refine st_iload hc dX12_order_44 rfl ?_
      refine st_idiv hc dX12_order_46 (nI_ne0 (hfp r) (by omega)) ?_
      rw [pk_div (by omega) (hfp r) (by omega)]
      refine st_istore hc dX12_order_47 (by decide) rfl ?_
      refine st_iload_n hc dX12_order_49 rfl rfl ?_
      refine st_iload hc dX12_order_50 rfl ?_
      refine st_irem hc dX12_order_52 (nI_ne0 (hfp r) (by omega)) ?_
      rw [pk_rem (by omega) (hfp r) (by omega)]
      refine st_istore_n hc dX12_order_53 rfl (by decide) rfl ?_
      refine st_iconst (v := (-1)) hc dX12_order_54 (by decide) ?_
      refine st_istore hc dX12_order_55 (by decide) rfl ?_
      exact st_lvq _ (by simp [lvq, List.set, nI_0]) (k57 8 0 (v / fct r) hok'.1 hvd (by omega) (nI (v % fct r)) (nI (r + 1)) (nI (fct r)) k116)
    have k23 : aW g YM 11 Q 23 [some (.ref x), some (.int (nI m)), some (.int z), some (.int (nI v)), some (.int (nI acc.length)), some (.int (nI (r + 1))), some (.int (nI (fct 1))), some (.int (nI 2)), none, none, none] [] (va_up σ x (rowOf acc (σ x))) := by
      by_cases hr1 : r ≤ 1
      · have e : fct 1 = fct r := by rcases (show r = 0 ∨ r = 1 by omega) with q | q <;> subst q <;> rfl
        rw [e]
        refine st_iload hc dX12_order_23 rfl ?_
        refine st_iload hc dX12_order_25 rfl ?_
        refine st_icmp_ge (tgt := 43) hc dX12_order_27 (by decide) (fun h27 => ?_) (fun h27 => ?_)
        · exact k43 _
        · exact absurd (nI_le (by omega) (by omega)) h27
      · refine lpF (i0 := 2) (n := r + 1) (F := fun i => aW g YM 11 Q 23 [some (.ref x), some (.int (nI m)), some (.int z), some (.int (nI v)), some (.int (nI acc.length)), some (.int (nI (r + 1))), some (.int (nI (fct (i - 1)))), some (.int (nI i)), none, none, none] [] (va_up σ x (rowOf acc (σ x)))) (by omega) ?_ (fun i h1 h2 ih2 => ?_)
        · refine st_iload hc dX12_order_23 rfl ?_
          refine st_iload hc dX12_order_25 rfl ?_
          refine st_icmp_ge (tgt := 43) hc dX12_order_27 (by decide) (fun h27 => ?_) (fun h27 => ?_)
          · exact k43 _
          · exact absurd (nI_le (Nat.le_refl _) (by omega)) h27
        · have e : fct (i - 1) * i = fct (i + 1 - 1) := by rw [show i + 1 - 1 = (i - 1) + 1 by omega, fct, show i - 1 + 1 = i by omega]
          refine st_iload hc dX12_order_23 rfl ?_
          refine st_iload hc dX12_order_25 rfl ?_
          refine st_icmp_ge (tgt := 43) hc dX12_order_27 (by decide) (fun h27 => ?_) (fun h27 => ?_)
          · exact absurd h27 (nI_ge h2 (by omega))
          · refine st_iload hc dX12_order_30 rfl ?_
            refine st_iload hc dX12_order_32 rfl ?_
            refine st_imul hc dX12_order_34 ?_
            rw [pk_mul, e]
            refine st_istore hc dX12_order_35 (by decide) rfl ?_
            refine st_inc hc dX12_order_37 rfl (by decide) rfl ?_
            rw [nI_1]
            refine st_goto (tgt := 23) hc dX12_order_40 (by decide) ?_
            exact ih2
    refine st_iload hc dX12_order_5 rfl ?_
    refine st_iload_n hc dX12_order_7 rfl rfl ?_
    refine st_icmp_ge (tgt := 128) hc dX12_order_8 (by decide) (fun h8 => ?_) (fun h8 => ?_)
    · exact absurd h8 (nI_ge (by omega) (by omega))
    · refine st_iload_n hc dX12_order_11 rfl rfl ?_
      refine st_iload hc dX12_order_12 rfl ?_
      refine st_isub hc dX12_order_14 ?_
      rw [pk_sub (by omega), show m - acc.length = r + 1 by omega]
      refine st_istore hc dX12_order_15 (by decide) rfl ?_
      refine st_iconst (v := 1) hc dX12_order_17 (by decide) ?_
      refine st_istore hc dX12_order_18 (by decide) rfl ?_
      refine st_iconst (v := 2) hc dX12_order_20 (by decide) ?_
      refine st_istore hc dX12_order_21 (by decide) rfl ?_
      exact st_lvq _ (by simp [lvq, List.set]; exact ⟨rfl, rfl⟩) k23
theorem C12_order (d : Nat) (σ : St) {x len m n : Nat} (hy : YM[x]? = some (.inl (0, len, []))) (hl5 : len ≤ 5) (hm : m ≤ len) (hn : n < fct m) : Mt YM mX12_order d [.ref x, .int (nI m), .int (nI n)] σ (fun r τ => r = none ∧ τ = va_up σ x (rowOf (ordL m n) (σ x))) := by
  refine Mt.ofA [some (.ref x), some (.int (nI m)), some (.int (nI n)), none, none, none, none, none, none, none, none] (by decide) (fun _ => Nat.le_of_ble_eq_true rfl) (fun _ => rfl) (fun g hc => ?_)
  have h120 : fct m ≤ 120 := (show ∀ r, r < 6 → fct r ≤ 120 by decide) m (by omega)
  obtain ⟨o1, o2, o3, o4⟩ := ord_fin m (by omega) n hn
  refine st_iload_n hc dX12_order_0 rfl rfl ?_
  refine st_istore_n hc dX12_order_1 rfl (by decide) rfl ?_
  refine st_iconst (v := 0) hc dX12_order_2 (by decide) ?_
  refine st_istore hc dX12_order_3 (by decide) rfl ?_
  have h := W12_order (σ := σ) (Q := fun r τ => r = none ∧ τ = va_up σ x (rowOf (ordL m n) (σ x))) hc hy hl5 hm m n [] (by simp) (by omega) o1 ⟨rfl, rfl⟩ (fun i hi => absurd hi (Nat.not_lt_zero i)) (nI n)
  rw [rowOf_0, vu_id] at h
  exact st_lvq _ (by simp [lvq, List.set, nI_0]) h
/-- the code's pegs carried to other places and colours -/
def mkN (P C : Nat) (pl co : Nat → Nat) (code i j : Nat) : Nat := match i with
  | 0 => 0
  | i + 1 => if j = pl i then co (pegOf P C code i) else mkN P C pl co code i j
def hN (C : Nat) (f : Nat → Nat) (i : Nat) : Nat := match i with
  | 0 => 0
  | i + 1 => C * hN C f i + f i
def imgN (P C : Nat) (pl co : Nat → Nat) (code : Nat) : Nat := hN C (mkN P C pl co code P) P
theorem hN_lt {C : Nat} {f : Nat → Nat} : ∀ i, (∀ j, j < i → f j < C) → hN C f i < C ^ i := by
  intro i
  induction i with
  | zero => intro _; simp [hN]
  | succ i ih =>
    intro h
    have h1 := ih (fun j hj => h j (by omega))
    have h2 := h i (by omega)
    have e : hN C f (i + 1) = C * hN C f i + f i := rfl
    rw [e, Nat.pow_succ, Nat.mul_comm _ C]
    calc C * hN C f i + f i < C * hN C f i + C := by omega
      _ = C * (hN C f i + 1) := by rw [Nat.mul_add, Nat.mul_one]
      _ ≤ C * C ^ i := Nat.mul_le_mul_left _ h1
theorem mkN_lt {P C : Nat} {pl co : Nat → Nat} (h0 : 0 < C) (hco : ∀ c, c < C → co c < C) (code : Nat) : ∀ i j, mkN P C pl co code i j < C := by
  intro i
  induction i with
  | zero => intro j; exact h0
  | succ i ih =>
    intro j
    rw [mkN]
    split
    · exact hco _ (pegOf_lt h0 code i)
    · exact ih j
theorem C12_turned (d : Nat) (σ : St) {P C : Nat} (hpc : mPC σ P C) (hP4 : P ≤ 4) (hC5 : C ≤ 5) {pl co : Nat → Nat} (hpl : ∀ i, i < P → σ 10 i = nI (pl i) ∧ pl i < P) (hco : ∀ c, c < C → σ 11 c = nI (co c) ∧ co c < C) (hsu : ∀ j, j < P → anyN P (fun i => pl i == j) = true) (code : Nat) (hcode : code < 2 ^ 30) : Mt YM mX12_turned (d + 1) [.ref 0, .int (nI code)] σ (fun r τ => r = some (.int (nI (imgN P C pl co code))) ∧ ∃ w, τ = va_up σ 12 w) := by
  obtain ⟨hP, hC, hP1, hP5, hC1, hC8⟩ := id hpc
  refine Mt.ofA [some (.ref 0), some (.int (nI code)), none, none] (by decide) (fun _ => Nat.le_of_ble_eq_true rfl) (fun _ => rfl) (fun g hc => ?_)
  generalize hQe : (fun r τ => r = some (Value.int (nI (imgN P C pl co code))) ∧ ∃ w, τ = va_up σ 12 w) = Q
  have k42 : ∀ w : Nat → Int32, (∀ j, j < P → w j = nI (mkN P C pl co code P j)) → aW g YM 4 Q 42 [some (.ref 0), some (.int (nI code)), some (.int (nI 0)), some (.int (nI 0))] [] (va_up σ 12 w) := by
    intro w hw
    refine lpN (n := P) (F := fun i => aW g YM 4 Q 42 [some (.ref 0), some (.int (nI code)), some (.int (nI (hN C (mkN P C pl co code P) i))), some (.int (nI i))] [] (va_up σ 12 w)) ?_ (fun i hi ih => ?_)
    · refine st_iload_n hc dX12_turned_42 rfl rfl ?_
      refine st_aload_n hc dX12_turned_43 rfl rfl ?_
      refine st_getE hc dX12_turned_44 flX12_7 rfl rfl (hP) ?_
      refine st_icmp_ge (tgt := 70) hc dX12_turned_47 (by decide) (fun h47 => ?_) (fun h47 => ?_)
      · refine st_iload_n hc dX12_turned_70 rfl rfl ?_
        refine st_iret (st := []) hc dX12_turned_71 rfl ?_
        rw [← hQe]; exact ⟨rfl, w, rfl⟩
      · exact absurd (nI_le (Nat.le_refl _) (by omega)) h47
    · refine st_iload_n hc dX12_turned_42 rfl rfl ?_
      refine st_aload_n hc dX12_turned_43 rfl rfl ?_
      refine st_getE hc dX12_turned_44 flX12_7 rfl rfl (hP) ?_
      refine st_icmp_ge (tgt := 70) hc dX12_turned_47 (by decide) (fun h47 => ?_) (fun h47 => ?_)
      · exact absurd h47 (nI_ge hi (by omega))
      · refine st_aload_n hc dX12_turned_50 rfl rfl ?_
        refine st_getE hc dX12_turned_51 flX12_13 rfl rfl (hC) ?_
        refine st_iload_n hc dX12_turned_54 rfl rfl ?_
        refine st_imul hc dX12_turned_55 ?_
        refine st_aload_n hc dX12_turned_56 rfl rfl ?_
        refine st_getr hc dX12_turned_57 flX12_57 rfl rfl ?_
        refine st_iload_n hc dX12_turned_60 rfl rfl ?_
        refine st_ialdN (k := i) hc dX12_turned_61 rfl (rfl) (by omega) (by first | decide | omega) (hw i hi) ?_
        refine st_iadd hc dX12_turned_62 ?_
        rw [pk_mul, nI_add]
        refine st_istore_n hc dX12_turned_63 rfl (by decide) rfl ?_
        refine st_inc hc dX12_turned_64 rfl (by decide) rfl ?_
        rw [nI_1]
        refine st_goto (tgt := 42) hc dX12_turned_67 (by decide) ?_
        exact ih
  have k2 : aW g YM 4 Q 2 [some (.ref 0), some (.int (nI code)), some (.int (nI 0)), none] [] (va_up σ 12 (σ 12)) := by
    refine lpN (n := P) (F := fun i => ∀ w : Nat → Int32, (∀ j, anyN i (fun i => pl i == j) = true → w j = nI (mkN P C pl co code i j)) → aW g YM 4 Q 2 [some (.ref 0), some (.int (nI code)), some (.int (nI i)), none] [] (va_up σ 12 w)) ?_ (fun i hi ih => ?_) (σ 12) (fun j hj => by cases hj)
    · intro w hw
      refine st_iload_n hc dX12_turned_2 rfl rfl ?_
      refine st_aload_n hc dX12_turned_3 rfl rfl ?_
      refine st_getE hc dX12_turned_4 flX12_7 rfl rfl (hP) ?_
      refine st_icmp_ge (tgt := 38) hc dX12_turned_7 (by decide) (fun h7 => ?_) (fun h7 => ?_)
      · refine st_iconst (v := 0) hc dX12_turned_38 (by decide) ?_
        refine st_istore_n hc dX12_turned_39 rfl (by decide) rfl ?_
        refine st_iconst (v := 0) hc dX12_turned_40 (by decide) ?_
        refine st_istore_n hc dX12_turned_41 rfl (by decide) rfl ?_
        exact st_lvq _ (by simp [lvq, List.set, nI_0]) (k42 w (fun j hj => hw j (hsu j hj)))
      · exact absurd (nI_le (Nat.le_refl _) (by omega)) h7
    · intro w hw
      have hpi := hpl i hi
      have hpeg := pegOf_lt (P := P) hC1 code i
      have hci := hco _ hpeg
      refine st_iload_n hc dX12_turned_2 rfl rfl ?_
      refine st_aload_n hc dX12_turned_3 rfl rfl ?_
      refine st_getE hc dX12_turned_4 flX12_7 rfl rfl (hP) ?_
      refine st_icmp_ge (tgt := 38) hc dX12_turned_7 (by decide) (fun h7 => ?_) (fun h7 => ?_)
      · exact absurd h7 (nI_ge hi (by omega))
      · refine st_aload_n hc dX12_turned_10 rfl rfl ?_
        refine st_getr hc dX12_turned_11 flX12_57 rfl rfl ?_
        refine st_aload_n hc dX12_turned_14 rfl rfl ?_
        refine st_getr hc dX12_turned_15 flX12_51 rfl rfl ?_
        refine st_iload_n hc dX12_turned_18 rfl rfl ?_
        refine st_ialdN (k := i) hc dX12_turned_19 rfl (rfl) (by omega) (by first | decide | omega) (hpi.1) ?_
        refine st_aload_n hc dX12_turned_20 rfl rfl ?_
        refine st_getr hc dX12_turned_21 flX12_54 rfl rfl ?_
        refine st_aload_n hc dX12_turned_24 rfl rfl ?_
        refine st_iload_n hc dX12_turned_25 rfl rfl ?_
        refine st_iload_n hc dX12_turned_26 rfl rfl ?_
        refine st_callVp hc dX12_turned_27 (C12_peg0 d (va_up σ 12 w) hP hC hP5 hC1 hC8 code i hi hcode) mvX12_146 (by omega) rfl rfl rfl (Nat.le_of_ble_eq_true rfl) ?_
        refine st_ialdN (k := pegOf P C code i) hc dX12_turned_30 rfl (rfl) (by omega) (by first | decide | omega) (hci.1) ?_
        refine st_iastN (k := pl i) hc dX12_turned_31 rfl (rfl) (by omega) (by first | decide | omega)  ?_
        rw [vu_up]
        refine st_inc hc dX12_turned_32 rfl (by decide) rfl ?_
        rw [nI_1]
        refine st_goto (tgt := 2) hc dX12_turned_35 (by decide) ?_
        refine ih _ (fun j hj => ?_)
        have em : mkN P C pl co code (i + 1) j = if j = pl i then co (pegOf P C code i) else mkN P C pl co code i j := rfl
        rw [em]
        by_cases q : j = pl i
        · subst q; rw [upd_s, if_pos rfl]
        · rw [upd_n q, if_neg q]
          refine hw j ?_
          rw [anyN_s, Bool.or_eq_true] at hj
          rcases hj with z | z
          · exact z
          · exact absurd (beq_iff_eq.mp z).symm q
  refine st_iconst (v := 0) hc dX12_turned_0 (by decide) ?_
  refine st_istore_n hc dX12_turned_1 rfl (by decide) rfl ?_
  rw [vu_id] at k2
  exact st_lvq _ (by simp [lvq, List.set, nI_0]) k2
theorem C12_isLeft (d : Nat) (σ : St) {P C N T L : Nat} (hm : mOK σ P C N T L) (c : Nat) (hcn : c < 4096) : Mt YM mX12_isLeft (d + 3) [.ref 0, .int (nI c)] σ (fun r τ => r = some (.int (bI (mL σ P C T L c))) ∧ ∃ w, τ = va_up σ 6 w) := by
  obtain ⟨hpc, h2, -, h3, hT, hT2, hLi, hL2, h4⟩ := id hm
  refine Mt.ofA [some (.ref 0), some (.int (nI c))] (by decide) (fun _ => Nat.le_of_ble_eq_true rfl) (fun _ => rfl) (fun g hc => ?_)
  have ho : ones (fbits T (isF P C (σ 3) (σ 4) c)) ≤ 11 := cnt_le _ _
  refine st_aload_n hc dX12_isLeft_0 rfl rfl ?_
  refine st_iload_n hc dX12_isLeft_1 rfl rfl ?_
  refine st_callVp hc dX12_isLeft_2 (C12_isAllowed (d + 1) σ hpc c hcn (h4 c hcn)) mvX12_167 (by omega) rfl rfl rfl (Nat.le_of_ble_eq_true rfl) ?_
  refine st_if_eq (tgt := 31) hc dX12_isLeft_5 (by decide) (fun h5 => ?_) (fun h5 => ?_)
  · have e : mL σ P C T L c = false := by unfold mL isL; rw [bI_0.mp h5]; rfl
    refine st_iconst (v := 0) hc dX12_isLeft_31 (by decide) ?_
    refine st_zret (st := []) hc dX12_isLeft_32 rfl (by first | exact bI_01 _ | exact Or.inl rfl) ?_
    first
     | exact ⟨rfl, w2, rfl⟩
     | (rw [e]; exact ⟨rfl, σ 6, vu_id.symm⟩)
  · have e1 : okLaw P C (σ 0 3) (σ 0 4) (σ 1) c = true := by rcases hb : okLaw P C (σ 0 3) (σ 0 4) (σ 1) c with _ | _; exact absurd (bI_0.mpr hb) h5; rfl
    refine st_aload_n hc dX12_isLeft_8 rfl rfl ?_
    refine st_iload_n hc dX12_isLeft_9 rfl rfl ?_
    refine st_aload_n hc dX12_isLeft_10 rfl rfl ?_
    refine st_getE hc dX12_isLeft_11 flX12_171 rfl rfl (hT) ?_
    refine st_callVq hc dX12_isLeft_14 (C12_falseOf d σ hpc c (by omega) T hT2) mvX12_174 (by omega) rfl rfl rfl (Nat.le_of_ble_eq_true rfl) ?_
    rintro _ ⟨w2, rfl⟩
    refine st_callSp hc dX12_isLeft_17 (C12_ones (d + 1) _ _ (fbits_lt31 (by omega) _)) msX12_177 (by omega) rfl rfl (Nat.le_of_ble_eq_true rfl) ?_
    refine st_aload_n hc dX12_isLeft_20 rfl rfl ?_
    refine st_getE hc dX12_isLeft_21 flX12_180 rfl rfl (hLi) ?_
    refine st_t_icmp_gt (a := 1) (b := 0) hc dX12_isLeft_24 dX12_isLeft_27 dX12_isLeft_28 dX12_isLeft_31 (by decide) (by decide) ?_
    have e : mL σ P C T L c = decide (ones (fbits T (isF P C (σ 3) (σ 4) c)) ≤ L) := by unfold mL isL; rw [e1, Bool.true_and]
    rw [show (if nI L < nI (ones (fbits T (isF P C (σ 3) (σ 4) c))) then (0 : Int32) else 1) = bI (mL σ P C T L c) by
      rw [e]
      by_cases q : ones (fbits T (isF P C (σ 3) (σ 4) c)) ≤ L
      · rw [if_neg (fun z => absurd ((nI_ltI (by omega) (by omega)).mp z) (Nat.not_lt.mpr q)), decide_eq_true q]; rfl
      · rw [if_pos ((nI_ltI (by omega) (by omega)).mpr (by omega)), decide_eq_false q]; rfl]
    refine st_zret (st := []) hc dX12_isLeft_32 rfl (by first | exact bI_01 _ | exact Or.inl rfl) ?_
    first
     | exact ⟨rfl, w2, rfl⟩
     | (rw [e]; exact ⟨rfl, σ 6, vu_id.symm⟩)

