/-! ===== the class: the plan ===== -/
abbrev lg (σ : St) (a k : Nat) : Int64 := jn (σ a (2 * k)) (σ a (2 * k + 1))
theorem upL_eq (σ : St) (k i : Nat) (x : Int64) (a b : Nat) : upL σ k i x a b = if a = k ∧ b = 2 * i + 1 then jlo x else if a = k ∧ b = 2 * i then jhi x else σ a b := by
  unfold upL va_up upd
  by_cases h : a = k
  · subst h; simp
  · simp [h]
theorem lg_up (σ : St) (k i : Nat) (x : Int64) (a j : Nat) : lg (upL σ k i x) a j = if a = k ∧ j = i then x else lg σ a j := by
  unfold lg
  rw [upL_eq, upL_eq]
  by_cases h : a = k
  · subst h
    by_cases e : j = i
    · subst e
      simp [jn_eq]
    · rw [if_neg (by omega), if_neg (by omega), if_neg (by omega), if_neg (by omega), if_neg (by omega)]
  · simp [h]
theorem lg_o {σ : St} {k i : Nat} {x : Int64} {a b : Nat} (h : ¬ a = k) : upL σ k i x a b = σ a b := by rw [upL_o a h]
theorem lg_i {σ : St} {k i : Nat} {x : Int32} {a j : Nat} (h : ¬ a = k) : lg (up σ k i x) a j = lg σ a j := by unfold lg; rw [up_o a h]
theorem wb_1 {k : Nat} (hk : k < 62) : (1 : Int64) <<< ((nI k).toInt64 &&& 63) = lN (2 ^ k) := by
  have := wb_shl 1 (k := k) (by omega)
  rw [Nat.one_mul] at this
  exact this
theorem p62 {k : Nat} (h : k < 62) : 2 ^ k < 2 ^ 62 := Nat.pow_lt_pow_right (by decide) h
theorem CJ_fillL {Y : List Sh} (d : Nat) (σ : St) {a n : Nat} {rs : List Nat} (hy : Y[a]? = some (.inl (2, n, rs))) (hn : n < 2 ^ 31) (x : Int64) : Mt Y mJ7_fill_d0a16 d [.ref a, .long x] σ (fun r τ => r = none ∧ (∀ b, ¬ b = a → τ b = σ b) ∧ ∀ k, k < n → lg τ a k = x) := by
  refine Mt.ofA [some (.ref a), some (.long x), none, none, none] (by decide) (fun _ => Nat.le_of_ble_eq_true rfl) (fun _ => rfl) (fun g hc => ?_)
  have k6 : ∀ τ, ((∀ b, ¬ b = a → τ b = σ b) ∧ ∀ k, k < 0 → lg τ a k = x) → aW g Y 5 (fun r τ => r = none ∧ (∀ b, ¬ b = a → τ b = σ b) ∧ ∀ k, k < n → lg τ a k = x) 6 [some (.ref a), some (.long x), none, some (.int (nI 0)), some (.int (nI n))] [] τ := by
    refine lpN (n := n) (F := fun i => ∀ τ, ((∀ b, ¬ b = a → τ b = σ b) ∧ ∀ k, k < i → lg τ a k = x) → aW g Y 5 (fun r τ => r = none ∧ (∀ b, ¬ b = a → τ b = σ b) ∧ ∀ k, k < n → lg τ a k = x) 6 [some (.ref a), some (.long x), none, some (.int (nI i)), some (.int (nI n))] [] τ) (fun τ h => ?_) (fun i hi ih τ h => ?_)
    · refine st_iload_n hc dJ7_fill_d0a16_6 rfl rfl ?_
      refine st_iload hc dJ7_fill_d0a16_7 rfl ?_
      refine st_icmp_ge (tgt := 22) hc dJ7_fill_d0a16_9 (by decide) (fun h9 => ?_) (fun h9 => ?_)
      · refine st_vret (st := []) hc dJ7_fill_d0a16_22 rfl ?_
        exact ⟨rfl, h⟩
      · exact absurd (nI_le (Nat.le_refl _) hn) h9
    · refine st_iload_n hc dJ7_fill_d0a16_6 rfl rfl ?_
      refine st_iload hc dJ7_fill_d0a16_7 rfl ?_
      refine st_icmp_ge (tgt := 22) hc dJ7_fill_d0a16_9 (by decide) (fun h9 => ?_) (fun h9 => ?_)
      · exact absurd h9 (nI_ge hi hn)
      · refine st_aload_n hc dJ7_fill_d0a16_12 rfl rfl ?_
        refine st_iload_n hc dJ7_fill_d0a16_13 rfl rfl ?_
        refine st_lload_n hc dJ7_fill_d0a16_14 rfl rfl ?_
        refine st_lastN (k := i) hc dJ7_fill_d0a16_15 hy (rfl) (hi) (by first | decide | omega)  ?_
        refine st_inc hc dJ7_fill_d0a16_16 rfl (by decide) rfl ?_
        rw [nI_1]
        refine st_goto (tgt := 6) hc dJ7_fill_d0a16_19 (by decide) ?_
        refine ih _ ⟨fun b hb => by rw [upL_o b hb]; exact h.1 b hb, fun k hk => ?_⟩
        rw [lg_up]
        by_cases e : k = i
        · rw [if_pos ⟨rfl, e⟩]
        · rw [if_neg (fun q => e q.2)]; exact h.2 k (by omega)
  refine st_iconst (v := 0) hc dJ7_fill_d0a16_0 (by decide) ?_
  refine st_istore_n hc dJ7_fill_d0a16_1 rfl (by decide) rfl ?_
  refine st_aload_n hc dJ7_fill_d0a16_2 rfl rfl ?_
  refine st_alen hc dJ7_fill_d0a16_3 hy (by decide) rfl ?_
  refine st_istore hc dJ7_fill_d0a16_4 (by decide) rfl ?_
  exact k6 σ ⟨fun _ _ => rfl, fun k hk => absurd hk (Nat.not_lt_zero k)⟩
abbrev plm (μ : St) (n : Nat) : Nat := fbits 60 (fun a => decide (0 < chN μ n a))
abbrev plt (μ : St) (n : Nat) : Bool := anyN 60 (fun a => decide (1 < chN μ n a))
/-- the plan of the class beside that of the reference -/
def plR (σ μ : St) : Prop := σ 52 8 = μ 0 43 ∧ (∀ n, n < plN μ → σ 53 n = μ 30 n ∧ σ 54 n = μ 31 n ∧ σ 55 n = μ 32 n ∧ σ 56 n = nI (dpt μ 40 n) ∧ lg σ 57 n = lN (plm μ n) ∧ σ 58 n = bI (plt μ n)) ∧ σ 52 9 = nI (mxN (plN μ) (dpt μ 40))
theorem C4_has (d : Nat) (σ : St) {N : Nat} (hN : σ 52 8 = nI N) (hN4 : N ≤ 4096) (c : Int32) : Mt YC mX4_has d [.ref 52, .int c] σ (fun r τ => r = some (.int (bI (decide (0 ≤ c ∧ nat c < N)))) ∧ τ = σ) := by
  refine Mt.ofA [some (.ref 52), some (.int c)] (by decide) (fun _ => Nat.le_of_ble_eq_true rfl) (fun _ => rfl) (fun g hc => ?_)
  refine st_iload_n hc dX4_has_0 rfl rfl ?_
  refine st_if_lt (tgt := 16) hc dX4_has_1 (by decide) (fun h1 => ?_) (fun h1 => ?_)
  · have e : decide (0 ≤ c ∧ nat c < N) = false := decide_eq_false (fun q => absurd h1 (Int32.not_lt.mpr q.1))
    refine st_iconst (v := 0) hc dX4_has_16 (by decide) ?_
    refine st_zret (st := []) hc dX4_has_17 rfl (by first | exact Or.inl rfl | (split <;> simp)) ?_
    rw [e]
    exact ⟨rfl, rfl⟩
  · have e := has_eq (N := N) (Int32.not_lt.mp h1) (by omega)
    refine st_iload_n hc dX4_has_4 rfl rfl ?_
    refine st_aload_n hc dX4_has_5 rfl rfl ?_
    refine st_getE hc dX4_has_6 flX4_38 rfl rfl (hN) ?_
    refine st_t_icmp_ge (a := 1) (b := 0) hc dX4_has_9 dX4_has_12 dX4_has_13 dX4_has_16 (by decide) (by decide) ?_
    refine st_zret (st := []) hc dX4_has_17 rfl (by first | exact Or.inl rfl | (split <;> simp)) ?_
    rw [e]
    exact ⟨rfl, rfl⟩
theorem C4_empty (d : Nat) (σ : St) : Mt YC mX4_empty d [.ref 52] σ (fun r τ => r = none ∧ τ = up (up σ 52 8 0) 52 9 0) := by
  refine Mt.ofA [some (.ref 52)] (by decide) (fun _ => Nat.le_of_ble_eq_true rfl) (fun _ => rfl) (fun g hc => ?_)
  refine st_aload_n hc dX4_empty_0 rfl rfl ?_
  refine st_iconst (v := 0) hc dX4_empty_1 (by decide) ?_
  refine st_put hc dX4_empty_2 fpX4_38 rfl rfl  ?_
  refine st_aload_n hc dX4_empty_5 rfl rfl ?_
  refine st_iconst (v := 0) hc dX4_empty_6 (by decide) ?_
  refine st_put hc dX4_empty_7 fpX4_42 rfl rfl  ?_
  refine st_vret (st := []) hc dX4_empty_10 rfl ?_
  exact ⟨rfl, rfl⟩
/-- what add leaves: the new node's row, the parent's masks, the depth -/
def adP (σ : St) (n : Nat) (p a c : Int32) (τ : St) : Prop := (∀ b, ¬ (52 ≤ b ∧ b ≤ 60) → τ b = σ b) ∧ τ 52 8 = nI (n + 1) ∧ (∀ k, ¬ k = n → τ 53 k = σ 53 k ∧ τ 54 k = σ 54 k ∧ τ 55 k = σ 55 k ∧ τ 56 k = σ 56 k) ∧ τ 53 n = p ∧ τ 54 n = a ∧ τ 55 n = c
theorem C4_add0 (d : Nat) (σ : St) (hN : σ 52 8 = nI 0) (h9 : σ 52 9 = nI 0) (a c : Int32) : Mt YC mX4_add (d + 1) [.ref 52, .int (-1), .int a, .int c] σ (fun r τ => r = none ∧ adP σ 0 (-1) a c τ ∧ τ 56 0 = 1 ∧ lg τ 57 0 = 0 ∧ τ 58 0 = 0 ∧ τ 52 9 = 1) := by
  refine Mt.ofA [some (.ref 52), some (.int (-1)), some (.int a), some (.int c), none, none] (by decide) (fun _ => Nat.le_of_ble_eq_true rfl) (fun _ => rfl) (fun g hc => ?_)
  refine st_aload_n hc dX4_add_0 rfl rfl ?_
  refine st_getr hc dX4_add_1 flX4_9 rfl rfl ?_
  refine st_aload_n hc dX4_add_4 rfl rfl ?_
  refine st_getE hc dX4_add_5 flX4_38 rfl rfl ((by simp [up_eq, upL_eq, hN] : _ = nI 0)) ?_
  refine st_iload_n hc dX4_add_8 rfl rfl ?_
  refine st_iastN (k := 0) hc dX4_add_9 rfl (rfl) (by omega) (by first | decide | omega)  ?_
  refine st_aload_n hc dX4_add_10 rfl rfl ?_
  refine st_getr hc dX4_add_11 flX4_15 rfl rfl ?_
  refine st_aload_n hc dX4_add_14 rfl rfl ?_
  refine st_getE hc dX4_add_15 flX4_38 rfl rfl ((by simp [up_eq, upL_eq, hN] : _ = nI 0)) ?_
  refine st_iload_n hc dX4_add_18 rfl rfl ?_
  refine st_iastN (k := 0) hc dX4_add_19 rfl (rfl) (by omega) (by first | decide | omega)  ?_
  refine st_aload_n hc dX4_add_20 rfl rfl ?_
  refine st_getr hc dX4_add_21 flX4_18 rfl rfl ?_
  refine st_aload_n hc dX4_add_24 rfl rfl ?_
  refine st_getE hc dX4_add_25 flX4_38 rfl rfl ((by simp [up_eq, upL_eq, hN] : _ = nI 0)) ?_
  refine st_iload_n hc dX4_add_28 rfl rfl ?_
  refine st_iastN (k := 0) hc dX4_add_29 rfl (rfl) (by omega) (by first | decide | omega)  ?_
  refine st_aload_n hc dX4_add_30 rfl rfl ?_
  refine st_getr hc dX4_add_31 flX4_24 rfl rfl ?_
  refine st_aload_n hc dX4_add_34 rfl rfl ?_
  refine st_getE hc dX4_add_35 flX4_38 rfl rfl ((by simp [up_eq, upL_eq, hN] : _ = nI 0)) ?_
  refine st_lconst (v := 0) hc dX4_add_38 (by decide) ?_
  refine st_lastN (k := 0) hc dX4_add_39 rfl (rfl) (by omega) (by first | decide | omega)  ?_
  refine st_aload_n hc dX4_add_40 rfl rfl ?_
  refine st_getr hc dX4_add_41 flX4_28 rfl rfl ?_
  refine st_aload_n hc dX4_add_44 rfl rfl ?_
  refine st_getE hc dX4_add_45 flX4_38 rfl rfl ((by simp [up_eq, upL_eq, hN] : _ = nI 0)) ?_
  refine st_iconst (v := 0) hc dX4_add_48 (by decide) ?_
  refine st_zastN (k := 0) hc dX4_add_49 rfl (rfl) (by omega) (by first | decide | omega) (Or.inl rfl) ?_
  refine st_aload_n hc dX4_add_50 rfl rfl ?_
  refine st_getr hc dX4_add_51 flX4_21 rfl rfl ?_
  refine st_aload_n hc dX4_add_54 rfl rfl ?_
  refine st_getE hc dX4_add_55 flX4_38 rfl rfl ((by simp [up_eq, upL_eq, hN] : _ = nI 0)) ?_
  refine st_iconst (v := 1) hc dX4_add_58 (by decide) ?_
  refine st_iastN (k := 0) hc dX4_add_59 rfl (rfl) (by omega) (by first | decide | omega)  ?_
  refine st_aload_n hc dX4_add_60 rfl rfl ?_
  refine st_iload_n hc dX4_add_61 rfl rfl ?_
  refine st_callVq hc dX4_add_62 (C4_has d _ (N := 0) (by simp [up_eq, upL_eq, hN]) (by decide) (-1)) mvX4_45 (by omega) rfl rfl rfl (Nat.le_of_ble_eq_true rfl) ?_
  rintro τ1 e
  subst e
  refine st_if_eq (tgt := 122) hc dX4_add_65 (by decide) (fun h65 => ?_) (fun h65 => ?_)
  · refine st_aload_n hc dX4_add_122 rfl rfl ?_
    refine st_aload_n hc dX4_add_123 rfl rfl ?_
    refine st_getE hc dX4_add_124 flX4_42 rfl rfl ((by simp [up_eq, upL_eq, h9] : _ = nI 0)) ?_
    refine st_aload_n hc dX4_add_127 rfl rfl ?_
    refine st_getr hc dX4_add_128 flX4_21 rfl rfl ?_
    refine st_aload_n hc dX4_add_131 rfl rfl ?_
    refine st_getE hc dX4_add_132 flX4_38 rfl rfl ((by simp [up_eq, upL_eq, hN] : _ = nI 0)) ?_
    refine st_ialdN (k := 0) hc dX4_add_135 rfl (rfl) (by omega) (by first | decide | omega) ((by simp [up_eq, upL_eq]; rfl : _ = nI 1)) ?_
    refine st_max hc dX4_add_136 lkmax4_49 (by omega) (Nat.le_of_ble_eq_true rfl) ?_
    rw [max_n (by decide) (by decide)]
    refine st_put hc dX4_add_139 fpX4_42 rfl rfl  ?_
    refine st_aload_n hc dX4_add_142 rfl rfl ?_
    refine st_dup hc dX4_add_143 rfl ?_
    refine st_getE hc dX4_add_144 flX4_38 rfl rfl ((by simp [up_eq, upL_eq, hN] : _ = nI 0)) ?_
    refine st_iconst (v := 1) hc dX4_add_147 (by decide) ?_
    refine st_iadd hc dX4_add_148 ?_
    rw [nI_1]
    refine st_put hc dX4_add_149 fpX4_38 rfl rfl  ?_
    refine st_vret (st := []) hc dX4_add_152 rfl ?_
    refine ⟨rfl, ⟨fun b hb => ?_, by simp [up_eq, upL_eq], fun k hk => ?_, ?_, ?_, ?_⟩, ?_, ?_, ?_, ?_⟩
    · funext i
      have q : ∀ x, 52 ≤ x → x ≤ 60 → ¬ b = x := fun x h1 h2 e => hb (by omega)
      simp [up_eq, upL_eq, q 52, q 53, q 54, q 55, q 56, q 57, q 58]
    · simp [up_eq, upL_eq, hk]
    · simp [up_eq, upL_eq]
    · simp [up_eq, upL_eq]
    · simp [up_eq, upL_eq]
    · simp [up_eq, upL_eq]
    · rw [lg_i (by decide), lg_i (by decide), lg_i (by decide), lg_i (by decide), lg_up, if_pos ⟨rfl, rfl⟩]
    · simp [up_eq, upL_eq]
    · simp [up_eq, upL_eq]; rfl
  · exact absurd (show bI (decide (0 ≤ (-1 : Int32) ∧ nat (-1) < 0)) = 0 by decide) h65
theorem C4_add1 (d : Nat) (σ : St) {n q x m dq dd : Nat} (hn : n < 40) (hq : q < n) (hx : x < 60) (hN : σ 52 8 = nI n) (h9 : σ 52 9 = nI dd) (hdd : dd ≤ 41) (hm : lg σ 57 q = lN m) (hml : m < 2 ^ 60) (hdq : σ 56 q = nI dq) (hdl : dq ≤ 41) (c : Int32) : Mt YC mX4_add (d + 1) [.ref 52, .int (nI q), .int (nI x), .int c] σ (fun r τ => r = none ∧ adP σ n (nI q) (nI x) c τ ∧ τ 56 n = nI (dq + 1) ∧ (∀ k, lg τ 57 k = if k = q then lN (m ||| 2 ^ x) else if k = n then 0 else lg σ 57 k) ∧ (∀ k, τ 58 k = if k = q ∧ m.testBit x = true then 1 else if k = n then 0 else σ 58 k) ∧ τ 52 9 = nI (max dd (dq + 1))) := by
  refine Mt.ofA [some (.ref 52), some (.int (nI q)), some (.int (nI x)), some (.int c), none, none] (by decide) (fun _ => Nat.le_of_ble_eq_true rfl) (fun _ => rfl) (fun g hc => ?_)
  have hqn : ¬ q = n := by omega
  have hm64 : m < 2 ^ 64 := Nat.lt_trans hml (by decide)
  have hx64 : 2 ^ x < 2 ^ 64 := Nat.pow_lt_pow_right (by decide) (by omega)
  have hb : (m &&& 2 ^ x = 0) ↔ m.testBit x = false := by
    constructor
    · intro h
      have := congrArg (fun z => z.testBit x) h
      simpa using this
    · intro h
      apply Nat.eq_of_testBit_eq
      intro i
      rw [Nat.testBit_and, Nat.testBit_two_pow]
      by_cases e : x = i
      · subst e; simp [h]
      · simp [e]
  refine st_aload_n hc dX4_add_0 rfl rfl ?_
  refine st_getr hc dX4_add_1 flX4_9 rfl rfl ?_
  refine st_aload_n hc dX4_add_4 rfl rfl ?_
  refine st_getE hc dX4_add_5 flX4_38 rfl rfl ((by simp [up_eq, upL_eq, hN] : _ = nI n)) ?_
  refine st_iload_n hc dX4_add_8 rfl rfl ?_
  refine st_iastN (k := n) hc dX4_add_9 rfl (rfl) (by omega) (by first | decide | omega)  ?_
  refine st_aload_n hc dX4_add_10 rfl rfl ?_
  refine st_getr hc dX4_add_11 flX4_15 rfl rfl ?_
  refine st_aload_n hc dX4_add_14 rfl rfl ?_
  refine st_getE hc dX4_add_15 flX4_38 rfl rfl ((by simp [up_eq, upL_eq, hN] : _ = nI n)) ?_
  refine st_iload_n hc dX4_add_18 rfl rfl ?_
  refine st_iastN (k := n) hc dX4_add_19 rfl (rfl) (by omega) (by first | decide | omega)  ?_
  refine st_aload_n hc dX4_add_20 rfl rfl ?_
  refine st_getr hc dX4_add_21 flX4_18 rfl rfl ?_
  refine st_aload_n hc dX4_add_24 rfl rfl ?_
  refine st_getE hc dX4_add_25 flX4_38 rfl rfl ((by simp [up_eq, upL_eq, hN] : _ = nI n)) ?_
  refine st_iload_n hc dX4_add_28 rfl rfl ?_
  refine st_iastN (k := n) hc dX4_add_29 rfl (rfl) (by omega) (by first | decide | omega)  ?_
  refine st_aload_n hc dX4_add_30 rfl rfl ?_
  refine st_getr hc dX4_add_31 flX4_24 rfl rfl ?_
  refine st_aload_n hc dX4_add_34 rfl rfl ?_
  refine st_getE hc dX4_add_35 flX4_38 rfl rfl ((by simp [up_eq, upL_eq, hN] : _ = nI n)) ?_
  refine st_lconst (v := 0) hc dX4_add_38 (by decide) ?_
  refine st_lastN (k := n) hc dX4_add_39 rfl (rfl) (by omega) (by first | decide | omega)  ?_
  refine st_aload_n hc dX4_add_40 rfl rfl ?_
  refine st_getr hc dX4_add_41 flX4_28 rfl rfl ?_
  refine st_aload_n hc dX4_add_44 rfl rfl ?_
  refine st_getE hc dX4_add_45 flX4_38 rfl rfl ((by simp [up_eq, upL_eq, hN] : _ = nI n)) ?_
  refine st_iconst (v := 0) hc dX4_add_48 (by decide) ?_
  refine st_zastN (k := n) hc dX4_add_49 rfl (rfl) (by omega) (by first | decide | omega) (Or.inl rfl) ?_
  refine st_aload_n hc dX4_add_50 rfl rfl ?_
  refine st_getr hc dX4_add_51 flX4_21 rfl rfl ?_
  refine st_aload_n hc dX4_add_54 rfl rfl ?_
  refine st_getE hc dX4_add_55 flX4_38 rfl rfl ((by simp [up_eq, upL_eq, hN] : _ = nI n)) ?_
  refine st_iconst (v := 1) hc dX4_add_58 (by decide) ?_
  refine st_iastN (k := n) hc dX4_add_59 rfl (rfl) (by omega) (by first | decide | omega)  ?_
  refine st_aload_n hc dX4_add_60 rfl rfl ?_
  refine st_iload_n hc dX4_add_61 rfl rfl ?_
  refine st_callVq hc dX4_add_62 (C4_has d _ (N := n) (by simp [up_eq, upL_eq, hN]) (by omega) (nI q)) mvX4_45 (by omega) rfl rfl rfl (Nat.le_of_ble_eq_true rfl) ?_
  rintro τ1 e
  subst e
  refine st_if_eq (tgt := 122) hc dX4_add_65 (by decide) (fun h65 => ?_) (fun h65 => ?_)
  · exact absurd h65 (by rw [decide_eq_true ⟨Int32.not_lt.mp (nI_pos (by omega)), by rw [nat_nI (by omega)]; exact hq⟩]; decide)
  · refine st_lconst (v := 1) hc dX4_add_68 (by decide) ?_
    refine st_iload_n hc dX4_add_69 rfl rfl ?_
    refine st_lshl hc dX4_add_70 ?_
    rw [wb_1 (by omega)]
    refine st_lstore hc dX4_add_71 (by decide) rfl ?_
    refine st_aload_n hc dX4_add_73 rfl rfl ?_
    refine st_getr hc dX4_add_74 flX4_24 rfl rfl ?_
    refine st_iload_n hc dX4_add_77 rfl rfl ?_
    refine st_laldN (k := q) hc dX4_add_78 rfl (rfl) (by omega) (by first | decide | omega)  ?_
    rw [show ∀ σ' : St, jn (σ' 57 (2 * q)) (σ' 57 (2 * q + 1)) = lg σ' 57 q from fun _ => rfl, lg_i (by decide), lg_i (by decide), lg_up, if_neg (fun z => hqn z.2), lg_i (by decide), lg_i (by decide), lg_i (by decide), hm]
    refine st_lload hc dX4_add_79 rfl ?_
    refine st_land hc dX4_add_81 ?_
    rw [wb_and hm64 hx64]
    refine st_lconst (v := 0) hc dX4_add_82 (by decide) ?_
    refine st_lcmp hc dX4_add_83 ?_
    refine st_if_eq (tgt := 94) hc dX4_add_84 (by decide) (fun h84 => ?_) (fun h84 => ?_)
    · have h84 : m.testBit x = false := hb.mp ((lN_eqB (Nat.lt_trans (Nat.lt_of_le_of_lt Nat.and_le_left hml) (by decide)) (by decide)).mp ((lg_0 _ _).mp h84))
      refine st_aload_n hc dX4_add_94 rfl rfl ?_
      refine st_getr hc dX4_add_95 flX4_24 rfl rfl ?_
      refine st_iload_n hc dX4_add_98 rfl rfl ?_
      refine st_dup2 hc dX4_add_99 rfl rfl ?_
      refine st_laldN (k := q) hc dX4_add_100 rfl (rfl) (by omega) (by first | decide | omega)  ?_
      rw [show ∀ σ' : St, jn (σ' 57 (2 * q)) (σ' 57 (2 * q + 1)) = lg σ' 57 q from fun _ => rfl]
      first
       | rw [lg_i (by decide), lg_i (by decide), lg_i (by decide), lg_up, if_neg (fun z => hqn z.2), lg_i (by decide), lg_i (by decide), lg_i (by decide), hm]
       | rw [lg_i (by decide), lg_i (by decide), lg_up, if_neg (fun z => hqn z.2), lg_i (by decide), lg_i (by decide), lg_i (by decide), hm]
      refine st_lload hc dX4_add_101 rfl ?_
      refine st_lor hc dX4_add_103 ?_
      rw [wb_or hm64 hx64]
      refine st_lastN (k := q) hc dX4_add_104 rfl (rfl) (by omega) (by first | decide | omega)  ?_
      refine st_aload_n hc dX4_add_105 rfl rfl ?_
      refine st_getr hc dX4_add_106 flX4_21 rfl rfl ?_
      refine st_aload_n hc dX4_add_109 rfl rfl ?_
      refine st_getE hc dX4_add_110 flX4_38 rfl rfl ((by simp [up_eq, upL_eq, hN] : _ = nI n)) ?_
      refine st_aload_n hc dX4_add_113 rfl rfl ?_
      refine st_getr hc dX4_add_114 flX4_21 rfl rfl ?_
      refine st_iload_n hc dX4_add_117 rfl rfl ?_
      refine st_ialdN (k := q) hc dX4_add_118 rfl (rfl) (by omega) (by first | decide | omega) ((by simp [up_eq, upL_eq, hqn, hdq] : _ = nI dq)) ?_
      refine st_iconst (v := 1) hc dX4_add_119 (by decide) ?_
      refine st_iadd hc dX4_add_120 ?_
      rw [nI_1]
      refine st_iastN (k := n) hc dX4_add_121 rfl (rfl) (by omega) (by first | decide | omega)  ?_
      refine st_aload_n hc dX4_add_122 rfl rfl ?_
      refine st_aload_n hc dX4_add_123 rfl rfl ?_
      refine st_getE hc dX4_add_124 flX4_42 rfl rfl ((by simp [up_eq, upL_eq, h9] : _ = nI dd)) ?_
      refine st_aload_n hc dX4_add_127 rfl rfl ?_
      refine st_getr hc dX4_add_128 flX4_21 rfl rfl ?_
      refine st_aload_n hc dX4_add_131 rfl rfl ?_
      refine st_getE hc dX4_add_132 flX4_38 rfl rfl ((by simp [up_eq, upL_eq, hN] : _ = nI n)) ?_
      refine st_ialdN (k := n) hc dX4_add_135 rfl (rfl) (by omega) (by first | decide | omega) ((by simp [up_eq, upL_eq] : _ = nI (dq + 1))) ?_
      refine st_max hc dX4_add_136 lkmax4_49 (by omega) (Nat.le_of_ble_eq_true rfl) ?_
      rw [max_n (by omega) (by omega)]
      refine st_put hc dX4_add_139 fpX4_42 rfl rfl  ?_
      refine st_aload_n hc dX4_add_142 rfl rfl ?_
      refine st_dup hc dX4_add_143 rfl ?_
      refine st_getE hc dX4_add_144 flX4_38 rfl rfl ((by simp [up_eq, upL_eq, hN] : _ = nI n)) ?_
      refine st_iconst (v := 1) hc dX4_add_147 (by decide) ?_
      refine st_iadd hc dX4_add_148 ?_
      rw [nI_1]
      refine st_put hc dX4_add_149 fpX4_38 rfl rfl  ?_
      refine st_vret (st := []) hc dX4_add_152 rfl ?_
      refine ⟨rfl, ⟨fun b hb => ?_, by simp [up_eq, upL_eq], fun k hk => ?_, ?_, ?_, ?_⟩, ?_, fun k => ?_, fun k => ?_, ?_⟩
      · funext i
        have z : ∀ x, 52 ≤ x → x ≤ 60 → ¬ b = x := fun x h1 h2 e => hb (by omega)
        simp [up_eq, upL_eq, z 52, z 53, z 54, z 55, z 56, z 57, z 58]
      · simp [up_eq, upL_eq, hk]
      · simp [up_eq, upL_eq]
      · simp [up_eq, upL_eq]
      · simp [up_eq, upL_eq]
      · simp [up_eq, upL_eq]
      · first
         | rw [lg_i (by decide), lg_i (by decide), lg_i (by decide), lg_up, lg_i (by decide), lg_i (by decide), lg_i (by decide), lg_up, lg_i (by decide), lg_i (by decide), lg_i (by decide)]
         | rw [lg_i (by decide), lg_i (by decide), lg_i (by decide), lg_up, lg_i (by decide), lg_i (by decide), lg_up, lg_i (by decide), lg_i (by decide), lg_i (by decide)]
        simp only [true_and]
      · by_cases e : k = q
        · subst e; simp [up_eq, upL_eq, h84, hqn]
        · by_cases e2 : k = n
          · subst e2; simp [up_eq, upL_eq, e]
          · simp [up_eq, upL_eq, e, e2]
      · simp [up_eq, upL_eq]
    · have h84 : m.testBit x = true := by
        rcases hz : m.testBit x with _ | _
        · exact absurd ((lg_0 _ _).mpr (by rw [hb.mpr hz]; rfl)) h84
        · rfl
      refine st_aload_n hc dX4_add_87 rfl rfl ?_
      refine st_getr hc dX4_add_88 flX4_28 rfl rfl ?_
      refine st_iload_n hc dX4_add_91 rfl rfl ?_
      refine st_iconst (v := 1) hc dX4_add_92 (by decide) ?_
      refine st_zastN (k := q) hc dX4_add_93 rfl (rfl) (by omega) (by first | decide | omega) (Or.inr rfl) ?_
      refine st_aload_n hc dX4_add_94 rfl rfl ?_
      refine st_getr hc dX4_add_95 flX4_24 rfl rfl ?_
      refine st_iload_n hc dX4_add_98 rfl rfl ?_
      refine st_dup2 hc dX4_add_99 rfl rfl ?_
      refine st_laldN (k := q) hc dX4_add_100 rfl (rfl) (by omega) (by first | decide | omega)  ?_
      rw [show ∀ σ' : St, jn (σ' 57 (2 * q)) (σ' 57 (2 * q + 1)) = lg σ' 57 q from fun _ => rfl]
      first
       | rw [lg_i (by decide), lg_i (by decide), lg_i (by decide), lg_up, if_neg (fun z => hqn z.2), lg_i (by decide), lg_i (by decide), lg_i (by decide), hm]
       | rw [lg_i (by decide), lg_i (by decide), lg_up, if_neg (fun z => hqn z.2), lg_i (by decide), lg_i (by decide), lg_i (by decide), hm]
      refine st_lload hc dX4_add_101 rfl ?_
      refine st_lor hc dX4_add_103 ?_
      rw [wb_or hm64 hx64]
      refine st_lastN (k := q) hc dX4_add_104 rfl (rfl) (by omega) (by first | decide | omega)  ?_
      refine st_aload_n hc dX4_add_105 rfl rfl ?_
      refine st_getr hc dX4_add_106 flX4_21 rfl rfl ?_
      refine st_aload_n hc dX4_add_109 rfl rfl ?_
      refine st_getE hc dX4_add_110 flX4_38 rfl rfl ((by simp [up_eq, upL_eq, hN] : _ = nI n)) ?_
      refine st_aload_n hc dX4_add_113 rfl rfl ?_
      refine st_getr hc dX4_add_114 flX4_21 rfl rfl ?_
      refine st_iload_n hc dX4_add_117 rfl rfl ?_
      refine st_ialdN (k := q) hc dX4_add_118 rfl (rfl) (by omega) (by first | decide | omega) ((by simp [up_eq, upL_eq, hqn, hdq] : _ = nI dq)) ?_
      refine st_iconst (v := 1) hc dX4_add_119 (by decide) ?_
      refine st_iadd hc dX4_add_120 ?_
      rw [nI_1]
      refine st_iastN (k := n) hc dX4_add_121 rfl (rfl) (by omega) (by first | decide | omega)  ?_
      refine st_aload_n hc dX4_add_122 rfl rfl ?_
      refine st_aload_n hc dX4_add_123 rfl rfl ?_
      refine st_getE hc dX4_add_124 flX4_42 rfl rfl ((by simp [up_eq, upL_eq, h9] : _ = nI dd)) ?_
      refine st_aload_n hc dX4_add_127 rfl rfl ?_
      refine st_getr hc dX4_add_128 flX4_21 rfl rfl ?_
      refine st_aload_n hc dX4_add_131 rfl rfl ?_
      refine st_getE hc dX4_add_132 flX4_38 rfl rfl ((by simp [up_eq, upL_eq, hN] : _ = nI n)) ?_
      refine st_ialdN (k := n) hc dX4_add_135 rfl (rfl) (by omega) (by first | decide | omega) ((by simp [up_eq, upL_eq] : _ = nI (dq + 1))) ?_
      refine st_max hc dX4_add_136 lkmax4_49 (by omega) (Nat.le_of_ble_eq_true rfl) ?_
      rw [max_n (by omega) (by omega)]
      refine st_put hc dX4_add_139 fpX4_42 rfl rfl  ?_
      refine st_aload_n hc dX4_add_142 rfl rfl ?_
      refine st_dup hc dX4_add_143 rfl ?_
      refine st_getE hc dX4_add_144 flX4_38 rfl rfl ((by simp [up_eq, upL_eq, hN] : _ = nI n)) ?_
      refine st_iconst (v := 1) hc dX4_add_147 (by decide) ?_
      refine st_iadd hc dX4_add_148 ?_
      rw [nI_1]
      refine st_put hc dX4_add_149 fpX4_38 rfl rfl  ?_
      refine st_vret (st := []) hc dX4_add_152 rfl ?_
      refine ⟨rfl, ⟨fun b hb => ?_, by simp [up_eq, upL_eq], fun k hk => ?_, ?_, ?_, ?_⟩, ?_, fun k => ?_, fun k => ?_, ?_⟩
      · funext i
        have z : ∀ x, 52 ≤ x → x ≤ 60 → ¬ b = x := fun x h1 h2 e => hb (by omega)
        simp [up_eq, upL_eq, z 52, z 53, z 54, z 55, z 56, z 57, z 58]
      · simp [up_eq, upL_eq, hk]
      · simp [up_eq, upL_eq]
      · simp [up_eq, upL_eq]
      · simp [up_eq, upL_eq]
      · simp [up_eq, upL_eq]
      · first
         | rw [lg_i (by decide), lg_i (by decide), lg_i (by decide), lg_up, lg_i (by decide), lg_i (by decide), lg_i (by decide), lg_up, lg_i (by decide), lg_i (by decide), lg_i (by decide)]
         | rw [lg_i (by decide), lg_i (by decide), lg_i (by decide), lg_up, lg_i (by decide), lg_i (by decide), lg_up, lg_i (by decide), lg_i (by decide), lg_i (by decide)]
        simp only [true_and]
      · by_cases e : k = q
        · subst e; simp [up_eq, upL_eq, h84, hqn]
        · by_cases e2 : k = n
          · subst e2; simp [up_eq, upL_eq, e]
          · simp [up_eq, upL_eq, e, e2]
      · simp [up_eq, upL_eq]

