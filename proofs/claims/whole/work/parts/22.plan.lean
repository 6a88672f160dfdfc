/-! ===== plans of the reference ===== -/
abbrev plN (σ : St) : Nat := nat (σ 0 43)
abbrev pf (σ : St) (n : Nat) : Nat := nat (σ 30 n)
abbrev pg (σ : St) (n : Nat) : Nat := nat (σ 32 n)
def plOK (σ : St) : Prop := 0 ≤ σ 0 43 ∧ plN σ ≤ 40 ∧ ∀ n, n < plN σ → (0 ≤ σ 32 n ∧ pg σ n < nN σ) ∧ (0 < n → (0 ≤ σ 30 n ∧ pf σ n < n) ∧ 0 ≤ σ 31 n ∧ nat (σ 31 n) / 10 + nat (σ 31 n) % 10 ≤ pN σ)
/-- the answer of code x to code c -/
abbrev cA2 (σ : St) (x c : Nat) : Nat := ans (pN σ) (cN σ) (fun i => nI (pegOf (pN σ) (cN σ) x i)) c
def sp_drop (σ : St) : Int32 × St := (σ 0 43, up (t0 σ) 0 43 0)
theorem C12_drop (σ : St) : Mt YM mX12_drop 9 [.ref 0] σ (fun r τ => r = some (.int (sp_drop σ).1) ∧ sE (sp_drop σ).2 τ) := by
  refine Mt.ofA [some (.ref 0), none] (by decide) (fun _ => Nat.le_of_ble_eq_true rfl) (fun _ => rfl) (fun g hc => ?_)
  refine st_aload_n hc dX12_drop_0 rfl rfl ?_
  refine st_iconst (v := 0) hc dX12_drop_1 (by decide) ?_
  refine st_put hc dX12_drop_2 fpX12_139 rfl rfl  ?_
  refine st_aload_n hc dX12_drop_5 rfl rfl ?_
  refine st_getE hc dX12_drop_6 flX12_189 rfl rfl rfl ?_
  refine st_istore_n hc dX12_drop_9 rfl (by decide) rfl ?_
  refine st_aload_n hc dX12_drop_10 rfl rfl ?_
  refine st_iconst (v := 0) hc dX12_drop_11 (by decide) ?_
  refine st_put hc dX12_drop_12 fpX12_189 rfl rfl  ?_
  refine st_iload_n hc dX12_drop_15 rfl rfl ?_
  refine st_iret (st := []) hc dX12_drop_16 rfl ?_
  exact ⟨rfl, sE.rf⟩
def ndOK (σ : St) : Prop := 0 ≤ σ 0 33 ∧ nat (σ 0 33) ≤ 40
def sp_node (σ : St) (k w : Int32) : Int32 × St :=
  (if ¬ (0 ≤ k ∧ nat k < nat (σ 0 33)) then -1 else if w = 0 then σ 21 (nat k) else if w = 1 then σ 22 (nat k) else if w = 2 then σ 23 (nat k) else if w = 3 then σ 24 (nat k) else if w = 4 then σ 25 (nat k) else -1, t0 σ)
theorem C12_node (σ : St) (hn : ndOK σ) (k w : Int32) : Mt YM mX12_node 9 [.ref 0, .int k, .int w] σ (fun r τ => r = some (.int (sp_node σ k w).1) ∧ sE (sp_node σ k w).2 τ) := by
  obtain ⟨hn0, hn40⟩ := hn
  have e33 := (nI_nat hn0).symm
  have hin := in_n (x := k) (n := nat (σ 0 33)) (by omega)
  rw [← e33] at hin
  refine Mt.ofA [some (.ref 0), some (.int k), some (.int w)] (by decide) (fun _ => Nat.le_of_ble_eq_true rfl) (fun _ => rfl) (fun g hc => ?_)
  unfold sp_node
  refine st_aload_n hc dX12_node_0 rfl rfl ?_
  refine st_iconst (v := 0) hc dX12_node_1 (by decide) ?_
  refine st_put hc dX12_node_2 fpX12_139 rfl rfl  ?_
  refine st_iload_n hc dX12_node_5 rfl rfl ?_
  refine st_iconst (v := 0) hc dX12_node_6 (by decide) ?_
  refine st_aload_n hc dX12_node_7 rfl rfl ?_
  refine st_getE hc dX12_node_8 flX12_186 rfl rfl rfl ?_
  refine st_iconst (v := 1) hc dX12_node_11 (by decide) ?_
  refine st_isub hc dX12_node_12 ?_
  refine st_callSp hc dX12_node_13 (C12_in 0 _ k 0 (σ 0 33 - 1)) msX12_142 (by omega) rfl rfl (Nat.le_of_ble_eq_true rfl) ?_
  refine st_if_ne (tgt := 21) hc dX12_node_16 (by decide) (fun h16 => ?_) (fun h16 => ?_)
  · have h16 := hin.mp (it1.mp h16)
    have ek := (nI_nat h16.1).symm
    have e16 : ¬ ¬ (0 ≤ k ∧ nat k < nat (σ 0 33)) := fun q => q h16
    rw [if_neg e16]
    refine st_iload_n hc dX12_node_21 rfl rfl ?_
    rcases sw_c 5 (by decide) w with hsw | ⟨ksw, hksw, esw⟩
    · refine st_tableOut (tgt := 91) hc dX12_node_22 (by rcases hsw with q | q; exact Or.inl q; exact Or.inr (by omega)) (by decide) ?_
      have hne : ∀ j : Nat, j < 5 → ¬ w = nI j := fun j hj q => by
        rw [q, nI_toInt (by omega)] at hsw
        omega
      have n0 : ¬ w = 0 := hne 0 (by decide)
      have n1 : ¬ w = 1 := hne 1 (by decide)
      have n2 : ¬ w = 2 := hne 2 (by decide)
      have n3 : ¬ w = 3 := hne 3 (by decide)
      have n4 : ¬ w = 4 := hne 4 (by decide)
      refine st_iconst (v := (-1)) hc dX12_node_91 (by decide) ?_
      refine st_iret (st := []) hc dX12_node_92 rfl ?_
      rw [if_neg n0, if_neg n1, if_neg n2, if_neg n3, if_neg n4]; exact ⟨rfl, sE.rf⟩
    · rcases (show ksw = 0 ∨ ksw = 1 ∨ ksw = 2 ∨ ksw = 3 ∨ ksw = 4 by omega) with rfl | rfl | rfl | rfl | rfl
      · subst esw
        refine st_tableIn (off := 34) (tgt := 56) hc dX12_node_22 (by decide) (by decide) (by decide) (by decide) ?_
        refine st_aload_n hc dX12_node_56 rfl rfl ?_
        refine st_getr hc dX12_node_57 flX12_85 rfl rfl ?_
        refine st_iload_n hc dX12_node_60 rfl rfl ?_
        refine st_ialdN (k := nat k) hc dX12_node_61 rfl (ek) (by omega) (by decide) rfl ?_
        refine st_iret (st := []) hc dX12_node_62 rfl ?_
        exact ⟨rfl, sE.rf⟩
      · subst esw
        refine st_tableIn (off := 41) (tgt := 63) hc dX12_node_22 (by decide) (by decide) (by decide) (by decide) ?_
        refine st_aload_n hc dX12_node_63 rfl rfl ?_
        refine st_getr hc dX12_node_64 flX12_88 rfl rfl ?_
        refine st_iload_n hc dX12_node_67 rfl rfl ?_
        refine st_ialdN (k := nat k) hc dX12_node_68 rfl (ek) (by omega) (by decide) rfl ?_
        refine st_iret (st := []) hc dX12_node_69 rfl ?_
        exact ⟨rfl, sE.rf⟩
      · subst esw
        refine st_tableIn (off := 48) (tgt := 70) hc dX12_node_22 (by decide) (by decide) (by decide) (by decide) ?_
        refine st_aload_n hc dX12_node_70 rfl rfl ?_
        refine st_getr hc dX12_node_71 flX12_91 rfl rfl ?_
        refine st_iload_n hc dX12_node_74 rfl rfl ?_
        refine st_ialdN (k := nat k) hc dX12_node_75 rfl (ek) (by omega) (by decide) rfl ?_
        refine st_iret (st := []) hc dX12_node_76 rfl ?_
        exact ⟨rfl, sE.rf⟩
      · subst esw
        refine st_tableIn (off := 55) (tgt := 77) hc dX12_node_22 (by decide) (by decide) (by decide) (by decide) ?_
        refine st_aload_n hc dX12_node_77 rfl rfl ?_
        refine st_getr hc dX12_node_78 flX12_94 rfl rfl ?_
        refine st_iload_n hc dX12_node_81 rfl rfl ?_
        refine st_ialdN (k := nat k) hc dX12_node_82 rfl (ek) (by omega) (by decide) rfl ?_
        refine st_iret (st := []) hc dX12_node_83 rfl ?_
        exact ⟨rfl, sE.rf⟩
      · subst esw
        refine st_tableIn (off := 62) (tgt := 84) hc dX12_node_22 (by decide) (by decide) (by decide) (by decide) ?_
        refine st_aload_n hc dX12_node_84 rfl rfl ?_
        refine st_getr hc dX12_node_85 flX12_97 rfl rfl ?_
        refine st_iload_n hc dX12_node_88 rfl rfl ?_
        refine st_ialdN (k := nat k) hc dX12_node_89 rfl (ek) (by omega) (by decide) rfl ?_
        refine st_iret (st := []) hc dX12_node_90 rfl ?_
        exact ⟨rfl, sE.rf⟩
  · have h16 := fun q => it0.mp h16 (hin.mpr q)
    refine st_iconst (v := (-1)) hc dX12_node_19 (by decide) ?_
    refine st_iret (st := []) hc dX12_node_20 rfl ?_
    rw [if_pos h16]; exact ⟨rfl, sE.rf⟩
def goodB (σ : St) (p a : Int32) : Bool := if σ 0 43 = 0 then decide (p = -1) else decide ((0 ≤ p ∧ nat p < plN σ) ∧ (0 ≤ a ∧ nat a / 10 + nat a % 10 ≤ pN σ))
def sp_plan (σ : St) (p a c : Int32) : Int32 × St :=
  if goodB σ p a = false ∨ ¬ (0 ≤ c ∧ nat c < nN σ) then (-1, t0 σ) else if σ 0 43 = 40 then (-2, t0 σ) else (σ 0 43, up (up (up (up (t0 σ) 30 (plN σ) p) 31 (plN σ) a) 32 (plN σ) c) 0 43 (σ 0 43 + 1))
theorem C12_plan (σ : St) (hm : MI σ) (hp : plOK σ) (p a c : Int32) : Mt YM mX12_plan 9 [.ref 0, .int p, .int a, .int c] σ (fun r τ => r = some (.int (sp_plan σ p a c).1) ∧ sE (sp_plan σ p a c).2 τ) := by
  obtain ⟨hm, ht⟩ := hm
  obtain ⟨⟨hP, hC, hP1, hP5, hC1, hC8⟩, h2, h3, h4, -⟩ := id hm
  obtain ⟨hp0, hp40, -⟩ := hp
  have e43 : σ 0 43 = nI (plN σ) := (nI_nat hp0).symm
  have hip := in_n (x := p) (n := plN σ) (by omega)
  rw [← e43] at hip
  have hic := in_n (x := c) (n := nN σ) (by omega)
  rw [← h2] at hic
  refine Mt.ofA [some (.ref 0), some (.int p), some (.int a), some (.int c), none] (by decide) (fun _ => Nat.le_of_ble_eq_true rfl) (fun _ => rfl) (fun g hc => ?_)
  generalize hQe : (fun r τ => r = some (Value.int (sp_plan σ p a c).1) ∧ sE (sp_plan σ p a c).2 τ) = Q
  have k52 : ∀ b : Bool, b = goodB σ p a → aW g YM 5 Q 52 [some (.ref 0), some (.int p), some (.int a), some (.int c), none] [.int (bI b)] (t0 σ) := by
    intro b hb
    rw [← hQe]
    unfold sp_plan
    rw [← hb]
    refine st_istore hc dX12_plan_52 (by decide) rfl ?_
    refine st_iload hc dX12_plan_54 rfl ?_
    refine st_if_eq (tgt := 67) hc dX12_plan_56 (by decide) (fun h56 => ?_) (fun h56 => ?_)
    · have h56 : b = false := bI_0.mp h56
      refine st_iconst (v := (-1)) hc dX12_plan_67 (by decide) ?_
      refine st_iret (st := []) hc dX12_plan_68 rfl ?_
      first
       | (rw [if_pos (Or.inl h56)]; exact ⟨rfl, sE.rf⟩)
       | (rw [if_pos (Or.inr h64)]; exact ⟨rfl, sE.rf⟩)
    · have h56 : ¬ b = false := fun q => h56 (bI_0.mpr q)
      refine st_aload_n hc dX12_plan_59 rfl rfl ?_
      refine st_iload_n hc dX12_plan_60 rfl rfl ?_
      refine st_callVp hc dX12_plan_61 (C12_isCode 0 (t0 σ) c) mvX12_199 (by omega) rfl rfl rfl (Nat.le_of_ble_eq_true rfl) ?_
      refine st_if_ne (tgt := 69) hc dX12_plan_64 (by decide) (fun h64 => ?_) (fun h64 => ?_)
      · have h64 := hic.mp (it1.mp h64)
        have hno : ¬ (b = false ∨ ¬ (0 ≤ c ∧ nat c < nN σ)) := by rintro (q | q); exact h56 q; exact q h64
        rw [if_neg hno]
        refine st_aload_n hc dX12_plan_69 rfl rfl ?_
        refine st_getE hc dX12_plan_70 flX12_189 rfl rfl (show _ = σ 0 43 from rfl) ?_
        refine st_bipush (v := 40) hc dX12_plan_73 (by decide) ?_
        refine st_icmp_ne (tgt := 81) hc dX12_plan_75 (by decide) (fun h75 => ?_) (fun h75 => ?_)
        · have hlt : plN σ < 40 := by
            rcases Nat.lt_or_ge (plN σ) 40 with q | q
            · exact q
            · exact absurd (by rw [e43, show plN σ = 40 by omega]; rfl) h75
          rw [if_neg h75]
          refine st_aload_n hc dX12_plan_81 rfl rfl ?_
          refine st_getr hc dX12_plan_82 flX12_112 rfl rfl ?_
          refine st_aload_n hc dX12_plan_85 rfl rfl ?_
          refine st_getE hc dX12_plan_86 flX12_189 rfl rfl rfl ?_
          refine st_iload_n hc dX12_plan_89 rfl rfl ?_
          refine st_iastN (k := plN σ) hc dX12_plan_90 rfl (e43) (by omega) (by decide)  ?_
          refine st_aload_n hc dX12_plan_91 rfl rfl ?_
          refine st_getr hc dX12_plan_92 flX12_115 rfl rfl ?_
          refine st_aload_n hc dX12_plan_95 rfl rfl ?_
          refine st_getE hc dX12_plan_96 flX12_189 rfl rfl rfl ?_
          refine st_iload_n hc dX12_plan_99 rfl rfl ?_
          refine st_iastN (k := plN σ) hc dX12_plan_100 rfl (e43) (by omega) (by decide)  ?_
          refine st_aload_n hc dX12_plan_101 rfl rfl ?_
          refine st_getr hc dX12_plan_102 flX12_118 rfl rfl ?_
          refine st_aload_n hc dX12_plan_105 rfl rfl ?_
          refine st_getE hc dX12_plan_106 flX12_189 rfl rfl rfl ?_
          refine st_iload_n hc dX12_plan_109 rfl rfl ?_
          refine st_iastN (k := plN σ) hc dX12_plan_110 rfl (e43) (by omega) (by decide)  ?_
          refine st_aload_n hc dX12_plan_111 rfl rfl ?_
          refine st_dup hc dX12_plan_112 rfl ?_
          refine st_getE hc dX12_plan_113 flX12_189 rfl rfl rfl ?_
          refine st_iconst (v := 1) hc dX12_plan_116 (by decide) ?_
          refine st_iadd hc dX12_plan_117 ?_
          refine st_put hc dX12_plan_118 fpX12_189 rfl rfl  ?_
          refine st_aload_n hc dX12_plan_121 rfl rfl ?_
          refine st_getE hc dX12_plan_122 flX12_189 rfl rfl rfl ?_
          refine st_iconst (v := 1) hc dX12_plan_125 (by decide) ?_
          refine st_isub hc dX12_plan_126 ?_
          refine st_iret (st := []) hc dX12_plan_127 rfl ?_
          refine ⟨?_, sE.rf⟩
          show some (Value.int (σ 0 43 + 1 - 1)) = _
          rw [Int32.add_sub_cancel]
        · refine st_bipush (v := (-2)) hc dX12_plan_78 (by decide) ?_
          refine st_iret (st := []) hc dX12_plan_80 rfl ?_
          rw [if_pos h75]; exact ⟨rfl, sE.rf⟩
      · have h64 := fun q => it0.mp h64 (hic.mpr q)
        refine st_iconst (v := (-1)) hc dX12_plan_67 (by decide) ?_
        refine st_iret (st := []) hc dX12_plan_68 rfl ?_
        first
         | (rw [if_pos (Or.inl h56)]; exact ⟨rfl, sE.rf⟩)
         | (rw [if_pos (Or.inr h64)]; exact ⟨rfl, sE.rf⟩)
  refine st_aload_n hc dX12_plan_0 rfl rfl ?_
  refine st_iconst (v := 0) hc dX12_plan_1 (by decide) ?_
  refine st_put hc dX12_plan_2 fpX12_139 rfl rfl  ?_
  refine st_aload_n hc dX12_plan_5 rfl rfl ?_
  refine st_getE hc dX12_plan_6 flX12_189 rfl rfl (show _ = σ 0 43 from rfl) ?_
  refine st_if_ne (tgt := 25) hc dX12_plan_9 (by decide) (fun h9 => ?_) (fun h9 => ?_)
  · refine st_iload_n hc dX12_plan_25 rfl rfl ?_
    refine st_iconst (v := 0) hc dX12_plan_26 (by decide) ?_
    refine st_aload_n hc dX12_plan_27 rfl rfl ?_
    refine st_getE hc dX12_plan_28 flX12_189 rfl rfl rfl ?_
    refine st_iconst (v := 1) hc dX12_plan_31 (by decide) ?_
    refine st_isub hc dX12_plan_32 ?_
    refine st_callSp hc dX12_plan_33 (C12_in 0 _ p 0 (σ 0 43 - 1)) msX12_142 (by omega) rfl rfl (Nat.le_of_ble_eq_true rfl) ?_
    refine st_if_eq (tgt := 51) hc dX12_plan_36 (by decide) (fun h36 => ?_) (fun h36 => ?_)
    · have h36 := fun q => it0.mp h36 (hip.mpr q)
      have hg : false = goodB σ p a := by unfold goodB; rw [if_neg h9, decide_eq_false (fun q => h36 q.1)]
      refine st_iconst (v := 0) hc dX12_plan_51 (by decide) ?_
      exact k52 _ hg
    · have h36 := hip.mp (it1.mp h36)
      refine st_aload_n hc dX12_plan_39 rfl rfl ?_
      refine st_iload_n hc dX12_plan_40 rfl rfl ?_
      refine st_callVp hc dX12_plan_41 (C12_mayAnswer 0 (t0 σ) (P := pN σ) hP hP5 a) mvX12_217 (by omega) rfl rfl rfl (Nat.le_of_ble_eq_true rfl) ?_
      refine st_t_if_eq (a := 1) (b := 0) hc dX12_plan_44 dX12_plan_47 dX12_plan_48 dX12_plan_51 (by decide) (by decide) ?_
      rw [show (if bI (decide (0 ≤ a ∧ nat a / 10 + nat a % 10 ≤ pN σ)) = 0 then (0 : Int32) else 1) = bI (decide (0 ≤ a ∧ nat a / 10 + nat a % 10 ≤ pN σ)) by cases decide (0 ≤ a ∧ nat a / 10 + nat a % 10 ≤ pN σ) <;> rfl]
      have hg : decide (0 ≤ a ∧ nat a / 10 + nat a % 10 ≤ pN σ) = goodB σ p a := by unfold goodB; rw [if_neg h9]; exact decide_eq_decide.mpr ⟨fun q => ⟨h36, q⟩, fun q => q.2⟩
      exact k52 _ hg
  · refine st_iload_n hc dX12_plan_12 rfl rfl ?_
    refine st_iconst (v := (-1)) hc dX12_plan_13 (by decide) ?_
    refine st_icmp_ne (tgt := 21) hc dX12_plan_14 (by decide) (fun h14 => ?_) (fun h14 => ?_)
    · have hg : false = goodB σ p a := by unfold goodB; rw [if_pos h9, decide_eq_false h14]
      refine st_iconst (v := 0) hc dX12_plan_21 (by decide) ?_
      refine st_goto (tgt := 52) hc dX12_plan_22 (by decide) ?_
      exact k52 _ hg
    · have hg : true = goodB σ p a := by unfold goodB; rw [if_pos h9, h14]; rfl
      refine st_iconst (v := 1) hc dX12_plan_17 (by decide) ?_
      refine st_goto (tgt := 52) hc dX12_plan_18 (by decide) ?_
      exact k52 _ hg
/-- the code c is meant at node n: every answer on the road to n is its own -/
def mea (σ : St) (c : Nat) (f n : Nat) : Bool := match f with
  | 0 => true
  | f + 1 => if n = 0 then true else (nI (cA2 σ (pg σ (pf σ n)) c) == σ 31 n) && mea σ c f (pf σ n)
/-- how deep node n stands -/
def dpt (σ : St) (f n : Nat) : Nat := match f with
  | 0 => 1
  | f + 1 => if n = 0 then 1 else dpt σ f (pf σ n) + 1
theorem dpt_le (σ : St) : ∀ f n, dpt σ f n ≤ f + 1 := by
  intro f
  induction f with
  | zero => intro n; exact Nat.le_refl _
  | succ f ih => intro n; unfold dpt; split; omega; have := ih (pf σ n); omega
abbrev meant (σ : St) (c n : Nat) : Bool := mea σ c 40 n
theorem W12_isMeant {g : Gx} {d : Nat} {σ : St} {Q : Option Value → St → Prop} {c : Nat} (hc : cX g YM RX12 cX12_isMeant 4 (some .boolean) (d + 2)) (hm : mOK σ (pN σ) (cN σ) (nN σ) (tN σ) (liN σ)) (hp : plOK σ) (hcl : c < 4096) : ∀ (f n : Nat), n ≤ f → n < plN σ → (∀ w, Q (some (.int (bI (mea σ c f n)))) (va_up σ 6 w)) → ∀ w {x : Int32}, aW g YM 4 Q 2 [some (.ref 0), some (.int (nI c)), some (.int x), some (.int (nI n))] [] (va_up σ 6 w) := by
  obtain ⟨hpc, h2, h3, h4, -⟩ := id hm
  obtain ⟨hp0, hp40, hpl⟩ := id hp
  intro f
  induction f with
  | zero =>
    intro n hn hnp hQ w x
    have : n = 0 := by omega
    subst this
    refine st_iload_n hc dX12_isMeant_2 rfl rfl ?_
    refine st_if_le (tgt := 47) hc dX12_isMeant_3 (by decide) (fun h3 => ?_) (fun h3 => ?_)
    · refine st_iconst (v := 1) hc dX12_isMeant_47 (by decide) ?_
      refine st_zret (st := []) hc dX12_isMeant_48 rfl (by simp) ?_
      exact hQ w
    · exact absurd (by decide) h3
  | succ f ih =>
    intro n hn hnp hQ w x
    by_cases e : n = 0
    · subst e
      have em : mea σ c (f + 1) 0 = true := by unfold mea; rw [if_pos rfl]
      rw [em] at hQ
      refine st_iload_n hc dX12_isMeant_2 rfl rfl ?_
      refine st_if_le (tgt := 47) hc dX12_isMeant_3 (by decide) (fun h3 => ?_) (fun h3 => ?_)
      · refine st_iconst (v := 1) hc dX12_isMeant_47 (by decide) ?_
        refine st_zret (st := []) hc dX12_isMeant_48 rfl (by simp) ?_
        exact hQ w
      · exact absurd (by decide) h3
    · have em : mea σ c (f + 1) n = ((nI (cA2 σ (pg σ (pf σ n)) c) == σ 31 n) && mea σ c f (pf σ n)) := by rw [mea]; rw [if_neg e]
      obtain ⟨-, hpn⟩ := hpl n hnp
      obtain ⟨⟨hf0, hfn⟩, hpa⟩ := hpn (by omega)
      have ef := (nI_nat hf0).symm
      obtain ⟨⟨hg0, hgn⟩, -⟩ := hpl (pf σ n) (by omega)
      have eg := (nI_nat hg0).symm
      refine st_iload_n hc dX12_isMeant_2 rfl rfl ?_
      refine st_if_le (tgt := 47) hc dX12_isMeant_3 (by decide) (fun h3 => ?_) (fun h3 => ?_)
      · exact absurd h3 (nI_nle (by omega) (by omega))
      · refine st_aload_n hc dX12_isMeant_6 rfl rfl ?_
        refine st_aload_n hc dX12_isMeant_7 rfl rfl ?_
        refine st_getr hc dX12_isMeant_8 flX12_118 rfl rfl ?_
        refine st_aload_n hc dX12_isMeant_11 rfl rfl ?_
        refine st_getr hc dX12_isMeant_12 flX12_112 rfl rfl ?_
        refine st_iload_n hc dX12_isMeant_15 rfl rfl ?_
        refine st_ialdN (k := n) hc dX12_isMeant_16 rfl (rfl) (by omega) (by decide) (show _ = nI (pf σ n) from ef) ?_
        refine st_ialdN (k := pf σ n) hc dX12_isMeant_17 rfl (rfl) (by omega) (by decide) (show _ = nI (pg σ (pf σ n)) from eg) ?_
        refine st_callVn hc dX12_isMeant_18 (C12_guessCode d (va_up σ 6 w) (hpc.up (by decide) w) (pg σ (pf σ n)) (by omega)) mvX12_214 (by omega) rfl rfl rfl (Nat.le_of_ble_eq_true rfl) ?_
        rintro _ ⟨w2, hw2, rfl⟩
        rw [vu_vu]
        refine st_aload_n hc dX12_isMeant_21 rfl rfl ?_
        refine st_iload_n hc dX12_isMeant_22 rfl rfl ?_
        refine st_callVp hc dX12_isMeant_23 (C12_answers d (va_up σ 6 w2) (hpc.up (by decide) w2) c (by omega)) mvX12_160 (by omega) rfl rfl rfl (Nat.le_of_ble_eq_true rfl) ?_
        refine st_aload_n hc dX12_isMeant_26 rfl rfl ?_
        refine st_getr hc dX12_isMeant_27 flX12_115 rfl rfl ?_
        refine st_iload_n hc dX12_isMeant_30 rfl rfl ?_
        refine st_ialdN (k := n) hc dX12_isMeant_31 rfl (rfl) (by omega) (by decide) (show _ = σ 31 n from rfl) ?_
        rw [show va_up σ 6 w2 6 = w2 from rfl, ans_congr hw2]
        refine st_icmp_eq (tgt := 37) hc dX12_isMeant_32 (by decide) (fun h32 => ?_) (fun h32 => ?_)
        · have eq : mea σ c (f + 1) n = mea σ c f (pf σ n) := by rw [em, h32]; simp
          rw [eq] at hQ
          refine st_aload_n hc dX12_isMeant_37 rfl rfl ?_
          refine st_getr hc dX12_isMeant_38 flX12_112 rfl rfl ?_
          refine st_iload_n hc dX12_isMeant_41 rfl rfl ?_
          refine st_ialdN (k := n) hc dX12_isMeant_42 rfl (rfl) (by omega) (by decide) (show _ = nI (pf σ n) from ef) ?_
          refine st_istore_n hc dX12_isMeant_43 rfl (by decide) rfl ?_
          refine st_goto (tgt := 2) hc dX12_isMeant_44 (by decide) ?_
          exact ih (pf σ n) (by omega) (by omega) hQ w2
        · have eq : mea σ c (f + 1) n = false := by rw [em]; simp [h32]
          rw [eq] at hQ
          refine st_iconst (v := 0) hc dX12_isMeant_35 (by decide) ?_
          refine st_zret (st := []) hc dX12_isMeant_36 rfl (by simp) ?_
          exact hQ w2
theorem C12_isMeant (d : Nat) (σ : St) (hm : mOK σ (pN σ) (cN σ) (nN σ) (tN σ) (liN σ)) (hp : plOK σ) (c n : Nat) (hcl : c < 4096) (hn : n < plN σ) : Mt YM mX12_isMeant (d + 2) [.ref 0, .int (nI c), .int (nI n)] σ (fun r τ => r = some (.int (bI (meant σ c n))) ∧ ∃ w, τ = va_up σ 6 w) := by
  refine Mt.ofA [some (.ref 0), some (.int (nI c)), some (.int (nI n)), none] (by decide) (fun _ => Nat.le_of_ble_eq_true rfl) (fun _ => rfl) (fun g hc => ?_)
  have hp40 := hp.2.1
  refine st_iload_n hc dX12_isMeant_0 rfl rfl ?_
  refine st_istore_n hc dX12_isMeant_1 rfl (by decide) rfl ?_
  have h := W12_isMeant (Q := fun r τ => r = some (.int (bI (meant σ c n))) ∧ ∃ w, τ = va_up σ 6 w) hc hm hp hcl 40 n (by omega) hn (fun w => ⟨rfl, w, rfl⟩) (σ 6) (x := nI n)
  rw [vu_id] at h
  exact h
theorem sE.c {σ τ : St} (h : sE σ τ) (a : Nat) (ha : a ≠ 0) (hp : perM a 0 = true) : τ a = σ a := by
  funext b
  refine h a b ?_
  unfold perM at hp ⊢
  rw [if_neg ha] at hp ⊢
  exact hp
theorem mea_sE {σ τ : St} (h : sE σ τ) (c : Nat) : ∀ f n, mea τ c f n = mea σ c f n := by
  intro f
  induction f with
  | zero => intro n; rfl
  | succ f ih =>
    intro n
    rw [mea, mea]
    simp only [cA2, pg, pf, pN, cN, h.c 30 (by decide) rfl, h.c 31 (by decide) rfl, h.c 32 (by decide) rfl, h 0 0 rfl, h 0 1 rfl, ih]
/-- some left code that is meant at the node answers a there -/
def hasB (σ : St) (n a : Nat) (m : Nat) : Bool := anyN m (fun k => meant σ (lth σ k) n && cA2 σ (pg σ n) (lth σ k) == a)
def hasG (σ : St) (n a : Nat) : Bool := !(a == 10 * pN σ) && hasB σ n a (lm σ)
def chP (σ : St) (n a : Nat) : Nat → Bool := fun m => decide (0 < m) && (σ 30 m == nI n) && (σ 31 m == nI a)
def chN (σ : St) (n a : Nat) : Nat := cnt (plN σ) (chP σ n a)
def wholeB (σ : St) (n : Nat) : Bool := !anyN 60 (fun a => !(chN σ n a == (if hasG σ n a = true then 1 else 0)))
/-- the store of the reference while it judges -/
abbrev jS (σ : St) (F w v : Nat → Int32) : St := va_up (lkS σ (lm σ) F w) 33 v
theorem jS_E (σ : St) (F w v : Nat → Int32) : sE σ (jS σ F w v) := (sE.lk _ _ _ _).v rfl (by decide) v
theorem W12_isWhole {g : Gx} {d : Nat} {σ : St} {Q : Option Value → St → Prop} {F : Nat → Int32} {n : Nat} (hc : cX g YM RX12 cX12_isWhole 5 (some .boolean) (d + 3)) (hm : mOK σ (pN σ) (cN σ) (nN σ) (tN σ) (liN σ)) (hp : plOK σ) (hF : ∀ k, k < lm σ → F k = nI (lth σ k)) (hn : n < plN σ) (hQ : ∀ w v, Q (some (.int (bI (wholeB σ n)))) (jS σ F w v)) (w0 v0 : Nat → Int32) : aW g YM 5 Q 0 [some (.ref 0), some (.int (nI n)), none, none, none] [] (jS σ F w0 v0) := by
  obtain ⟨hpc, h2, h3, h4, -⟩ := id hm
  obtain ⟨hP, hC, hP1, hP5, hC1, hC8⟩ := id hpc
  obtain ⟨hp0, hp40, hpl⟩ := id hp
  have e43 : σ 0 43 = nI (plN σ) := (nI_nat hp0).symm
  have hlm : lm σ ≤ 4096 := Nat.le_trans (cnt_le _ _) h4
  obtain ⟨⟨hg0, hgn⟩, -⟩ := hpl n hn
  have eg : σ 32 n = nI (pg σ n) := (nI_nat hg0).symm
  have k95 : ∀ w v, (∀ a, a < 60 → v a = bI (hasG σ n a)) → aW g YM 5 Q 95 [some (.ref 0), some (.int (nI n)), some (.int (nI 0)), none, none] [] (jS σ F w v) := by
    intro w v hv
    refine lpN (n := 60) (F := fun a => anyN a (fun a => !(chN σ n a == (if hasG σ n a = true then 1 else 0))) = false → aW g YM 5 Q 95 [some (.ref 0), some (.int (nI n)), some (.int (nI a)), none, none] [] (jS σ F w v)) ?_ (fun a ha ih => ?_) rfl
    · intro hb
      have ew : wholeB σ n = true := by unfold wholeB; rw [hb]; rfl
      rw [ew] at hQ
      refine st_iload_n hc dX12_isWhole_95 rfl rfl ?_
      refine st_bipush (v := 60) hc dX12_isWhole_96 (by decide) ?_
      refine st_icmp_ge (tgt := 169) hc dX12_isWhole_98 (by decide) (fun h98 => ?_) (fun h98 => ?_)
      · refine st_iconst (v := 1) hc dX12_isWhole_169 (by decide) ?_
        refine st_zret (st := []) hc dX12_isWhole_170 rfl (by simp) ?_
        exact hQ w v
      · exact absurd (by decide) h98
    · intro hb
      have hch : chN σ n a ≤ 40 := Nat.le_trans (cnt_le _ _) hp40
      have k106 : aW g YM 5 Q 106 [some (.ref 0), some (.int (nI n)), some (.int (nI a)), some (.int (nI 0)), some (.int (nI 1))] [] (jS σ F w v) := by
        have h1 : cnt 1 (chP σ n a) = 0 := rfl
        have h := lpF (i0 := 1) (n := plN σ) (F := fun m => aW g YM 5 Q 106 [some (.ref 0), some (.int (nI n)), some (.int (nI a)), some (.int (nI (cnt m (chP σ n a)))), some (.int (nI m))] [] (jS σ F w v)) (by omega) ?_ (fun m hm1 hm2 ih2 => ?_)
        · rw [h1] at h
          exact h
        · refine st_iload hc dX12_isWhole_106 rfl ?_
          refine st_aload_n hc dX12_isWhole_108 rfl rfl ?_
          refine st_getE hc dX12_isWhole_109 flX12_189 rfl rfl (e43) ?_
          refine st_icmp_ge (tgt := 151) hc dX12_isWhole_112 (by decide) (fun h112 => ?_) (fun h112 => ?_)
          · refine st_iload_n hc dX12_isWhole_151 rfl rfl ?_
            refine st_aload_n hc dX12_isWhole_152 rfl rfl ?_
            refine st_getr hc dX12_isWhole_153 flX12_121 rfl rfl ?_
            refine st_iload_n hc dX12_isWhole_156 rfl rfl ?_
            refine st_ialdN (k := a) hc dX12_isWhole_157 rfl (rfl) (by omega) (by decide) (hv a ha) ?_
            refine st_icmp_eq (tgt := 163) hc dX12_isWhole_158 (by decide) (fun h158 => ?_) (fun h158 => ?_)
            · refine st_inc hc dX12_isWhole_163 rfl (by decide) rfl ?_
              rw [nI_1]
              refine st_goto (tgt := 95) hc dX12_isWhole_166 (by decide) ?_
              refine st_lvq _ (by simp [lvq, List.set]) (ih ?_)
              rw [anyN_s, hb, Bool.false_or, Bool.not_eq_false', beq_iff_eq]
              have h158 : nI (chN σ n a) = bI (hasG σ n a) := h158
              rw [bI_n] at h158
              exact nI_inj (by omega) (by split <;> omega) h158
            · have ew : wholeB σ n = false := by
                unfold wholeB
                rw [(anyN_iff _ _).mpr ⟨a, ha, ?_⟩]
                · rfl
                · rw [Bool.not_eq_true', beq_eq_false_iff_ne]
                  intro q
                  apply h158
                  show nI (chN σ n a) = _
                  rw [q]
                  cases hasG σ n a <;> rfl
              rw [ew] at hQ
              refine st_iconst (v := 0) hc dX12_isWhole_161 (by decide) ?_
              refine st_zret (st := []) hc dX12_isWhole_162 rfl (by simp) ?_
              exact hQ w v
          · exact absurd (nI_le (Nat.le_refl _) (by omega)) h112
        · have hs : cnt (m + 1) (chP σ n a) = cnt m (chP σ n a) + (if chP σ n a m = true then 1 else 0) := rfl
          refine st_iload hc dX12_isWhole_106 rfl ?_
          refine st_aload_n hc dX12_isWhole_108 rfl rfl ?_
          refine st_getE hc dX12_isWhole_109 flX12_189 rfl rfl (e43) ?_
          refine st_icmp_ge (tgt := 151) hc dX12_isWhole_112 (by decide) (fun h112 => ?_) (fun h112 => ?_)
          · exact absurd h112 (nI_ge hm2 (by omega))
          · refine st_iload_n hc dX12_isWhole_115 rfl rfl ?_
            refine st_aload_n hc dX12_isWhole_116 rfl rfl ?_
            refine st_getr hc dX12_isWhole_117 flX12_112 rfl rfl ?_
            refine st_iload hc dX12_isWhole_120 rfl ?_
            refine st_ialdN (k := m) hc dX12_isWhole_122 rfl (rfl) (by omega) (by decide) (show _ = σ 30 m from rfl) ?_
            refine st_iload_n hc dX12_isWhole_123 rfl rfl ?_
            refine st_icmp_ne (tgt := 142) hc dX12_isWhole_124 (by decide) (fun h124 => ?_) (fun h124 => ?_)
            · have e1 : chP σ n a m = false := by unfold chP; simp [h124]
              rw [e1] at hs
              refine st_iconst (v := 0) hc dX12_isWhole_142 (by decide) ?_
              refine st_iadd hc dX12_isWhole_143 ?_
              first
               | rw [nI_add, ← hs]
               | rw [show (0 : Int32) = nI 0 from rfl, nI_add, show cnt m (chP σ n a) + 0 = cnt (m + 1) (chP σ n a) by rw [hs]; rfl]
              refine st_istore_n hc dX12_isWhole_144 rfl (by decide) rfl ?_
              refine st_inc hc dX12_isWhole_145 rfl (by decide) rfl ?_
              rw [nI_1]
              refine st_goto (tgt := 106) hc dX12_isWhole_148 (by decide) ?_
              exact ih2
            · have e1 : chP σ n a m = (σ 31 m == nI a) := by unfold chP; rw [h124, decide_eq_true (show 0 < m by omega)]; simp
              refine st_aload_n hc dX12_isWhole_127 rfl rfl ?_
              refine st_getr hc dX12_isWhole_128 flX12_115 rfl rfl ?_
              refine st_iload hc dX12_isWhole_131 rfl ?_
              refine st_ialdN (k := m) hc dX12_isWhole_133 rfl (rfl) (by omega) (by decide) (show _ = σ 31 m from rfl) ?_
              refine st_iload_n hc dX12_isWhole_134 rfl rfl ?_
              refine st_t_icmp_ne (a := 1) (b := 0) hc dX12_isWhole_135 dX12_isWhole_138 dX12_isWhole_139 dX12_isWhole_142 (by decide) (by decide) ?_
              rw [show (if σ 31 m = nI a then (1 : Int32) else 0) = nI (if chP σ n a m = true then 1 else 0) by rw [e1, ← nI_sel]; simp]
              refine st_iadd hc dX12_isWhole_143 ?_
              first
               | rw [nI_add, ← hs]
               | rw [show (0 : Int32) = nI 0 from rfl, nI_add, show cnt m (chP σ n a) + 0 = cnt (m + 1) (chP σ n a) by rw [hs]; rfl]
              refine st_istore_n hc dX12_isWhole_144 rfl (by decide) rfl ?_
              refine st_inc hc dX12_isWhole_145 rfl (by decide) rfl ?_
              rw [nI_1]
              refine st_goto (tgt := 106) hc dX12_isWhole_148 (by decide) ?_
              exact ih2
      refine st_iload_n hc dX12_isWhole_95 rfl rfl ?_
      refine st_bipush (v := 60) hc dX12_isWhole_96 (by decide) ?_
      refine st_icmp_ge (tgt := 169) hc dX12_isWhole_98 (by decide) (fun h98 => ?_) (fun h98 => ?_)
      · exact absurd h98 (nI_ge (b := 60) ha (by omega))
      · refine st_iconst (v := 0) hc dX12_isWhole_101 (by decide) ?_
        refine st_istore_n hc dX12_isWhole_102 rfl (by decide) rfl ?_
        refine st_iconst (v := 1) hc dX12_isWhole_103 (by decide) ?_
        refine st_istore hc dX12_isWhole_104 (by decide) rfl ?_
        exact st_lvq _ (by simp [lvq, List.set, nI_0]; rfl) k106
  have k23 : ∀ w v, (∀ a, a < 60 → v a = 0) → aW g YM 5 Q 23 [some (.ref 0), some (.int (nI n)), some (.int (nI 0)), none, none] [] (jS σ F w v) := by
    intro w1 v1 hv1
    refine lpN (n := lm σ) (F := fun k => ∀ w v, (∀ a, a < 60 → v a = bI (hasB σ n a k)) → aW g YM 5 Q 23 [some (.ref 0), some (.int (nI n)), some (.int (nI k)), none, none] [] (jS σ F w v)) ?_ (fun k hk ih => ?_) w1 v1 (fun a ha => hv1 a ha)
    · intro w v hv
      refine st_iload_n hc dX12_isWhole_23 rfl rfl ?_
      refine st_aload_n hc dX12_isWhole_24 rfl rfl ?_
      refine st_getE hc dX12_isWhole_25 flX12_164 rfl rfl (show _ = nI (lm σ) from rfl) ?_
      refine st_icmp_ge (tgt := 80) hc dX12_isWhole_28 (by decide) (fun h28 => ?_) (fun h28 => ?_)
      · refine st_aload_n hc dX12_isWhole_80 rfl rfl ?_
        refine st_getr hc dX12_isWhole_81 flX12_121 rfl rfl ?_
        refine st_bipush (v := 10) hc dX12_isWhole_84 (by decide) ?_
        refine st_aload_n hc dX12_isWhole_86 rfl rfl ?_
        refine st_getE hc dX12_isWhole_87 flX12_7 rfl rfl (hP) ?_
        refine st_imul hc dX12_isWhole_90 ?_
        refine st_iconst (v := 0) hc dX12_isWhole_91 (by decide) ?_
        refine st_iastN (k := 10 * pN σ) hc dX12_isWhole_92 rfl (by rw [show (10 : Int32) = nI 10 from rfl, pk_mul]) (by omega) (by decide)  ?_
        rw [vu_up]
        refine st_iconst (v := 0) hc dX12_isWhole_93 (by decide) ?_
        refine st_istore_n hc dX12_isWhole_94 rfl (by decide) rfl ?_
        refine st_lvq _ (by simp [lvq, List.set, nI_0]) (k95 w _ (fun a ha => ?_))
        by_cases q : a = 10 * pN σ
        · subst q; rw [upd_s]; unfold hasG; simp [bI]
        · have q3 : (a == 10 * pN σ) = false := beq_eq_false_iff_ne.mpr q
          rw [upd_n q, hv a ha]; unfold hasG; rw [q3]; rfl
      · exact absurd (nI_le (Nat.le_refl _) (by omega)) h28
    · intro w v hv
      have hl := lth_lt hk
      have hE := jS_E σ F w v
      have hmS : mOK (jS σ F w v) (pN σ) (cN σ) (nN σ) (tN σ) (liN σ) := hm
      have hpS : plOK (jS σ F w v) := hp
      have ha50 : ∀ x c, cA2 σ x c ≤ 10 * pN σ := fun x c => ans_50 hP5 _ c
      have e0 : ∀ a, hasB σ n a (k + 1) = (hasB σ n a k || (meant σ (lth σ k) n && cA2 σ (pg σ n) (lth σ k) == a)) := fun a => rfl
      refine st_iload_n hc dX12_isWhole_23 rfl rfl ?_
      refine st_aload_n hc dX12_isWhole_24 rfl rfl ?_
      refine st_getE hc dX12_isWhole_25 flX12_164 rfl rfl (show _ = nI (lm σ) from rfl) ?_
      refine st_icmp_ge (tgt := 80) hc dX12_isWhole_28 (by decide) (fun h28 => ?_) (fun h28 => ?_)
      · exact absurd h28 (nI_ge hk (by omega))
      · refine st_aload_n hc dX12_isWhole_31 rfl rfl ?_
        refine st_aload_n hc dX12_isWhole_32 rfl rfl ?_
        refine st_getr hc dX12_isWhole_33 flX12_42 rfl rfl ?_
        refine st_iload_n hc dX12_isWhole_36 rfl rfl ?_
        refine st_ialdN (k := k) hc dX12_isWhole_37 rfl (rfl) (by omega) (by decide) (hF k hk) ?_
        refine st_iload_n hc dX12_isWhole_38 rfl rfl ?_
        refine st_callVq hc dX12_isWhole_39 (C12_isMeant d (jS σ F w v) hmS hpS (lth σ k) n (by omega) hn) mvX12_260 (by omega) rfl rfl rfl (Nat.le_of_ble_eq_true rfl) ?_
        rintro _ ⟨w2, rfl⟩
        rw [show va_up (jS σ F w v) 6 w2 = jS σ F w2 v by unfold jS; rw [vu_cm (by decide), vu_vu], show meant (jS σ F w v) (lth σ k) n = meant σ (lth σ k) n from mea_sE hE _ _ _]
        refine st_if_ne (tgt := 48) hc dX12_isWhole_42 (by decide) (fun h42 => ?_) (fun h42 => ?_)
        · have em : meant σ (lth σ k) n = true := by rcases hb : meant σ (lth σ k) n with _ | _; exact absurd (bI_0.mpr hb) h42; rfl
          refine st_aload_n hc dX12_isWhole_48 rfl rfl ?_
          refine st_aload_n hc dX12_isWhole_49 rfl rfl ?_
          refine st_getr hc dX12_isWhole_50 flX12_118 rfl rfl ?_
          refine st_iload_n hc dX12_isWhole_53 rfl rfl ?_
          refine st_ialdN (k := n) hc dX12_isWhole_54 rfl (rfl) (by omega) (by decide) (eg) ?_
          refine st_callVn hc dX12_isWhole_55 (C12_guessCode d (jS σ F w2 v) (P := pN σ) (C := cN σ) hpc (pg σ n) (by omega)) mvX12_214 (by omega) rfl rfl rfl (Nat.le_of_ble_eq_true rfl) ?_
          rintro _ ⟨w3, hw3, rfl⟩
          rw [show va_up (jS σ F w2 v) 6 w3 = jS σ F w3 v by unfold jS; rw [vu_cm (by decide), vu_vu]]
          refine st_aload_n hc dX12_isWhole_58 rfl rfl ?_
          refine st_getr hc dX12_isWhole_59 flX12_121 rfl rfl ?_
          refine st_aload_n hc dX12_isWhole_62 rfl rfl ?_
          refine st_aload_n hc dX12_isWhole_63 rfl rfl ?_
          refine st_getr hc dX12_isWhole_64 flX12_42 rfl rfl ?_
          refine st_iload_n hc dX12_isWhole_67 rfl rfl ?_
          refine st_ialdN (k := k) hc dX12_isWhole_68 rfl (rfl) (by omega) (by decide) (hF k hk) ?_
          refine st_callVp hc dX12_isWhole_69 (C12_answers d (jS σ F w3 v) (P := pN σ) (C := cN σ) hpc (lth σ k) (by omega)) mvX12_160 (by omega) rfl rfl rfl (Nat.le_of_ble_eq_true rfl) ?_
          rw [show jS σ F w3 v 6 = w3 from rfl, ans_congr hw3]
          refine st_iconst (v := 1) hc dX12_isWhole_72 (by decide) ?_
          refine st_iastN (k := cA2 σ (pg σ n) (lth σ k)) hc dX12_isWhole_73 rfl (rfl) (by have := ha50 (pg σ n) (lth σ k); omega) (by decide)  ?_
          rw [vu_up]
          refine st_inc hc dX12_isWhole_74 rfl (by decide) rfl ?_
          rw [nI_1]
          refine st_goto (tgt := 23) hc dX12_isWhole_77 (by decide) ?_
          first
           | (refine st_lvq _ (by simp [lvq, List.set]) (ih w2 v (fun a ha => ?_))
              rw [hv a ha, e0, em]; simp; done)
           | (refine st_lvq _ (by simp [lvq, List.set]) (ih w3 _ (fun a ha => ?_))
              rw [e0, em, Bool.true_and]
              by_cases q : a = cA2 σ (pg σ n) (lth σ k)
              · rw [q, upd_s]; simp [bI]
              · have q2 : ¬ cA2 σ (pg σ n) (lth σ k) = a := fun z => q z.symm
                have q3 : (cA2 σ (pg σ n) (lth σ k) == a) = false := beq_eq_false_iff_ne.mpr q2
                rw [upd_n q, hv a ha, q3, Bool.or_false])
        · have em := bI_0.mp h42
          refine st_goto (tgt := 74) hc dX12_isWhole_45 (by decide) ?_
          refine st_inc hc dX12_isWhole_74 rfl (by decide) rfl ?_
          rw [nI_1]
          refine st_goto (tgt := 23) hc dX12_isWhole_77 (by decide) ?_
          first
           | (refine st_lvq _ (by simp [lvq, List.set]) (ih w2 v (fun a ha => ?_))
              rw [hv a ha, e0, em]; simp; done)
           | (refine st_lvq _ (by simp [lvq, List.set]) (ih w3 _ (fun a ha => ?_))
              rw [e0, em, Bool.true_and]
              by_cases q : a = cA2 σ (pg σ n) (lth σ k)
              · rw [q, upd_s]; simp [bI]
              · have q2 : ¬ cA2 σ (pg σ n) (lth σ k) = a := fun z => q z.symm
                have q3 : (cA2 σ (pg σ n) (lth σ k) == a) = false := beq_eq_false_iff_ne.mpr q2
                rw [upd_n q, hv a ha, q3, Bool.or_false])
  have k2 : ∀ w v, aW g YM 5 Q 2 [some (.ref 0), some (.int (nI n)), some (.int (nI 0)), none, none] [] (jS σ F w v) := by
    intro w v
    have h := lpN (n := 60) (F := fun a => aW g YM 5 Q 2 [some (.ref 0), some (.int (nI n)), some (.int (nI a)), none, none] [] (jS σ F w (clr a 0 v))) ?_ (fun a ha ih => ?_)
    · rw [clr_0] at h
      exact h
    · refine st_iload_n hc dX12_isWhole_2 rfl rfl ?_
      refine st_bipush (v := 60) hc dX12_isWhole_3 (by decide) ?_
      refine st_icmp_ge (tgt := 21) hc dX12_isWhole_5 (by decide) (fun h5 => ?_) (fun h5 => ?_)
      · refine st_iconst (v := 0) hc dX12_isWhole_21 (by decide) ?_
        refine st_istore_n hc dX12_isWhole_22 rfl (by decide) rfl ?_
        exact st_lvq _ (by simp [lvq, List.set, nI_0]) (k23 w _ (fun a ha => if_pos ha))
      · exact absurd (by decide) h5
    · refine st_iload_n hc dX12_isWhole_2 rfl rfl ?_
      refine st_bipush (v := 60) hc dX12_isWhole_3 (by decide) ?_
      refine st_icmp_ge (tgt := 21) hc dX12_isWhole_5 (by decide) (fun h5 => ?_) (fun h5 => ?_)
      · exact absurd h5 (nI_ge (b := 60) ha (by omega))
      · refine st_aload_n hc dX12_isWhole_8 rfl rfl ?_
        refine st_getr hc dX12_isWhole_9 flX12_121 rfl rfl ?_
        refine st_iload_n hc dX12_isWhole_12 rfl rfl ?_
        refine st_iconst (v := 0) hc dX12_isWhole_13 (by decide) ?_
        refine st_iastN (k := a) hc dX12_isWhole_14 rfl (rfl) (by omega) (by decide)  ?_
        rw [vu_up, clr_s]
        refine st_inc hc dX12_isWhole_15 rfl (by decide) rfl ?_
        rw [nI_1]
        refine st_goto (tgt := 2) hc dX12_isWhole_18 (by decide) ?_
        exact ih
  refine st_iconst (v := 0) hc dX12_isWhole_0 (by decide) ?_
  refine st_istore_n hc dX12_isWhole_1 rfl (by decide) rfl ?_
  exact st_lvq _ (by simp [lvq, List.set, nI_0]) (k2 w0 v0)
theorem C12_isWhole (d : Nat) (σ : St) (hm : mOK σ (pN σ) (cN σ) (nN σ) (tN σ) (liN σ)) (hp : plOK σ) (F : Nat → Int32) (hF : ∀ k, k < lm σ → F k = nI (lth σ k)) (w0 v0 : Nat → Int32) (n : Nat) (hn : n < plN σ) : Mt YM mX12_isWhole (d + 3) [.ref 0, .int (nI n)] (jS σ F w0 v0) (fun r τ => r = some (.int (bI (wholeB σ n))) ∧ ∃ w v, τ = jS σ F w v) :=
  Mt.ofA [some (.ref 0), some (.int (nI n)), none, none, none] (by decide) (fun _ => Nat.le_of_ble_eq_true rfl) (fun _ => rfl) (fun _ hc => W12_isWhole hc hm hp hF hn (fun w v => ⟨rfl, w, v, rfl⟩) w0 v0)
/-- the first node that isn't whole -/
abbrev nw (σ : St) : Nat → Bool := fun n => !wholeB σ n
def judS (σ : St) : Int32 :=
  if plN σ = 0 ∨ lm σ = 0 then -1 else if ¬ σ 0 5 = 0 then -6 else if 0 < cnt (plN σ) (nw σ) then -20 - nI (nthT (plN σ) (nw σ) 0) else nI (mxN (plN σ) (dpt σ 40))
theorem cnt0 {n : Nat} {p : Nat → Bool} (h : ∀ i, i < n → p i = false) : cnt n p = 0 := by
  induction n with
  | zero => rfl
  | succ n ih => rw [cnt, ih (fun i hi => h i (by omega)), h n (by omega)]; rfl
theorem W12_judged {g : Gx} {d : Nat} {σ : St} {Q : Option Value → St → Prop} (hc : cX g YM RX12 cX12_judged 5 (some .int) (d + 4)) (hm : mOK σ (pN σ) (cN σ) (nN σ) (tN σ) (liN σ)) (hp : plOK σ) (hQ : ∀ F w v, (∀ k, k < lm σ → F k = nI (lth σ k)) → Q (some (.int (judS σ))) (jS σ F w v)) : aW g YM 5 Q 0 [some (.ref 0), none, none, none, none] [] σ := by
  obtain ⟨hpc, h2, h3, h4, hT, hT2, hLi, hL2, hls⟩ := id hm
  obtain ⟨hp0, hp40, hpl⟩ := id hp
  have e43 : σ 0 43 = nI (plN σ) := (nI_nat hp0).symm
  have hlm : lm σ ≤ 4096 := Nat.le_trans (cnt_le _ _) h4
  have hd41 : ∀ n, dpt σ 40 n ≤ 41 := fun n => dpt_le σ 40 n
  have k76 : ∀ (S : St) (x y : Int32) (f : Nat), S 30 = σ 30 → ∀ k dd, k ≤ f → k < plN σ → aW g YM 5 Q 96 [some (.ref 0), some (.int x), some (.int y), some (.int (nI (dd + dpt σ f k - 1))), none] [] S → f ≤ 40 → aW g YM 5 Q 76 [some (.ref 0), some (.int x), some (.int y), some (.int (nI dd)), some (.int (nI k))] [] S := by
    intro S x y f hS
    induction f with
    | zero =>
      intro k dd hk hkp h hf
      have : k = 0 := by omega
      subst this
      rw [show dd + dpt σ 0 0 - 1 = dd from rfl] at h
      refine st_iload hc dX12_judged_76 rfl ?_
      refine st_if_le (tgt := 96) hc dX12_judged_78 (by decide) (fun h78 => ?_) (fun h78 => ?_)
      · exact st_lvq _ (by simp [lvq]) h
      · exact absurd (by decide) h78
    | succ f ih =>
      intro k dd hk hkp h hf
      by_cases e : k = 0
      · subst e
        rw [show dd + dpt σ (f + 1) 0 - 1 = dd from rfl] at h
        refine st_iload hc dX12_judged_76 rfl ?_
        refine st_if_le (tgt := 96) hc dX12_judged_78 (by decide) (fun h78 => ?_) (fun h78 => ?_)
        · exact st_lvq _ (by simp [lvq]) h
        · exact absurd (by decide) h78
      · have ed : dpt σ (f + 1) k = dpt σ f (pf σ k) + 1 := by rw [dpt]; rw [if_neg e]
        have hd1 : 1 ≤ dpt σ f (pf σ k) := by cases f with | zero => exact Nat.le_refl _ | succ f => unfold dpt; split <;> omega
        obtain ⟨-, hpn⟩ := hpl k hkp
        obtain ⟨⟨hf0, hfn⟩, -⟩ := hpn (by omega)
        have ef : σ 30 k = nI (pf σ k) := (nI_nat hf0).symm
        rw [ed, show dd + (dpt σ f (pf σ k) + 1) - 1 = (dd + 1) + dpt σ f (pf σ k) - 1 by omega] at h
        refine st_iload hc dX12_judged_76 rfl ?_
        refine st_if_le (tgt := 96) hc dX12_judged_78 (by decide) (fun h78 => ?_) (fun h78 => ?_)
        · exact absurd h78 (nI_nle (by omega) (by omega))
        · refine st_inc hc dX12_judged_81 rfl (by decide) rfl ?_
          rw [nI_1]
          refine st_aload_n hc dX12_judged_84 rfl rfl ?_
          refine st_getr hc dX12_judged_85 flX12_112 rfl rfl ?_
          refine st_iload hc dX12_judged_88 rfl ?_
          refine st_ialdN (k := k) hc dX12_judged_90 rfl (rfl) (by omega) (by decide) ((congrFun hS k).trans ef) ?_
          refine st_istore hc dX12_judged_91 (by decide) rfl ?_
          refine st_goto (tgt := 76) hc dX12_judged_93 (by decide) ?_
          exact ih (pf σ k) (dd + 1) (by omega) (by omega) h (by omega)
  have k63 : ∀ F w v, (∀ k, k < lm σ → F k = nI (lth σ k)) → judS σ = nI (mxN (plN σ) (dpt σ 40)) → aW g YM 5 Q 63 [some (.ref 0), some (.int (nI 0)), some (.int (nI 0)), none, none] [] (jS σ F w v) := by
    intro F w v hF es
    refine lpN (n := plN σ) (F := fun n => aW g YM 5 Q 63 [some (.ref 0), some (.int (nI (mxN n (dpt σ 40)))), some (.int (nI n)), none, none] [] (jS σ F w v)) ?_ (fun n hn ih => ?_)
    · refine st_iload_n hc dX12_judged_63 rfl rfl ?_
      refine st_aload_n hc dX12_judged_64 rfl rfl ?_
      refine st_getE hc dX12_judged_65 flX12_189 rfl rfl (e43) ?_
      refine st_icmp_ge (tgt := 113) hc dX12_judged_68 (by decide) (fun h68 => ?_) (fun h68 => ?_)
      · refine st_iload_n hc dX12_judged_113 rfl rfl ?_
        refine st_iret (st := []) hc dX12_judged_114 rfl ?_
        rw [← es]; exact hQ F w v hF
      · exact absurd (nI_le (Nat.le_refl _) (by omega)) h68
    · have hmx : mxN n (dpt σ 40) ≤ 41 := mxN_le (fun i _ => hd41 i)
      have hdn := hd41 n
      have e : mxN (n + 1) (dpt σ 40) = if mxN n (dpt σ 40) < dpt σ 40 n then dpt σ 40 n else mxN n (dpt σ 40) := rfl
      have k96 : aW g YM 5 Q 96 [some (.ref 0), some (.int (nI (mxN n (dpt σ 40)))), some (.int (nI n)), some (.int (nI (1 + dpt σ 40 n - 1))), none] [] (jS σ F w v) := by
        rw [show 1 + dpt σ 40 n - 1 = dpt σ 40 n by omega]
        refine st_iload_n hc dX12_judged_96 rfl rfl ?_
        refine st_iload_n hc dX12_judged_97 rfl rfl ?_
        refine st_icmp_le (tgt := 105) hc dX12_judged_98 (by decide) (fun h98 => ?_) (fun h98 => ?_)
        · rw [if_neg (Nat.not_lt.mpr ((nI_leI (by omega) (by omega)).mp h98))] at e
          refine st_iload_n hc dX12_judged_105 rfl rfl ?_
          refine st_istore_n hc dX12_judged_106 rfl (by decide) rfl ?_
          refine st_inc hc dX12_judged_107 rfl (by decide) rfl ?_
          rw [nI_1]
          refine st_goto (tgt := 63) hc dX12_judged_110 (by decide) ?_
          rw [e] at ih
          exact st_lvq _ (by simp [lvq, List.set]) ih
        · rw [if_pos (Nat.lt_of_not_le (fun q => h98 (nI_le q (by omega))))] at e
          refine st_iload_n hc dX12_judged_101 rfl rfl ?_
          refine st_goto (tgt := 106) hc dX12_judged_102 (by decide) ?_
          refine st_istore_n hc dX12_judged_106 rfl (by decide) rfl ?_
          refine st_inc hc dX12_judged_107 rfl (by decide) rfl ?_
          rw [nI_1]
          refine st_goto (tgt := 63) hc dX12_judged_110 (by decide) ?_
          rw [e] at ih
          exact st_lvq _ (by simp [lvq, List.set]) ih
      refine st_iload_n hc dX12_judged_63 rfl rfl ?_
      refine st_aload_n hc dX12_judged_64 rfl rfl ?_
      refine st_getE hc dX12_judged_65 flX12_189 rfl rfl (e43) ?_
      refine st_icmp_ge (tgt := 113) hc dX12_judged_68 (by decide) (fun h68 => ?_) (fun h68 => ?_)
      · exact absurd h68 (nI_ge hn (by omega))
      · refine st_iconst (v := 1) hc dX12_judged_71 (by decide) ?_
        refine st_istore_n hc dX12_judged_72 rfl (by decide) rfl ?_
        refine st_iload_n hc dX12_judged_73 rfl rfl ?_
        refine st_istore hc dX12_judged_74 (by decide) rfl ?_
        exact k76 (jS σ F w v) _ _ 40 rfl n 1 (by omega) hn k96 (by omega)
  have k32 : ∀ F w v, (∀ k, k < lm σ → F k = nI (lth σ k)) → ¬ (plN σ = 0 ∨ lm σ = 0) → σ 0 5 = 0 → aW g YM 5 Q 32 [some (.ref 0), some (.int (nI 0)), none, none, none] [] (jS σ F w v) := by
    intro F w1 v1 hF hno h5
    have hno5 : ¬ ¬ σ 0 5 = 0 := fun q => q h5
    refine lpN (n := plN σ) (F := fun n => (∀ i, i < n → nw σ i = false) → ∀ w v, aW g YM 5 Q 32 [some (.ref 0), some (.int (nI n)), none, none, none] [] (jS σ F w v)) ?_ (fun n hn ih => ?_) (fun i hi => absurd hi (Nat.not_lt_zero i)) w1 v1
    · intro hall w v
      have es : judS σ = nI (mxN (plN σ) (dpt σ 40)) := by
        unfold judS
        rw [if_neg hno, if_neg hno5, cnt0 hall, if_neg (Nat.lt_irrefl 0)]
      refine st_iload_n hc dX12_judged_32 rfl rfl ?_
      refine st_aload_n hc dX12_judged_33 rfl rfl ?_
      refine st_getE hc dX12_judged_34 flX12_189 rfl rfl (e43) ?_
      refine st_icmp_ge (tgt := 59) hc dX12_judged_37 (by decide) (fun h37 => ?_) (fun h37 => ?_)
      · refine st_iconst (v := 0) hc dX12_judged_59 (by decide) ?_
        refine st_istore_n hc dX12_judged_60 rfl (by decide) rfl ?_
        refine st_iconst (v := 0) hc dX12_judged_61 (by decide) ?_
        refine st_istore_n hc dX12_judged_62 rfl (by decide) rfl ?_
        exact st_lvq _ (by simp [lvq, List.set, nI_0]) (k63 F w v hF es)
      · exact absurd (nI_le (Nat.le_refl _) (by omega)) h37
    · intro hall w v
      refine st_iload_n hc dX12_judged_32 rfl rfl ?_
      refine st_aload_n hc dX12_judged_33 rfl rfl ?_
      refine st_getE hc dX12_judged_34 flX12_189 rfl rfl (e43) ?_
      refine st_icmp_ge (tgt := 59) hc dX12_judged_37 (by decide) (fun h37 => ?_) (fun h37 => ?_)
      · exact absurd h37 (nI_ge hn (by omega))
      · refine st_aload_n hc dX12_judged_40 rfl rfl ?_
        refine st_iload_n hc dX12_judged_41 rfl rfl ?_
        refine st_callVq hc dX12_judged_42 (C12_isWhole d σ hm hp F hF w v n hn) mvX12_263 (by omega) rfl rfl rfl (Nat.le_of_ble_eq_true rfl) ?_
        rintro _ ⟨w2, v2, rfl⟩
        refine st_if_ne (tgt := 53) hc dX12_judged_45 (by decide) (fun h45 => ?_) (fun h45 => ?_)
        · have en : nw σ n = false := by
            show (!wholeB σ n) = false
            rcases hb : wholeB σ n with _ | _
            · exact absurd (bI_0.mpr hb) h45
            · rfl
          refine st_inc hc dX12_judged_53 rfl (by decide) rfl ?_
          rw [nI_1]
          refine st_goto (tgt := 32) hc dX12_judged_56 (by decide) ?_
          exact ih (fun i hi => by
            by_cases q : i = n
            · subst q; exact en
            · exact hall i (by omega)) w2 v2
        · have en : nw σ n = true := by show (!wholeB σ n) = true; rw [bI_0.mp h45]; rfl
          have es : judS σ = -20 - nI n := by
            unfold judS
            have h1 : cnt n (nw σ) = 0 := cnt0 hall
            have h2 := cnt_lt hn en
            rw [if_neg hno, if_neg hno5, if_pos (by omega), nthT_eq hn en h1]
          refine st_bipush (v := (-20)) hc dX12_judged_48 (by decide) ?_
          refine st_iload_n hc dX12_judged_50 rfl rfl ?_
          refine st_isub hc dX12_judged_51 ?_
          refine st_iret (st := []) hc dX12_judged_52 rfl ?_
          rw [← es]; exact hQ F w2 v2 hF
  refine st_aload_n hc dX12_judged_0 rfl rfl ?_
  refine st_callVn hc dX12_judged_1 (C12_look d σ hm) mvX12_208 (by omega) rfl rfl rfl (Nat.le_of_ble_eq_true rfl) ?_
  rintro _ ⟨F, w, hF, rfl⟩
  have hF := fun k (hk : k < lm σ) => nthT_at hF hk
  have ej : lkS σ (lm σ) F w = jS σ F w (σ 33) := (vu_id (σ := lkS σ (lm σ) F w) (k := 33)).symm
  rw [ej]
  refine st_aload_n hc dX12_judged_4 rfl rfl ?_
  refine st_getE hc dX12_judged_5 flX12_189 rfl rfl (e43) ?_
  refine st_if_eq (tgt := 18) hc dX12_judged_8 (by decide) (fun h8 => ?_) (fun h8 => ?_)
  · have h8 : plN σ = 0 := nI_inj (b := 0) (by omega) (by decide) h8
    refine st_iconst (v := (-1)) hc dX12_judged_18 (by decide) ?_
    refine st_iret (st := []) hc dX12_judged_19 rfl ?_
    first
     | (have es : judS σ = -1 := by unfold judS; rw [if_pos (Or.inl h8)]
        rw [← es]; exact hQ F w _ hF)
     | (have es : judS σ = -1 := by unfold judS; rw [if_pos (Or.inr h15)]
        rw [← es]; exact hQ F w _ hF)
  · have h8 : ¬ plN σ = 0 := fun q => h8 (by rw [q]; rfl)
    refine st_aload_n hc dX12_judged_11 rfl rfl ?_
    refine st_getE hc dX12_judged_12 flX12_164 rfl rfl (show _ = nI (lm σ) from rfl) ?_
    refine st_if_ne (tgt := 20) hc dX12_judged_15 (by decide) (fun h15 => ?_) (fun h15 => ?_)
    · have h15 : ¬ lm σ = 0 := fun q => h15 (by rw [q]; rfl)
      have hno : ¬ (plN σ = 0 ∨ lm σ = 0) := by rintro (q | q); exact h8 q; exact h15 q
      refine st_aload_n hc dX12_judged_20 rfl rfl ?_
      refine st_getE hc dX12_judged_21 flX12_180 rfl rfl (show _ = σ 0 5 from rfl) ?_
      refine st_if_eq (tgt := 30) hc dX12_judged_24 (by decide) (fun h24 => ?_) (fun h24 => ?_)
      · refine st_iconst (v := 0) hc dX12_judged_30 (by decide) ?_
        refine st_istore_n hc dX12_judged_31 rfl (by decide) rfl ?_
        exact st_lvq _ (by simp [lvq, List.set, nI_0]) (k32 F w _ hF hno h24)
      · have es : judS σ = -6 := by unfold judS; rw [if_neg hno, if_pos h24]
        refine st_bipush (v := (-6)) hc dX12_judged_27 (by decide) ?_
        refine st_iret (st := []) hc dX12_judged_29 rfl ?_
        rw [← es]; exact hQ F w _ hF
    · have h15 : lm σ = 0 := nI_inj (b := 0) (by omega) (by decide) h15
      refine st_iconst (v := (-1)) hc dX12_judged_18 (by decide) ?_
      refine st_iret (st := []) hc dX12_judged_19 rfl ?_
      first
       | (have es : judS σ = -1 := by unfold judS; rw [if_pos (Or.inl h8)]
          rw [← es]; exact hQ F w _ hF)
       | (have es : judS σ = -1 := by unfold judS; rw [if_pos (Or.inr h15)]
          rw [← es]; exact hQ F w _ hF)
theorem C12_judged (d : Nat) (σ : St) (hm : mOK σ (pN σ) (cN σ) (nN σ) (tN σ) (liN σ)) (hp : plOK σ) : Mt YM mX12_judged (d + 4) [.ref 0] σ (fun r τ => r = some (.int (judS σ)) ∧ ∃ F w v, (∀ k, k < lm σ → F k = nI (lth σ k)) ∧ τ = jS σ F w v) :=
  Mt.ofA [some (.ref 0), none, none, none, none] (by decide) (fun _ => Nat.le_of_ble_eq_true rfl) (fun _ => rfl) (fun _ hc => W12_judged hc hm hp (fun F w v h => ⟨rfl, F, w, v, h, rfl⟩))
def sp_judge (σ : St) : Int32 × St := (judS (t0 σ), t0 σ)
theorem C12_judge (σ : St) (hm : MI σ) (hp : plOK σ) : Mt YM mX12_judge 9 [.ref 0] σ (fun r τ => r = some (.int (sp_judge σ).1) ∧ sE (sp_judge σ).2 τ) := by
  refine Mt.ofA [some (.ref 0)] (by decide) (fun _ => Nat.le_of_ble_eq_true rfl) (fun _ => rfl) (fun g hc => ?_)
  refine st_aload_n hc dX12_judge_0 rfl rfl ?_
  refine st_iconst (v := 0) hc dX12_judge_1 (by decide) ?_
  refine st_put hc dX12_judge_2 fpX12_139 rfl rfl  ?_
  refine st_aload_n hc dX12_judge_5 rfl rfl ?_
  refine st_callVq hc dX12_judge_6 (C12_judged 3 (t0 σ) hm.1 hp) mvX12_266 (by omega) rfl rfl rfl (Nat.le_of_ble_eq_true rfl) ?_
  rintro _ ⟨F, w, v, hF, rfl⟩
  refine st_iret (st := []) hc dX12_judge_9 rfl ?_
  exact ⟨rfl, jS_E _ _ _ _⟩

