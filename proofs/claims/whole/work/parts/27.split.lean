/-! ===== trees of the reference: what is refused, and parts of a set ===== -/
def rfT (σ : St) (p : Int32) : Int32 := if ¬ (0 ≤ p ∧ p ≤ 1) then -1 else if ¬ σ 0 5 = 0 then -6 else if lm σ = 0 ∨ 10 < lm σ ∨ 1296 < nN σ then -5 else 0
/-- where nothing is refused the codes that are left stand ready -/
theorem C12_refusedTree (d : Nat) (σ : St) (hm : mOK σ (pN σ) (cN σ) (nN σ) (tN σ) (liN σ)) (p : Int32) : Mt YM mX12_refusedTree (d + 4) [.ref 0, .int p] σ (fun r τ => r = some (.int (rfT σ p)) ∧ ((sE σ τ ∧ ¬ rfT σ p = 0) ∨ ∃ F w, (∀ k, k < lm σ → F k = nI (lth σ k)) ∧ τ = lkS σ (lm σ) F w)) := by
  obtain ⟨hpc, h2, h3, h4, hT, hT2, hLi, hL2, hls⟩ := id hm
  have hlm : lm σ ≤ 4096 := Nat.le_trans (cnt_le _ _) h4
  refine Mt.ofA [some (.ref 0), some (.int p)] (by decide) (fun _ => Nat.le_of_ble_eq_true rfl) (fun _ => rfl) (fun g hc => ?_)
  refine st_iload_n hc dX12_refusedTree_0 rfl rfl ?_
  refine st_iconst (v := 0) hc dX12_refusedTree_1 (by decide) ?_
  refine st_iconst (v := 1) hc dX12_refusedTree_2 (by decide) ?_
  refine st_callSp hc dX12_refusedTree_3 (C12_in 0 _ p 0 1) msX12_142 (by omega) rfl rfl (Nat.le_of_ble_eq_true rfl) ?_
  refine st_if_ne (tgt := 11) hc dX12_refusedTree_6 (by decide) (fun h6 => ?_) (fun h6 => ?_)
  · have h6 := it1.mp h6
    have e6 : ¬ ¬ (0 ≤ p ∧ p ≤ 1) := fun q => q h6
    refine st_aload_n hc dX12_refusedTree_11 rfl rfl ?_
    refine st_getE hc dX12_refusedTree_12 flX12_180 rfl rfl rfl ?_
    refine st_if_eq (tgt := 21) hc dX12_refusedTree_15 (by decide) (fun h15 => ?_) (fun h15 => ?_)
    · have e15 : ¬ ¬ σ 0 5 = 0 := fun q => q h15
      refine st_aload_n hc dX12_refusedTree_21 rfl rfl ?_
      refine st_callVn hc dX12_refusedTree_22 (C12_look d σ hm) mvX12_208 (by omega) rfl rfl rfl (Nat.le_of_ble_eq_true rfl) ?_
      rintro _ ⟨F, w, hF, rfl⟩
      refine st_aload_n hc dX12_refusedTree_25 rfl rfl ?_
      refine st_getE hc dX12_refusedTree_26 flX12_164 rfl rfl (show _ = nI (lm σ) from rfl) ?_
      refine st_if_eq (tgt := 51) hc dX12_refusedTree_29 (by decide) (fun h29 => ?_) (fun h29 => ?_)
      · have e : lm σ = 0 ∨ 10 < lm σ ∨ 1296 < nN σ := Or.inl (nI_inj (b := 0) (by omega) (by decide) h29)
        refine st_bipush (v := (-5)) hc dX12_refusedTree_51 (by decide) ?_
        refine st_goto (tgt := 57) hc dX12_refusedTree_53 (by decide) ?_
        refine st_iret (st := []) hc dX12_refusedTree_57 rfl ?_
        refine ⟨?_, Or.inr ⟨F, w, fun k hk => nthT_at hF hk, rfl⟩⟩
        unfold rfT
        rw [if_neg e6, if_neg e15]
        first
          | rw [if_pos e]
          | rw [if_neg e]
      · have h29 : ¬ lm σ = 0 := fun q => h29 (by rw [q]; rfl)
        refine st_aload_n hc dX12_refusedTree_32 rfl rfl ?_
        refine st_getE hc dX12_refusedTree_33 flX12_164 rfl rfl (show _ = nI (lm σ) from rfl) ?_
        refine st_bipush (v := 10) hc dX12_refusedTree_36 (by decide) ?_
        refine st_icmp_gt (tgt := 51) hc dX12_refusedTree_38 (by decide) (fun h38 => ?_) (fun h38 => ?_)
        · have e : lm σ = 0 ∨ 10 < lm σ ∨ 1296 < nN σ := Or.inr (Or.inl ((nI_ltI (a := 10) (by decide) (by omega)).mp h38))
          refine st_bipush (v := (-5)) hc dX12_refusedTree_51 (by decide) ?_
          refine st_goto (tgt := 57) hc dX12_refusedTree_53 (by decide) ?_
          refine st_iret (st := []) hc dX12_refusedTree_57 rfl ?_
          refine ⟨?_, Or.inr ⟨F, w, fun k hk => nthT_at hF hk, rfl⟩⟩
          unfold rfT
          rw [if_neg e6, if_neg e15]
          first
            | rw [if_pos e]
            | rw [if_neg e]
        · have h38 : ¬ 10 < lm σ := fun q => h38 ((nI_ltI (a := 10) (by decide) (by omega)).mpr q)
          refine st_aload_n hc dX12_refusedTree_41 rfl rfl ?_
          refine st_getE hc dX12_refusedTree_42 flX12_16 rfl rfl (h2) ?_
          refine st_sipush (v := 1296) hc dX12_refusedTree_45 (by decide) ?_
          refine st_icmp_le (tgt := 56) hc dX12_refusedTree_48 (by decide) (fun h48 => ?_) (fun h48 => ?_)
          · have e : ¬ (lm σ = 0 ∨ 10 < lm σ ∨ 1296 < nN σ) := by
              rintro (q | q | q)
              · exact h29 q
              · exact h38 q
              · exact absurd ((nI_leI (b := 1296) (by omega) (by decide)).mp h48) (Nat.not_le.mpr q)
            refine st_iconst (v := 0) hc dX12_refusedTree_56 (by decide) ?_
            refine st_iret (st := []) hc dX12_refusedTree_57 rfl ?_
            refine ⟨?_, Or.inr ⟨F, w, fun k hk => nthT_at hF hk, rfl⟩⟩
            unfold rfT
            rw [if_neg e6, if_neg e15]
            first
              | rw [if_pos e]
              | rw [if_neg e]
          · have e : lm σ = 0 ∨ 10 < lm σ ∨ 1296 < nN σ := Or.inr (Or.inr (Nat.lt_of_not_le (fun q => h48 (nI_le (b := 1296) q (by decide)))))
            refine st_bipush (v := (-5)) hc dX12_refusedTree_51 (by decide) ?_
            refine st_goto (tgt := 57) hc dX12_refusedTree_53 (by decide) ?_
            refine st_iret (st := []) hc dX12_refusedTree_57 rfl ?_
            refine ⟨?_, Or.inr ⟨F, w, fun k hk => nthT_at hF hk, rfl⟩⟩
            unfold rfT
            rw [if_neg e6, if_neg e15]
            first
              | rw [if_pos e]
              | rw [if_neg e]
    · have e : rfT σ p = -6 := by unfold rfT; rw [if_neg e6, if_pos h15]
      refine st_bipush (v := (-6)) hc dX12_refusedTree_18 (by decide) ?_
      refine st_iret (st := []) hc dX12_refusedTree_20 rfl ?_
      rw [e]; exact ⟨rfl, Or.inl ⟨sE.rf, by decide⟩⟩
  · have h6 := it0.mp h6
    refine st_iconst (v := (-1)) hc dX12_refusedTree_9 (by decide) ?_
    refine st_iret (st := []) hc dX12_refusedTree_10 rfl ?_
    have e : rfT σ p = -1 := by unfold rfT; rw [if_pos h6]
    rw [e]; exact ⟨rfl, Or.inl ⟨sE.rf, by decide⟩⟩
def askT (σ : St) (p d : Int32) : Int32 := if (0 ≤ p ∧ p ≤ 1) ∧ (0 ≤ d ∧ d ≤ 20) then rfT σ p else -1
theorem C12_asked (d : Nat) (σ : St) (hm : mOK σ (pN σ) (cN σ) (nN σ) (tN σ) (liN σ)) (p x : Int32) : Mt YM mX12_asked (d + 5) [.ref 0, .int p, .int x] σ (fun r τ => r = some (.int (askT σ p x)) ∧ ((sE σ τ ∧ ¬ askT σ p x = 0) ∨ ∃ F w, (∀ k, k < lm σ → F k = nI (lth σ k)) ∧ τ = lkS σ (lm σ) F w)) := by
  refine Mt.ofA [some (.ref 0), some (.int p), some (.int x)] (by decide) (fun _ => Nat.le_of_ble_eq_true rfl) (fun _ => rfl) (fun g hc => ?_)
  refine st_iload_n hc dX12_asked_0 rfl rfl ?_
  refine st_iconst (v := 0) hc dX12_asked_1 (by decide) ?_
  refine st_iconst (v := 1) hc dX12_asked_2 (by decide) ?_
  refine st_callSp hc dX12_asked_3 (C12_in 0 _ p 0 1) msX12_142 (by omega) rfl rfl (Nat.le_of_ble_eq_true rfl) ?_
  refine st_if_eq (tgt := 27) hc dX12_asked_6 (by decide) (fun h6 => ?_) (fun h6 => ?_)
  · have h6 := it0.mp h6
    have e : askT σ p x = -1 := if_neg (fun q => h6 q.1)
    refine st_iconst (v := (-1)) hc dX12_asked_27 (by decide) ?_
    refine st_iret (st := []) hc dX12_asked_28 rfl ?_
    rw [e]
    first
      | exact ⟨rfl, hτ⟩
      | exact ⟨rfl, Or.inl ⟨sE.rf, by decide⟩⟩
  · have h6 := it1.mp h6
    refine st_iload_n hc dX12_asked_9 rfl rfl ?_
    refine st_iconst (v := 0) hc dX12_asked_10 (by decide) ?_
    refine st_bipush (v := 20) hc dX12_asked_11 (by decide) ?_
    refine st_callSp hc dX12_asked_13 (C12_in 0 _ x 0 20) msX12_142 (by omega) rfl rfl (Nat.le_of_ble_eq_true rfl) ?_
    refine st_if_eq (tgt := 27) hc dX12_asked_16 (by decide) (fun h16 => ?_) (fun h16 => ?_)
    · have h16 := it0.mp h16
      have e : askT σ p x = -1 := if_neg (fun q => h16 q.2)
      refine st_iconst (v := (-1)) hc dX12_asked_27 (by decide) ?_
      refine st_iret (st := []) hc dX12_asked_28 rfl ?_
      rw [e]
      first
        | exact ⟨rfl, hτ⟩
        | exact ⟨rfl, Or.inl ⟨sE.rf, by decide⟩⟩
    · have h16 := it1.mp h16
      have e : askT σ p x = rfT σ p := if_pos ⟨h6, h16⟩
      refine st_aload_n hc dX12_asked_19 rfl rfl ?_
      refine st_iload_n hc dX12_asked_20 rfl rfl ?_
      refine st_callVq hc dX12_asked_21 (C12_refusedTree d σ hm p) mvX12_248 (by omega) rfl rfl rfl (Nat.le_of_ble_eq_true rfl) ?_
      rintro τ hτ
      refine st_goto (tgt := 28) hc dX12_asked_24 (by decide) ?_
      refine st_iret (st := []) hc dX12_asked_28 rfl ?_
      rw [e]
      first
        | exact ⟨rfl, hτ⟩
        | exact ⟨rfl, Or.inl ⟨sE.rf, by decide⟩⟩
def rowD (x : Int32) : Int32 := if 10 < x then 0 else x
theorem C12_row (d : Nat) (σ : St) (x : Int32) : Mt YM mX12_row d [.int x] σ (fun r τ => r = some (.int (rowD x)) ∧ τ = σ) := by
  refine Mt.ofA [some (.int x)] (by decide) (fun _ => Nat.le_of_ble_eq_true rfl) (fun _ => rfl) (fun g hc => ?_)
  unfold rowD
  refine st_iload_n hc dX12_row_0 rfl rfl ?_
  refine st_bipush (v := 10) hc dX12_row_1 (by decide) ?_
  refine st_icmp_le (tgt := 10) hc dX12_row_3 (by decide) (fun h3 => ?_) (fun h3 => ?_)
  · rw [if_neg (Int32.not_lt.mpr h3)]
    refine st_iload_n hc dX12_row_10 rfl rfl ?_
    refine st_iret (st := []) hc dX12_row_11 rfl ?_
    exact ⟨rfl, rfl⟩
  · rw [if_pos (Int32.not_le.mp h3)]
    refine st_iconst (v := 0) hc dX12_row_6 (by decide) ?_
    refine st_goto (tgt := 11) hc dX12_row_7 (by decide) ?_
    refine st_iret (st := []) hc dX12_row_11 rfl ?_
    exact ⟨rfl, rfl⟩
/-- the code is the k-th left one, for some k of the set -/
def inS (n : Nat) (L : Nat → Nat) (s c : Nat) : Bool := anyN n (fun k => s.testBit k && L k == c)
theorem C12_isIn (d : Nat) (σ : St) {n : Nat} {L : Nat → Nat} (hn : σ 0 18 = nI n) (hn10 : n ≤ 10) (hL : ∀ k, k < n → σ 7 k = nI (L k) ∧ L k < 4096) (c s : Nat) (hcl : c < 4096) (hs : s < 1024) : Mt YM mX12_isIn d [.ref 0, .int (nI c), .int (nI s)] σ (fun r τ => r = some (.int (bI (inS n L s c))) ∧ τ = σ) := by
  refine Mt.ofA [some (.ref 0), some (.int (nI c)), some (.int (nI s)), none] (by decide) (fun _ => Nat.le_of_ble_eq_true rfl) (fun _ => rfl) (fun g hc => ?_)
  have k2 : aW g YM 4 (fun r τ => r = some (.int (bI (inS n L s c))) ∧ τ = σ) 2 [some (.ref 0), some (.int (nI c)), some (.int (nI s)), some (.int (nI 0))] [] σ := by
    refine lpN (n := n) (F := fun k => anyN k (fun k => s.testBit k && L k == c) = false → aW g YM 4 (fun r τ => r = some (.int (bI (inS n L s c))) ∧ τ = σ) 2 [some (.ref 0), some (.int (nI c)), some (.int (nI s)), some (.int (nI k))] [] σ) ?_ (fun k hk ih => ?_) rfl
    · intro hno
      have e : inS n L s c = false := hno
      refine st_iload_n hc dX12_isIn_2 rfl rfl ?_
      refine st_aload_n hc dX12_isIn_3 rfl rfl ?_
      refine st_getE hc dX12_isIn_4 flX12_164 rfl rfl (hn) ?_
      refine st_icmp_ge (tgt := 37) hc dX12_isIn_7 (by decide) (fun h7 => ?_) (fun h7 => ?_)
      · refine st_iconst (v := 0) hc dX12_isIn_37 (by decide) ?_
        refine st_zret (st := []) hc dX12_isIn_38 rfl (by simp) ?_
        rw [e]; exact ⟨rfl, rfl⟩
      · exact absurd (nI_le (Nat.le_refl _) (by omega)) h7
    · intro hno
      have e3 := nI_eq (show L k < 2 ^ 31 from Nat.lt_trans (hL k hk).2 (by decide)) (show c < 2 ^ 31 by omega)
      refine st_iload_n hc dX12_isIn_2 rfl rfl ?_
      refine st_aload_n hc dX12_isIn_3 rfl rfl ?_
      refine st_getE hc dX12_isIn_4 flX12_164 rfl rfl (hn) ?_
      refine st_icmp_ge (tgt := 37) hc dX12_isIn_7 (by decide) (fun h7 => ?_) (fun h7 => ?_)
      · exact absurd h7 (nI_ge hk (by omega))
      · refine st_iload_n hc dX12_isIn_10 rfl rfl ?_
        refine st_iload_n hc dX12_isIn_11 rfl rfl ?_
        refine st_ishr hc dX12_isIn_12 ?_
        refine st_iconst (v := 1) hc dX12_isIn_13 (by decide) ?_
        refine st_iand hc dX12_isIn_14 ?_
        rw [nI_bit (by omega) (by omega)]
        refine st_iconst (v := 1) hc dX12_isIn_15 (by decide) ?_
        refine st_icmp_ne (tgt := 31) hc dX12_isIn_16 (by decide) (fun h16 => ?_) (fun h16 => ?_)
        · have eb : s.testBit k = false := by
            rcases hb : s.testBit k with _ | _
            · rfl
            · rw [hb] at h16; exact absurd rfl h16
          have eN : (s.testBit k && L k == c) = false := by rw [eb]; rfl
          refine st_inc hc dX12_isIn_31 rfl (by decide) rfl ?_
          rw [nI_1]
          refine st_goto (tgt := 2) hc dX12_isIn_34 (by decide) ?_
          exact ih (by rw [anyN_s, hno, eN]; rfl)
        · have eb : s.testBit k = true := by
            rcases hb : s.testBit k with _ | _
            · rw [hb] at h16; exact absurd h16 (by decide)
            · rfl
          refine st_aload_n hc dX12_isIn_19 rfl rfl ?_
          refine st_getr hc dX12_isIn_20 flX12_42 rfl rfl ?_
          refine st_iload_n hc dX12_isIn_23 rfl rfl ?_
          refine st_ialdN (k := k) hc dX12_isIn_24 rfl (rfl) (by omega) (by first | decide | omega) ((hL k hk).1) ?_
          refine st_iload_n hc dX12_isIn_25 rfl rfl ?_
          refine st_icmp_ne (tgt := 31) hc dX12_isIn_26 (by decide) (fun h26 => ?_) (fun h26 => ?_)
          · have eN : (s.testBit k && L k == c) = false := by rw [eb, beq_eq_false_iff_ne.mpr (fun z => h26 (e3.mpr z))]; rfl
            refine st_inc hc dX12_isIn_31 rfl (by decide) rfl ?_
            rw [nI_1]
            refine st_goto (tgt := 2) hc dX12_isIn_34 (by decide) ?_
            exact ih (by rw [anyN_s, hno, eN]; rfl)
          · have e : inS n L s c = true := (anyN_iff _ _).mpr ⟨k, hk, by rw [eb, beq_iff_eq.mpr (e3.mp h26)]; rfl⟩
            refine st_iconst (v := 1) hc dX12_isIn_29 (by decide) ?_
            refine st_zret (st := []) hc dX12_isIn_30 rfl (by simp) ?_
            rw [e]; exact ⟨rfl, rfl⟩
  refine st_iconst (v := 0) hc dX12_isIn_0 (by decide) ?_
  refine st_istore_n hc dX12_isIn_1 rfl (by decide) rfl ?_
  exact st_lvq _ (by simp [lvq, List.set, nI_0]) k2
/-- the members of the set with the answer a, below k -/
def mem (s : Nat) (A : Nat → Nat) (a : Nat) : Nat → Bool := fun j => s.testBit j && A j == a
abbrev prt (s : Nat) (A : Nat → Nat) (k a : Nat) : Nat := fbits k (mem s A a)
/-- the parts so far: M of them, with the answers pa -/
def PI (s : Nat) (A : Nat → Nat) (fu k M : Nat) (pa : Nat → Nat) (w19 w20 : Nat → Int32) : Prop :=
  M ≤ k ∧ (∀ m, m < M → w20 m = nI (pa m) ∧ w19 m = nI (prt s A k (pa m)) ∧ pa m < 60 ∧ ¬ pa m = fu ∧ anyN k (mem s A (pa m)) = true) ∧ (∀ m m', m < M → m' < M → pa m = pa m' → m = m') ∧ ∀ a, ¬ a = fu → anyN k (mem s A a) = true → ∃ m, m < M ∧ pa m = a
theorem fbits_n {k : Nat} {p : Nat → Bool} (h : p k = false) : fbits (k + 1) p = fbits k p := by rw [fbits]; rw [if_neg (by rw [h]; decide)]
theorem fbits_p {k : Nat} {p : Nat → Bool} (h : p k = true) : fbits (k + 1) p = fbits k p ||| 2 ^ k := by rw [fbits]; rw [if_pos h]
theorem fbits_z {k : Nat} {p : Nat → Bool} (h : anyN k p = false) : fbits k p = 0 := by
  induction k with
  | zero => rfl
  | succ k ih =>
    rw [anyN_s, Bool.or_eq_false_iff] at h
    rw [fbits_n h.2, ih h.1]
theorem PI.skip {s : Nat} {A : Nat → Nat} {fu k M : Nat} {pa : Nat → Nat} {w19 w20 : Nat → Int32} (h : PI s A fu k M pa w19 w20) (hk : ∀ a, ¬ a = fu → mem s A a k = false) : PI s A fu (k + 1) M pa w19 w20 := by
  obtain ⟨h1, h2, h3, h4⟩ := h
  refine ⟨by omega, fun m hm => ?_, h3, fun a ha hb => ?_⟩
  · obtain ⟨a1, a2, a3, a4, a5⟩ := h2 m hm
    refine ⟨a1, ?_, a3, a4, ?_⟩
    · rw [a2]; show _ = nI (fbits (k + 1) _); rw [fbits_n (hk _ a4)]
    · rw [anyN_s, a5]; rfl
  · rw [anyN_s, hk a ha, Bool.or_false] at hb
    exact h4 a ha hb

