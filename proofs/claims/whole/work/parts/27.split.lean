/-! ===== trees of the reference: what is refused, and parts of a set ===== -/
def rfT (σ : St) (p : Int32) : Int32 := if ¬ (0 ≤ p ∧ p ≤ 1) then -1 else if ¬ σ 0 5 = 0 then -6 else if lm σ = 0 ∨ 10 < lm σ ∨ 1296 < nN σ then -5 else 0
/-- where nothing is refused the codes that are left stand ready -/
theorem C12_refusedTree (d : Nat) (σ : St) (hm : mOK σ (pN σ) (cN σ) (nN σ) (tN σ) (liN σ)) (p : Int32) : Mt YM mX12_refusedTree (d + 4) [.ref 0, .int p] σ (fun r τ => r = some (.int (rfT σ p)) ∧ ((sE σ τ ∧ ¬ rfT σ p = 0) ∨ ∃ F w, (∀ k, k < lm σ → F k = nI (lth σ k)) ∧ τ = lkS σ (lm σ) F w)) := by
  obtain ⟨hpc, h2, h3, h4, hT, hT2, hLi, hL2, hls⟩ := id hm
  have hlm : lm σ ≤ 4096 := Nat.le_trans (cnt_le _ _) h4
  refine Mt.ofA [some (.ref 0), some (.int p)] (by decide) (fun _ => Nat.le_of_ble_eq_true rfl) (fun _ => rfl) (fun g hc => ?_)
  refine st_iload_n hc dX12_refusedTree_0 rfl rfl ?_
  refine st_iconst (v := 0) hc dX12_refusedTree_1 (by decide) ?_
  refine st_iconst (v := 1) hc dX12_refusedTree_2 (by decide) ?_
  refine st_callSp hc dX12_refusedTree_3 (C12_in 0 _ p 0 1) msX12_142 (by omega) rfl rfl (Nat.le_of_ble_eq_true rfl) ?_
  refine st_if_ne (tgt := 11) hc dX12_refusedTree_6 (by decide) (fun h6 => ?_) (fun h6 => ?_)
  · have h6 := it1.mp h6
    have e6 : ¬ ¬ (0 ≤ p ∧ p ≤ 1) := fun q => q h6
    refine st_aload_n hc dX12_refusedTree_11 rfl rfl ?_
    refine st_getE hc dX12_refusedTree_12 flX12_180 rfl rfl rfl ?_
    refine st_if_eq (tgt := 21) hc dX12_refusedTree_15 (by decide) (fun h15 => ?_) (fun h15 => ?_)
    · have e15 : ¬ ¬ σ 0 5 = 0 := fun q => q h15
      refine st_aload_n hc dX12_refusedTree_21 rfl rfl ?_
      refine st_callVn hc dX12_refusedTree_22 (C12_look d σ hm) mvX12_208 (by omega) rfl rfl rfl (Nat.le_of_ble_eq_true rfl) ?_
      rintro _ ⟨F, w, hF, rfl⟩
      refine st_aload_n hc dX12_refusedTree_25 rfl rfl ?_
      refine st_getE hc dX12_refusedTree_26 flX12_164 rfl rfl (show _ = nI (lm σ) from rfl) ?_
      refine st_if_eq (tgt := 51) hc dX12_refusedTree_29 (by decide) (fun h29 => ?_) (fun h29 => ?_)
      · have e : lm σ = 0 ∨ 10 < lm σ ∨ 1296 < nN σ := Or.inl (nI_inj (b := 0) (by omega) (by decide) h29)
        refine st_bipush (v := (-5)) hc dX12_refusedTree_51 (by decide) ?_
        refine st_goto (tgt := 57) hc dX12_refusedTree_53 (by decide) ?_
        refine st_iret (st := []) hc dX12_refusedTree_57 rfl ?_
        refine ⟨?_, Or.inr ⟨F, w, fun k hk => nthT_at hF hk, rfl⟩⟩
        unfold rfT
        rw [if_neg e6, if_neg e15]
        first
          | rw [if_pos e]
          | rw [if_neg e]
      · have h29 : ¬ lm σ = 0 := fun q => h29 (by rw [q]; rfl)
        refine st_aload_n hc dX12_refusedTree_32 rfl rfl ?_
        refine st_getE hc dX12_refusedTree_33 flX12_164 rfl rfl (show _ = nI (lm σ) from rfl) ?_
        refine st_bipush (v := 10) hc dX12_refusedTree_36 (by decide) ?_
        refine st_icmp_gt (tgt := 51) hc dX12_refusedTree_38 (by decide) (fun h38 => ?_) (fun h38 => ?_)
        · have e : lm σ = 0 ∨ 10 < lm σ ∨ 1296 < nN σ := Or.inr (Or.inl ((nI_ltI (a := 10) (by decide) (by omega)).mp h38))
          refine st_bipush (v := (-5)) hc dX12_refusedTree_51 (by decide) ?_
          refine st_goto (tgt := 57) hc dX12_refusedTree_53 (by decide) ?_
          refine st_iret (st := []) hc dX12_refusedTree_57 rfl ?_
          refine ⟨?_, Or.inr ⟨F, w, fun k hk => nthT_at hF hk, rfl⟩⟩
          unfold rfT
          rw [if_neg e6, if_neg e15]
          first
            | rw [if_pos e]
            | rw [if_neg e]
        · have h38 : ¬ 10 < lm σ := fun q => h38 ((nI_ltI (a := 10) (by decide) (by omega)).mpr q)
          refine st_aload_n hc dX12_refusedTree_41 rfl rfl ?_
          refine st_getE hc dX12_refusedTree_42 flX12_16 rfl rfl (h2) ?_
          refine st_sipush (v := 1296) hc dX12_refusedTree_45 (by decide) ?_
          refine st_icmp_le (tgt := 56) hc dX12_refusedTree_48 (by decide) (fun h48 => ?_) (fun h48 => ?_)
          · have e : ¬ (lm σ = 0 ∨ 10 < lm σ ∨ 1296 < nN σ) := by
              rintro (q | q | q)
              · exact h29 q
              · exact h38 q
              · exact absurd ((nI_leI (b := 1296) (by omega) (by decide)).mp h48) (Nat.not_le.mpr q)
            refine st_iconst (v := 0) hc dX12_refusedTree_56 (by decide) ?_
            refine st_iret (st := []) hc dX12_refusedTree_57 rfl ?_
            refine ⟨?_, Or.inr ⟨F, w, fun k hk => nthT_at hF hk, rfl⟩⟩
            unfold rfT
            rw [if_neg e6, if_neg e15]
            first
              | rw [if_pos e]
              | rw [if_neg e]
          · have e : lm σ = 0 ∨ 10 < lm σ ∨ 1296 < nN σ := Or.inr (Or.inr (Nat.lt_of_not_le (fun q => h48 (nI_le (b := 1296) q (by decide)))))
            refine st_bipush (v := (-5)) hc dX12_refusedTree_51 (by decide) ?_
            refine st_goto (tgt := 57) hc dX12_refusedTree_53 (by decide) ?_
            refine st_iret (st := []) hc dX12_refusedTree_57 rfl ?_
            refine ⟨?_, Or.inr ⟨F, w, fun k hk => nthT_at hF hk, rfl⟩⟩
            unfold rfT
            rw [if_neg e6, if_neg e15]
            first
              | rw [if_pos e]
              | rw [if_neg e]
    · have e : rfT σ p = -6 := by unfold rfT; rw [if_neg e6, if_pos h15]
      refine st_bipush (v := (-6)) hc dX12_refusedTree_18 (by decide) ?_
      refine st_iret (st := []) hc dX12_refusedTree_20 rfl ?_
      rw [e]; exact ⟨rfl, Or.inl ⟨sE.rf, by decide⟩⟩
  · have h6 := it0.mp h6
    refine st_iconst (v := (-1)) hc dX12_refusedTree_9 (by decide) ?_
    refine st_iret (st := []) hc dX12_refusedTree_10 rfl ?_
    have e : rfT σ p = -1 := by unfold rfT; rw [if_pos h6]
    rw [e]; exact ⟨rfl, Or.inl ⟨sE.rf, by decide⟩⟩
def askT (σ : St) (p d : Int32) : Int32 := if (0 ≤ p ∧ p ≤ 1) ∧ (0 ≤ d ∧ d ≤ 20) then rfT σ p else -1
theorem C12_asked (d : Nat) (σ : St) (hm : mOK σ (pN σ) (cN σ) (nN σ) (tN σ) (liN σ)) (p x : Int32) : Mt YM mX12_asked (d + 5) [.ref 0, .int p, .int x] σ (fun r τ => r = some (.int (askT σ p x)) ∧ ((sE σ τ ∧ ¬ askT σ p x = 0) ∨ ∃ F w, (∀ k, k < lm σ → F k = nI (lth σ k)) ∧ τ = lkS σ (lm σ) F w)) := by
  refine Mt.ofA [some (.ref 0), some (.int p), some (.int x)] (by decide) (fun _ => Nat.le_of_ble_eq_true rfl) (fun _ => rfl) (fun g hc => ?_)
  refine st_iload_n hc dX12_asked_0 rfl rfl ?_
  refine st_iconst (v := 0) hc dX12_asked_1 (by decide) ?_
  refine st_iconst (v := 1) hc dX12_asked_2 (by decide) ?_
  refine st_callSp hc dX12_asked_3 (C12_in 0 _ p 0 1) msX12_142 (by omega) rfl rfl (Nat.le_of_ble_eq_true rfl) ?_
  refine st_if_eq (tgt := 27) hc dX12_asked_6 (by decide) (fun h6 => ?_) (fun h6 => ?_)
  · have h6 := it0.mp h6
    have e : askT σ p x = -1 := if_neg (fun q => h6 q.1)
    refine st_iconst (v := (-1)) hc dX12_asked_27 (by decide) ?_
    refine st_iret (st := []) hc dX12_asked_28 rfl ?_
    rw [e]
    first
      | exact ⟨rfl, hτ⟩
      | exact ⟨rfl, Or.inl ⟨sE.rf, by decide⟩⟩
  · have h6 := it1.mp h6
    refine st_iload_n hc dX12_asked_9 rfl rfl ?_
    refine st_iconst (v := 0) hc dX12_asked_10 (by decide) ?_
    refine st_bipush (v := 20) hc dX12_asked_11 (by decide) ?_
    refine st_callSp hc dX12_asked_13 (C12_in 0 _ x 0 20) msX12_142 (by omega) rfl rfl (Nat.le_of_ble_eq_true rfl) ?_
    refine st_if_eq (tgt := 27) hc dX12_asked_16 (by decide) (fun h16 => ?_) (fun h16 => ?_)
    · have h16 := it0.mp h16
      have e : askT σ p x = -1 := if_neg (fun q => h16 q.2)
      refine st_iconst (v := (-1)) hc dX12_asked_27 (by decide) ?_
      refine st_iret (st := []) hc dX12_asked_28 rfl ?_
      rw [e]
      first
        | exact ⟨rfl, hτ⟩
        | exact ⟨rfl, Or.inl ⟨sE.rf, by decide⟩⟩
    · have h16 := it1.mp h16
      have e : askT σ p x = rfT σ p := if_pos ⟨h6, h16⟩
      refine st_aload_n hc dX12_asked_19 rfl rfl ?_
      refine st_iload_n hc dX12_asked_20 rfl rfl ?_
      refine st_callVq hc dX12_asked_21 (C12_refusedTree d σ hm p) mvX12_248 (by omega) rfl rfl rfl (Nat.le_of_ble_eq_true rfl) ?_
      rintro τ hτ
      refine st_goto (tgt := 28) hc dX12_asked_24 (by decide) ?_
      refine st_iret (st := []) hc dX12_asked_28 rfl ?_
      rw [e]
      first
        | exact ⟨rfl, hτ⟩
        | exact ⟨rfl, Or.inl ⟨sE.rf, by decide⟩⟩
def rowD (x : Int32) : Int32 := if 10 < x then 0 else x
theorem C12_row (d : Nat) (σ : St) (x : Int32) : Mt YM mX12_row d [.int x] σ (fun r τ => r = some (.int (rowD x)) ∧ τ = σ) := by
  refine Mt.ofA [some (.int x)] (by decide) (fun _ => Nat.le_of_ble_eq_true rfl) (fun _ => rfl) (fun g hc => ?_)
  unfold rowD
  refine st_iload_n hc dX12_row_0 rfl rfl ?_
  refine st_bipush (v := 10) hc dX12_row_1 (by decide) ?_
  refine st_icmp_le (tgt := 10) hc dX12_row_3 (by decide) (fun h3 => ?_) (fun h3 => ?_)
  · rw [if_neg (Int32.not_lt.mpr h3)]
    refine st_iload_n hc dX12_row_10 rfl rfl ?_
    refine st_iret (st := []) hc dX12_row_11 rfl ?_
    exact ⟨rfl, rfl⟩
  · rw [if_pos (Int32.not_le.mp h3)]
    refine st_iconst (v := 0) hc dX12_row_6 (by decide) ?_
    refine st_goto (tgt := 11) hc dX12_row_7 (by decide) ?_
    refine st_iret (st := []) hc dX12_row_11 rfl ?_
    exact ⟨rfl, rfl⟩
/-- the code is the k-th left one, for some k of the set -/
def inS (n : Nat) (L : Nat → Nat) (s c : Nat) : Bool := anyN n (fun k => s.testBit k && L k == c)
theorem C12_isIn (d : Nat) (σ : St) {n : Nat} {L : Nat → Nat} (hn : σ 0 18 = nI n) (hn10 : n ≤ 10) (hL : ∀ k, k < n → σ 7 k = nI (L k) ∧ L k < 4096) (c s : Nat) (hcl : c < 4096) (hs : s < 1024) : Mt YM mX12_isIn d [.ref 0, .int (nI c), .int (nI s)] σ (fun r τ => r = some (.int (bI (inS n L s c))) ∧ τ = σ) := by
  refine Mt.ofA [some (.ref 0), some (.int (nI c)), some (.int (nI s)), none] (by decide) (fun _ => Nat.le_of_ble_eq_true rfl) (fun _ => rfl) (fun g hc => ?_)
  have k2 : aW g YM 4 (fun r τ => r = some (.int (bI (inS n L s c))) ∧ τ = σ) 2 [some (.ref 0), some (.int (nI c)), some (.int (nI s)), some (.int (nI 0))] [] σ := by
    refine lpN (n := n) (F := fun k => anyN k (fun k => s.testBit k && L k == c) = false → aW g YM 4 (fun r τ => r = some (.int (bI (inS n L s c))) ∧ τ = σ) 2 [some (.ref 0), some (.int (nI c)), some (.int (nI s)), some (.int (nI k))] [] σ) ?_ (fun k hk ih => ?_) rfl
    · intro hno
      have e : inS n L s c = false := hno
      refine st_iload_n hc dX12_isIn_2 rfl rfl ?_
      refine st_aload_n hc dX12_isIn_3 rfl rfl ?_
      refine st_getE hc dX12_isIn_4 flX12_164 rfl rfl (hn) ?_
      refine st_icmp_ge (tgt := 37) hc dX12_isIn_7 (by decide) (fun h7 => ?_) (fun h7 => ?_)
      · refine st_iconst (v := 0) hc dX12_isIn_37 (by decide) ?_
        refine st_zret (st := []) hc dX12_isIn_38 rfl (by simp) ?_
        rw [e]; exact ⟨rfl, rfl⟩
      · exact absurd (nI_le (Nat.le_refl _) (by omega)) h7
    · intro hno
      have e3 := nI_eq (show L k < 2 ^ 31 from Nat.lt_trans (hL k hk).2 (by decide)) (show c < 2 ^ 31 by omega)
      refine st_iload_n hc dX12_isIn_2 rfl rfl ?_
      refine st_aload_n hc dX12_isIn_3 rfl rfl ?_
      refine st_getE hc dX12_isIn_4 flX12_164 rfl rfl (hn) ?_
      refine st_icmp_ge (tgt := 37) hc dX12_isIn_7 (by decide) (fun h7 => ?_) (fun h7 => ?_)
      · exact absurd h7 (nI_ge hk (by omega))
      · refine st_iload_n hc dX12_isIn_10 rfl rfl ?_
        refine st_iload_n hc dX12_isIn_11 rfl rfl ?_
        refine st_ishr hc dX12_isIn_12 ?_
        refine st_iconst (v := 1) hc dX12_isIn_13 (by decide) ?_
        refine st_iand hc dX12_isIn_14 ?_
        rw [nI_bit (by omega) (by omega)]
        refine st_iconst (v := 1) hc dX12_isIn_15 (by decide) ?_
        refine st_icmp_ne (tgt := 31) hc dX12_isIn_16 (by decide) (fun h16 => ?_) (fun h16 => ?_)
        · have eb : s.testBit k = false := by
            rcases hb : s.testBit k with _ | _
            · rfl
            · rw [hb] at h16; exact absurd rfl h16
          have eN : (s.testBit k && L k == c) = false := by rw [eb]; rfl
          refine st_inc hc dX12_isIn_31 rfl (by decide) rfl ?_
          rw [nI_1]
          refine st_goto (tgt := 2) hc dX12_isIn_34 (by decide) ?_
          exact ih (by rw [anyN_s, hno, eN]; rfl)
        · have eb : s.testBit k = true := by
            rcases hb : s.testBit k with _ | _
            · rw [hb] at h16; exact absurd h16 (by decide)
            · rfl
          refine st_aload_n hc dX12_isIn_19 rfl rfl ?_
          refine st_getr hc dX12_isIn_20 flX12_42 rfl rfl ?_
          refine st_iload_n hc dX12_isIn_23 rfl rfl ?_
          refine st_ialdN (k := k) hc dX12_isIn_24 rfl (rfl) (by omega) (by first | decide | omega) ((hL k hk).1) ?_
          refine st_iload_n hc dX12_isIn_25 rfl rfl ?_
          refine st_icmp_ne (tgt := 31) hc dX12_isIn_26 (by decide) (fun h26 => ?_) (fun h26 => ?_)
          · have eN : (s.testBit k && L k == c) = false := by rw [eb, beq_eq_false_iff_ne.mpr (fun z => h26 (e3.mpr z))]; rfl
            refine st_inc hc dX12_isIn_31 rfl (by decide) rfl ?_
            rw [nI_1]
            refine st_goto (tgt := 2) hc dX12_isIn_34 (by decide) ?_
            exact ih (by rw [anyN_s, hno, eN]; rfl)
          · have e : inS n L s c = true := (anyN_iff _ _).mpr ⟨k, hk, by rw [eb, beq_iff_eq.mpr (e3.mp h26)]; rfl⟩
            refine st_iconst (v := 1) hc dX12_isIn_29 (by decide) ?_
            refine st_zret (st := []) hc dX12_isIn_30 rfl (by simp) ?_
            rw [e]; exact ⟨rfl, rfl⟩
  refine st_iconst (v := 0) hc dX12_isIn_0 (by decide) ?_
  refine st_istore_n hc dX12_isIn_1 rfl (by decide) rfl ?_
  exact st_lvq _ (by simp [lvq, List.set, nI_0]) k2
/-- the members of the set with the answer a, below k -/
def mem (s : Nat) (A : Nat → Nat) (a : Nat) : Nat → Bool := fun j => s.testBit j && A j == a
abbrev prt (s : Nat) (A : Nat → Nat) (k a : Nat) : Nat := fbits k (mem s A a)
/-- the parts so far: M of them, with the answers pa -/
def PI (s : Nat) (A : Nat → Nat) (fu k M : Nat) (pa : Nat → Nat) (w19 w20 : Nat → Int32) : Prop :=
  M ≤ k ∧ (∀ m, m < M → w20 m = nI (pa m) ∧ w19 m = nI (prt s A k (pa m)) ∧ pa m < 60 ∧ ¬ pa m = fu ∧ anyN k (mem s A (pa m)) = true) ∧ (∀ m m', m < M → m' < M → pa m = pa m' → m = m') ∧ ∀ a, ¬ a = fu → anyN k (mem s A a) = true → ∃ m, m < M ∧ pa m = a
theorem fbits_n {k : Nat} {p : Nat → Bool} (h : p k = false) : fbits (k + 1) p = fbits k p := by rw [fbits]; rw [if_neg (by rw [h]; decide)]
theorem fbits_p {k : Nat} {p : Nat → Bool} (h : p k = true) : fbits (k + 1) p = fbits k p ||| 2 ^ k := by rw [fbits]; rw [if_pos h]
theorem fbits_z {k : Nat} {p : Nat → Bool} (h : anyN k p = false) : fbits k p = 0 := by
  induction k with
  | zero => rfl
  | succ k ih =>
    rw [anyN_s, Bool.or_eq_false_iff] at h
    rw [fbits_n h.2, ih h.1]
theorem PI.skip {s : Nat} {A : Nat → Nat} {fu k M : Nat} {pa : Nat → Nat} {w19 w20 : Nat → Int32} (h : PI s A fu k M pa w19 w20) (hk : ∀ a, ¬ a = fu → mem s A a k = false) : PI s A fu (k + 1) M pa w19 w20 := by
  obtain ⟨h1, h2, h3, h4⟩ := h
  refine ⟨by omega, fun m hm => ?_, h3, fun a ha hb => ?_⟩
  · obtain ⟨a1, a2, a3, a4, a5⟩ := h2 m hm
    refine ⟨a1, ?_, a3, a4, ?_⟩
    · rw [a2]; show _ = nI (fbits (k + 1) _); rw [fbits_n (hk _ a4)]
    · rw [anyN_s, a5]; rfl
  · rw [anyN_s, hk a ha, Bool.or_false] at hb
    exact h4 a ha hb
theorem PI.hit {s : Nat} {A : Nat → Nat} {fu k M m0 : Nat} {pa : Nat → Nat} {w19 w20 : Nat → Int32} (h : PI s A fu k M pa w19 w20) (hb : s.testBit k = true) (hm0 : m0 < M) (he : pa m0 = A k) : PI s A fu (k + 1) M pa (upd w19 m0 (nI (prt s A k (A k) ||| 2 ^ k))) w20 := by
  obtain ⟨h1, h2, h3, h4⟩ := h
  have hmk : mem s A (A k) k = true := by unfold mem; rw [hb]; simp
  have hno : ∀ a, ¬ a = A k → mem s A a k = false := fun a ha => by unfold mem; rw [beq_eq_false_iff_ne.mpr (fun q => ha q.symm)]; simp
  refine ⟨by omega, fun m hm => ?_, h3, fun a ha hb => ?_⟩
  · obtain ⟨a1, a2, a3, a4, a5⟩ := h2 m hm
    refine ⟨a1, ?_, a3, a4, by rw [anyN_s, a5]; rfl⟩
    by_cases q : m = m0
    · subst q; rw [upd_s, he]; show _ = nI (fbits (k + 1) _); rw [fbits_p hmk]
    · rw [upd_n q, a2]; show _ = nI (fbits (k + 1) _); rw [fbits_n (hno _ (fun z => q (h3 m m0 hm hm0 (by rw [z, he]))))]
  · by_cases q : a = A k
    · exact ⟨m0, hm0, by rw [he, q]⟩
    · rw [anyN_s, hno a q, Bool.or_false] at hb
      exact h4 a ha hb
theorem PI.new {s : Nat} {A : Nat → Nat} {fu k M : Nat} {pa : Nat → Nat} {w19 w20 : Nat → Int32} (h : PI s A fu k M pa w19 w20) (hb : s.testBit k = true) (hA : A k < 60) (hf : ¬ A k = fu) (hn : ∀ m, m < M → ¬ pa m = A k) : PI s A fu (k + 1) (M + 1) (fun m => if m = M then A k else pa m) (upd w19 M (nI (2 ^ k))) (upd w20 M (nI (A k))) := by
  obtain ⟨h1, h2, h3, h4⟩ := h
  have hmk : mem s A (A k) k = true := by unfold mem; rw [hb]; simp
  have hno : ∀ a, ¬ a = A k → mem s A a k = false := fun a ha => by unfold mem; rw [beq_eq_false_iff_ne.mpr (fun q => ha q.symm)]; simp
  have h0 : anyN k (mem s A (A k)) = false := by
    rcases hq : anyN k (mem s A (A k)) with _ | _
    · rfl
    · obtain ⟨m, hm, e⟩ := h4 _ hf hq
      exact absurd e (hn m hm)
  refine ⟨by omega, fun m hm => ?_, fun m m' hm hm' e => ?_, fun a ha hb => ?_⟩
  · by_cases q : m = M
    · subst q
      have e0 : (if m = m then A k else pa m) = A k := if_pos rfl
      show upd w20 m (nI (A k)) m = nI (if m = m then A k else pa m) ∧ upd w19 m (nI (2 ^ k)) m = nI (prt s A (k + 1) (if m = m then A k else pa m)) ∧ (if m = m then A k else pa m) < 60 ∧ ¬ (if m = m then A k else pa m) = fu ∧ anyN (k + 1) (mem s A (if m = m then A k else pa m)) = true
      rw [e0, upd_s, upd_s]
      refine ⟨rfl, ?_, hA, hf, by rw [anyN_s, hmk]; simp⟩
      show _ = nI (fbits (k + 1) _)
      rw [fbits_p hmk, fbits_z h0, Nat.zero_or]
    · have hm' : m < M := by omega
      obtain ⟨a1, a2, a3, a4, a5⟩ := h2 m hm'
      simp only [q, if_false]
      rw [upd_n q, upd_n q]
      refine ⟨a1, ?_, a3, a4, by rw [anyN_s, a5]; rfl⟩
      rw [a2]; show _ = nI (fbits (k + 1) _); rw [fbits_n (hno _ (hn m hm'))]
  · by_cases q : m = M
    · by_cases q' : m' = M
      · omega
      · simp only [q, q', if_true, if_false] at e
        exact absurd e.symm (hn m' (by omega))
    · by_cases q' : m' = M
      · simp only [q, q', if_true, if_false] at e
        exact absurd e (hn m (by omega))
      · simp only [q, q', if_false] at e
        exact h3 m m' (by omega) (by omega) e
  · by_cases q : a = A k
    · exact ⟨M, by omega, by simp [q]⟩
    · rw [anyN_s, hno a q, Bool.or_false] at hb
      obtain ⟨m, hm, e⟩ := h4 a ha hb
      exact ⟨m, by omega, by simp only [show ¬ m = M by omega, if_false]; exact e⟩
abbrev spS (σ : St) (M : Nat) (w19 w20 : Nat → Int32) : St := va_up (va_up (up σ 0 32 (nI M)) 19 w19) 20 w20
theorem W12_split {g : Gx} {d : Nat} {σ : St} {Q : Option Value → St → Prop} {n gg s P : Nat} {A : Nat → Nat} (hc : cX g YM RX12 cX12_split 7 (some .int) d) (hn : σ 0 18 = nI n) (hn10 : n ≤ 10) (hP : σ 0 0 = nI P) (hP5 : P ≤ 5) (hg : gg < 4096) (hs : s < 1024) (hA : ∀ k, k < n → σ 18 (10 * gg + k) = nI (A k) ∧ A k < 60) (hQ : ∀ M pa w19 w20, PI s A (10 * P) n M pa w19 w20 → Q (some (.int (nI (M + (if anyN n (mem s A (10 * P)) = true then 1 else 0))))) (spS σ M w19 w20)) : aW g YM 7 Q 0 [some (.ref 0), some (.int (nI gg)), some (.int (nI s)), none, none, none, none] [] σ := by
  have k10 : ∀ w19 w20, aW g YM 7 Q 10 [some (.ref 0), some (.int (nI gg)), some (.int (nI s)), some (.int (bI false)), some (.int (nI 0)), none, none] [] (spS σ 0 w19 w20) := by
    intro u19 u20
    refine lpN (n := n) (F := fun k => ∀ M pa w19 w20, PI s A (10 * P) k M pa w19 w20 → aW g YM 7 Q 10 [some (.ref 0), some (.int (nI gg)), some (.int (nI s)), some (.int (bI (anyN k (mem s A (10 * P))))), some (.int (nI k)), none, none] [] (spS σ M w19 w20)) ?_ (fun k hk ih => ?_) 0 (fun _ => 0) u19 u20 ⟨Nat.le_refl _, fun m hm => absurd hm (Nat.not_lt_zero m), fun m m' hm => absurd hm (Nat.not_lt_zero m), fun a _ hb => by cases hb⟩
    · intro M pa w19 w20 hPI
      refine st_iload hc dX12_split_10 rfl ?_
      refine st_aload_n hc dX12_split_12 rfl rfl ?_
      refine st_getE hc dX12_split_13 flX12_164 rfl rfl (hn) ?_
      refine st_icmp_ge (tgt := 148) hc dX12_split_16 (by decide) (fun h16 => ?_) (fun h16 => ?_)
      · refine st_aload_n hc dX12_split_148 rfl rfl ?_
        refine st_getE hc dX12_split_149 flX12_238 rfl rfl (show _ = nI M from rfl) ?_
        refine st_iload_n hc dX12_split_152 rfl rfl ?_
        refine st_iadd hc dX12_split_153 ?_
        refine st_iret (st := []) hc dX12_split_154 rfl ?_
        rw [bI_n, nI_add]
        exact hQ M pa w19 w20 hPI
      · exact absurd (nI_le (Nat.le_refl _) (by omega)) h16
    · intro M pa w19 w20 hPI
      have hAk := hA k hk
      have hMk := hPI.1
      -- the end of the body
      have kend : ∀ M pa w19 w20 (x5 : Option Value) (b : Bool), b = anyN (k + 1) (mem s A (10 * P)) → PI s A (10 * P) (k + 1) M pa w19 w20 → aW g YM 7 Q 142 [some (.ref 0), some (.int (nI gg)), some (.int (nI s)), some (.int (bI b)), some (.int (nI k)), none, none] [] (spS σ M w19 w20) := by
        intro M pa w19 w20 x5 b hb hPI
        rw [hb]
        refine st_inc hc dX12_split_142 rfl (by decide) rfl ?_
        rw [nI_1]
        refine st_goto (tgt := 10) hc dX12_split_145 (by decide) ?_
        exact ih M pa w19 w20 hPI
      rcases hb : s.testBit k with _ | _
      · have hm0 : ∀ a, mem s A a k = false := fun a => by unfold mem; rw [hb]; rfl
        refine st_iload hc dX12_split_10 rfl ?_
        refine st_aload_n hc dX12_split_12 rfl rfl ?_
        refine st_getE hc dX12_split_13 flX12_164 rfl rfl (hn) ?_
        refine st_icmp_ge (tgt := 148) hc dX12_split_16 (by decide) (fun h16 => ?_) (fun h16 => ?_)
        · exact absurd h16 (nI_ge hk (by omega))
        · refine st_iload_n hc dX12_split_19 rfl rfl ?_
          refine st_iload hc dX12_split_20 rfl ?_
          refine st_ishr hc dX12_split_22 ?_
          refine st_iconst (v := 1) hc dX12_split_23 (by decide) ?_
          refine st_iand hc dX12_split_24 ?_
          rw [nI_bit (by omega) (by omega), hb]
          refine st_if_ne (tgt := 31) hc dX12_split_25 (by decide) (fun h25 => ?_) (fun h25 => ?_)
          · exact absurd rfl h25
          · refine st_goto (tgt := 142) hc dX12_split_28 (by decide) ?_
            exact st_lvq _ (by simp [lvq]) (kend M pa w19 w20 none (anyN k (mem s A (10 * P))) (by rw [anyN_s, hm0, Bool.or_false]) (hPI.skip (fun a _ => hm0 a)))
      · have hmf : ∀ a, ¬ a = A k → mem s A a k = false := fun a ha => by unfold mem; rw [beq_eq_false_iff_ne.mpr (fun q => ha q.symm)]; simp
        -- behind the search: m is the part's place, or M
        have k92 : ¬ A k = 10 * P → ∀ m, m ≤ M → (∀ j, j < m → ¬ pa j = A k) → (m < M → pa m = A k) → aW g YM 7 Q 92 [some (.ref 0), some (.int (nI gg)), some (.int (nI s)), some (.int (bI (anyN k (mem s A (10 * P))))), some (.int (nI k)), some (.int (nI (A k))), some (.int (nI m))] [] (spS σ M w19 w20) := by
          intro hf m hmM hpre hat
          have hfl : anyN k (mem s A (10 * P)) = anyN (k + 1) (mem s A (10 * P)) := by rw [anyN_s, hmf _ (fun q => hf q.symm), Bool.or_false]
          by_cases e : m = M
          · subst e
            have hnew := kend (m + 1) _ _ _ none _ hfl (hPI.new hb hAk.2 hf hpre)
            refine st_iload hc dX12_split_92 rfl ?_
            refine st_aload_n hc dX12_split_94 rfl rfl ?_
            refine st_getE hc dX12_split_95 flX12_238 rfl rfl (show _ = nI m from rfl) ?_
            refine st_icmp_ne (tgt := 128) hc dX12_split_98 (by decide) (fun h98 => ?_) (fun h98 => ?_)
            · exact absurd rfl h98
            · refine st_aload_n hc dX12_split_101 rfl rfl ?_
              refine st_getr hc dX12_split_102 flX12_82 rfl rfl ?_
              refine st_iload hc dX12_split_105 rfl ?_
              refine st_iload hc dX12_split_107 rfl ?_
              refine st_iastN (k := m) hc dX12_split_109 rfl (rfl) (by omega) (by first | decide | omega)  ?_
              refine st_aload_n hc dX12_split_110 rfl rfl ?_
              refine st_getr hc dX12_split_111 flX12_79 rfl rfl ?_
              refine st_iload hc dX12_split_114 rfl ?_
              refine st_iconst (v := 0) hc dX12_split_116 (by decide) ?_
              refine st_iastN (k := m) hc dX12_split_117 rfl (rfl) (by omega) (by first | decide | omega)  ?_
              refine st_aload_n hc dX12_split_118 rfl rfl ?_
              refine st_dup hc dX12_split_119 rfl ?_
              refine st_getE hc dX12_split_120 flX12_238 rfl rfl (show _ = nI m from rfl) ?_
              refine st_iconst (v := 1) hc dX12_split_123 (by decide) ?_
              refine st_iadd hc dX12_split_124 ?_
              rw [nI_1]
              refine st_put hc dX12_split_125 fpX12_238 rfl rfl  ?_
              refine st_aload_n hc dX12_split_128 rfl rfl ?_
              refine st_getr hc dX12_split_129 flX12_79 rfl rfl ?_
              refine st_iload hc dX12_split_132 rfl ?_
              refine st_dup2 hc dX12_split_134 rfl rfl ?_
              refine st_ialdN (k := m) hc dX12_split_135 rfl (rfl) (by omega) (by first | decide | omega) (show _ = (0 : Int32) by show up _ 19 m 0 19 m = 0; rw [up_eq, if_pos ⟨rfl, rfl⟩]) ?_
              refine st_iconst (v := 1) hc dX12_split_136 (by decide) ?_
              refine st_iload hc dX12_split_137 rfl ?_
              refine st_ishl hc dX12_split_139 ?_
              refine st_ior hc dX12_split_140 ?_
              rw [nI_shl1 (by omega), show (0 : Int32) = nI 0 from rfl, nI_or, Nat.zero_or]
              refine st_iastN (k := m) hc dX12_split_141 rfl (rfl) (by omega) (by first | decide | omega)  ?_
              refine st_lvq _ (by simp [lvq]) (aW_st ?_ hnew)
              simp (decide := true) only [spS, vu_up, vu_put, up_up, upd_upd]
          · have hlt : m < M := by omega
            have hw := (hPI.2.1 m hlt).2.1
            rw [hat hlt] at hw
            have hhit := kend M pa _ _ none _ hfl (hPI.hit hb hlt (hat hlt))
            refine st_iload hc dX12_split_92 rfl ?_
            refine st_aload_n hc dX12_split_94 rfl rfl ?_
            refine st_getE hc dX12_split_95 flX12_238 rfl rfl (show _ = nI M from rfl) ?_
            refine st_icmp_ne (tgt := 128) hc dX12_split_98 (by decide) (fun h98 => ?_) (fun h98 => ?_)
            · refine st_aload_n hc dX12_split_128 rfl rfl ?_
              refine st_getr hc dX12_split_129 flX12_79 rfl rfl ?_
              refine st_iload hc dX12_split_132 rfl ?_
              refine st_dup2 hc dX12_split_134 rfl rfl ?_
              refine st_ialdN (k := m) hc dX12_split_135 rfl (rfl) (by omega) (by first | decide | omega) (hw) ?_
              refine st_iconst (v := 1) hc dX12_split_136 (by decide) ?_
              refine st_iload hc dX12_split_137 rfl ?_
              refine st_ishl hc dX12_split_139 ?_
              refine st_ior hc dX12_split_140 ?_
              rw [nI_shl1 (by omega), nI_or]
              refine st_iastN (k := m) hc dX12_split_141 rfl (rfl) (by omega) (by first | decide | omega)  ?_
              refine st_lvq _ (by simp [lvq]) (aW_st ?_ hhit)
              simp (decide := true) only [spS, vu_up, vu_put, up_up, upd_upd]
            · exact absurd (nI_inj (by omega) (by omega) h98) e
        have k65 : ¬ A k = 10 * P → aW g YM 7 Q 65 [some (.ref 0), some (.int (nI gg)), some (.int (nI s)), some (.int (bI (anyN k (mem s A (10 * P))))), some (.int (nI k)), some (.int (nI (A k))), some (.int (nI 0))] [] (spS σ M w19 w20) := by
          intro hf
          refine lpN (n := M) (F := fun m => (∀ j, j < m → ¬ pa j = A k) → aW g YM 7 Q 65 [some (.ref 0), some (.int (nI gg)), some (.int (nI s)), some (.int (bI (anyN k (mem s A (10 * P))))), some (.int (nI k)), some (.int (nI (A k))), some (.int (nI m))] [] (spS σ M w19 w20)) ?_ (fun m hm ih2 => ?_) (fun j hj => absurd hj (Nat.not_lt_zero j))
          · intro hpre
            refine st_iload hc dX12_split_65 rfl ?_
            refine st_aload_n hc dX12_split_67 rfl rfl ?_
            refine st_getE hc dX12_split_68 flX12_238 rfl rfl (show _ = nI M from rfl) ?_
            refine st_icmp_ge (tgt := 92) hc dX12_split_71 (by decide) (fun h71 => ?_) (fun h71 => ?_)
            · exact k92 hf M (Nat.le_refl _) hpre (fun q => absurd q (Nat.lt_irrefl _))
            · exact absurd (nI_le (Nat.le_refl _) (by omega)) h71
          · intro hpre
            obtain ⟨a1, a2, a3, a4, a5⟩ := hPI.2.1 m hm
            refine st_iload hc dX12_split_65 rfl ?_
            refine st_aload_n hc dX12_split_67 rfl rfl ?_
            refine st_getE hc dX12_split_68 flX12_238 rfl rfl (show _ = nI M from rfl) ?_
            refine st_icmp_ge (tgt := 92) hc dX12_split_71 (by decide) (fun h71 => ?_) (fun h71 => ?_)
            · exact absurd h71 (nI_ge hm (by omega))
            · refine st_aload_n hc dX12_split_74 rfl rfl ?_
              refine st_getr hc dX12_split_75 flX12_82 rfl rfl ?_
              refine st_iload hc dX12_split_78 rfl ?_
              refine st_ialdN (k := m) hc dX12_split_80 rfl (rfl) (by omega) (by first | decide | omega) (a1) ?_
              refine st_iload hc dX12_split_81 rfl ?_
              refine st_icmp_eq (tgt := 92) hc dX12_split_83 (by decide) (fun h83 => ?_) (fun h83 => ?_)
              · have e : pa m = A k := nI_inj (by omega) (by omega) h83
                exact k92 hf m (by omega) hpre (fun _ => e)
              · have e : ¬ pa m = A k := fun q => h83 (by rw [q])
                refine st_inc hc dX12_split_86 rfl (by decide) rfl ?_
                rw [nI_1]
                refine st_goto (tgt := 65) hc dX12_split_89 (by decide) ?_
                exact ih2 (fun j hj => by
                  by_cases q : j = m
                  · subst q; exact e
                  · exact hpre j (by omega))
        refine st_iload hc dX12_split_10 rfl ?_
        refine st_aload_n hc dX12_split_12 rfl rfl ?_
        refine st_getE hc dX12_split_13 flX12_164 rfl rfl (hn) ?_
        refine st_icmp_ge (tgt := 148) hc dX12_split_16 (by decide) (fun h16 => ?_) (fun h16 => ?_)
        · exact absurd h16 (nI_ge hk (by omega))
        · refine st_iload_n hc dX12_split_19 rfl rfl ?_
          refine st_iload hc dX12_split_20 rfl ?_
          refine st_ishr hc dX12_split_22 ?_
          refine st_iconst (v := 1) hc dX12_split_23 (by decide) ?_
          refine st_iand hc dX12_split_24 ?_
          rw [nI_bit (by omega) (by omega), hb]
          refine st_if_ne (tgt := 31) hc dX12_split_25 (by decide) (fun h25 => ?_) (fun h25 => ?_)
          · refine st_aload_n hc dX12_split_31 rfl rfl ?_
            refine st_getr hc dX12_split_32 flX12_76 rfl rfl ?_
            refine st_bipush (v := 10) hc dX12_split_35 (by decide) ?_
            refine st_iload_n hc dX12_split_37 rfl rfl ?_
            refine st_imul hc dX12_split_38 ?_
            refine st_iload hc dX12_split_39 rfl ?_
            refine st_iadd hc dX12_split_41 ?_
            refine st_ialdN (k := 10 * gg + k) hc dX12_split_42 rfl (by rw [show (10 : Int32) = nI 10 from rfl, pk_mul, nI_add]) (by omega) (by first | decide | omega) (hAk.1) ?_
            refine st_istore hc dX12_split_43 (by decide) rfl ?_
            refine st_iload hc dX12_split_45 rfl ?_
            refine st_bipush (v := 10) hc dX12_split_47 (by decide) ?_
            refine st_aload_n hc dX12_split_49 rfl rfl ?_
            refine st_getE hc dX12_split_50 flX12_7 rfl rfl (hP) ?_
            refine st_imul hc dX12_split_53 ?_
            rw [show (10 : Int32) = nI 10 from rfl, pk_mul]
            refine st_icmp_ne (tgt := 62) hc dX12_split_54 (by decide) (fun h54 => ?_) (fun h54 => ?_)
            · have e : ¬ A k = 10 * P := fun q => h54 (by rw [q])
              refine st_iconst (v := 0) hc dX12_split_62 (by decide) ?_
              refine st_istore hc dX12_split_63 (by decide) rfl ?_
              exact st_lvq _ (by simp [lvq, List.set, nI_0]) (k65 e)
            · have e : A k = 10 * P := nI_inj (by omega) (by omega) h54
              refine st_iconst (v := 1) hc dX12_split_57 (by decide) ?_
              refine st_istore_n hc dX12_split_58 rfl (by decide) rfl ?_
              refine st_goto (tgt := 142) hc dX12_split_59 (by decide) ?_
              refine st_lvq _ (by simp [lvq, List.set]; rfl) (kend M pa w19 w20 none true (by rw [anyN_s, show mem s A (10 * P) k = true by unfold mem; rw [hb, e]; simp, Bool.or_true]) (hPI.skip (fun a ha => hmf a (by rw [e]; exact ha))))
          · exact absurd h25 (by decide)
  refine st_aload_n hc dX12_split_0 rfl rfl ?_
  refine st_iconst (v := 0) hc dX12_split_1 (by decide) ?_
  refine st_put hc dX12_split_2 fpX12_238 rfl rfl  ?_
  refine st_iconst (v := 0) hc dX12_split_5 (by decide) ?_
  refine st_istore_n hc dX12_split_6 rfl (by decide) rfl ?_
  refine st_iconst (v := 0) hc dX12_split_7 (by decide) ?_
  refine st_istore hc dX12_split_8 (by decide) rfl ?_
  have h := k10 (σ 19) (σ 20)
  rw [show spS σ 0 (σ 19) (σ 20) = up σ 0 32 0 by show va_up (va_up (up σ 0 32 0) 19 (up σ 0 32 0 19)) 20 (up σ 0 32 0 20) = up σ 0 32 0; rw [vu_id, vu_id]] at h
  exact st_lvq _ (by simp [lvq, List.set, nI_0, bI]) h
theorem C12_split (d : Nat) (σ : St) {n gg s P : Nat} {A : Nat → Nat} (hn : σ 0 18 = nI n) (hn10 : n ≤ 10) (hP : σ 0 0 = nI P) (hP5 : P ≤ 5) (hg : gg < 4096) (hs : s < 1024) (hA : ∀ k, k < n → σ 18 (10 * gg + k) = nI (A k) ∧ A k < 60) : Mt YM mX12_split d [.ref 0, .int (nI gg), .int (nI s)] σ (fun r τ => ∃ M pa w19 w20, r = some (.int (nI (M + (if anyN n (mem s A (10 * P)) = true then 1 else 0)))) ∧ PI s A (10 * P) n M pa w19 w20 ∧ τ = spS σ M w19 w20) :=
  Mt.ofA [some (.ref 0), some (.int (nI gg)), some (.int (nI s)), none, none, none, none] (by decide) (fun _ => Nat.le_of_ble_eq_true rfl) (fun _ => rfl) (fun _ hc => W12_split hc hn hn10 hP hP5 hg hs hA (fun M pa w19 w20 h => ⟨M, pa, w19, w20, rfl, h, rfl⟩))

