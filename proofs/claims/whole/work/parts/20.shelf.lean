/-! ===== the shelves of the reference ===== -/
theorem st_ldcw {g : Gx} {Y : List Sh} {own : String} {cc : ByteArray} {nL : Nat} {ret : Option FieldType} {d : Nat} {Q : Option Value → St → Prop} {pc : Nat} {lv : List (Option Value)} {st : List Value} {σ : St} {i : Nat} {v : Int32} (hc : cX g Y own cc nL ret d) (hd : decode cc pc = .ok (.ldc_w i, 3)) (hw : Cond.constant own i v ∈ gw) (k : aW g Y nL Q (pc + 3) lv (.int v :: st) σ) : aW g Y nL Q pc lv st σ := by
  obtain ⟨p, l, e, R, s, m, args, below, meth, c, D, dA, ad⟩ := g
  obtain ⟨hx, hb, hml, hr, hlk, hown, hts, hK, hD, hR, hN⟩ := hc
  intro H locs ls hP hS hl
  exact lv_ldcw hx hb hown (hts _ hw) hd (k H locs ls hP hS hl)
/-- a row with h on lo .. lo + n - 1 -/
def rng (lo n : Nat) (h f : Nat → Int32) : Nat → Int32 := fun i => if lo ≤ i ∧ i < lo + n then h (i - lo) else f i
theorem rng_s (lo n : Nat) (h f : Nat → Int32) : upd (rng lo n h f) (lo + n) (h n) = rng lo (n + 1) h f := by
  funext i
  unfold upd rng
  by_cases e : i = lo + n
  · subst e
    rw [if_pos rfl, if_pos ⟨by omega, by omega⟩]
    congr 1
    omega
  · by_cases e2 : lo ≤ i ∧ i < lo + n
    · rw [if_neg e, if_pos e2, if_pos ⟨e2.1, by omega⟩]
    · rw [if_neg e, if_neg e2, if_neg (fun q => e2 ⟨q.1, by omega⟩)]
theorem rng_0 (lo : Nat) (h f : Nat → Int32) : rng lo 0 h f = f := by
  funext i
  unfold rng
  rw [if_neg (by omega)]
theorem rng_congr {lo n : Nat} {h k : Nat → Int32} (e : ∀ i, i < n → h i = k i) (f : Nat → Int32) : rng lo n h f = rng lo n k f := by
  funext i
  unfold rng
  by_cases q : lo ≤ i ∧ i < lo + n
  · rw [if_pos q, if_pos q, e _ (by omega)]
  · rw [if_neg q, if_neg q]
def shOK (σ : St) : Prop := ∀ d, d < 6 → 0 ≤ σ 35 d ∧ nat (σ 35 d) ≤ 60
theorem C12_isShelf (d : Nat) (σ : St) (x : Int32) : Mt YM mX12_isShelf (d + 1) [.int x] σ (fun r τ => r = some (.int (if 0 ≤ x ∧ x ≤ 5 then 1 else 0)) ∧ τ = σ) := by
  refine Mt.ofA [some (.int x)] (by decide) (fun _ => Nat.le_of_ble_eq_true rfl) (fun _ => rfl) (fun g hc => ?_)
  refine st_iload_n hc dX12_isShelf_0 rfl rfl ?_
  refine st_iconst (v := 0) hc dX12_isShelf_1 (by decide) ?_
  refine st_iconst (v := 5) hc dX12_isShelf_2 (by decide) ?_
  refine st_callSp hc dX12_isShelf_3 (C12_in d σ x 0 5) msX12_142 (by omega) rfl rfl (Nat.le_of_ble_eq_true rfl) ?_
  refine st_zret (st := []) hc dX12_isShelf_6 rfl (by split <;> simp) ?_
  exact ⟨rfl, rfl⟩
theorem sh_n {x : Int32} (h : 0 ≤ x ∧ x ≤ 5) : x = nI (nat x) ∧ nat x < 6 := by
  obtain ⟨j, hj, rfl⟩ := nI_of (Int32.not_lt.mpr h.1)
  rw [nat_nI hj]
  exact ⟨rfl, Nat.lt_succ_of_le ((nI_leI (b := 5) hj (by decide)).mp h.2)⟩
def narw (s v : Int32) : Int32 := if s = 1 then v.toInt8.toInt32 else if s = 2 then v &&& 65535 else v.toInt16.toInt32
theorem C12_narrow (d : Nat) (σ : St) (s v : Int32) : Mt YM mX12_narrow d [.int s, .int v] σ (fun r τ => r = some (.int (narw s v)) ∧ τ = σ) := by
  refine Mt.ofA [some (.int s), some (.int v)] (by decide) (fun _ => Nat.le_of_ble_eq_true rfl) (fun _ => rfl) (fun g hc => ?_)
  unfold narw
  refine st_iload_n hc dX12_narrow_0 rfl rfl ?_
  refine st_iconst (v := 1) hc dX12_narrow_1 (by decide) ?_
  refine st_icmp_ne (tgt := 10) hc dX12_narrow_2 (by decide) (fun h2 => ?_) (fun h2 => ?_)
  · rw [if_neg h2]
    refine st_iload_n hc dX12_narrow_10 rfl rfl ?_
    refine st_iconst (v := 2) hc dX12_narrow_11 (by decide) ?_
    refine st_icmp_ne (tgt := 23) hc dX12_narrow_12 (by decide) (fun h12 => ?_) (fun h12 => ?_)
    · rw [if_neg h12]
      refine st_iload_n hc dX12_narrow_23 rfl rfl ?_
      refine st_i2s hc dX12_narrow_24 ?_
      refine st_iret (st := []) hc dX12_narrow_25 rfl ?_
      exact ⟨rfl, rfl⟩
    · rw [if_pos h12]
      refine st_iload_n hc dX12_narrow_15 rfl rfl ?_
      refine st_ldcw hc dX12_narrow_16 kcX12_269 ?_
      refine st_iand hc dX12_narrow_19 ?_
      refine st_goto (tgt := 25) hc dX12_narrow_20 (by decide) ?_
      refine st_iret (st := []) hc dX12_narrow_25 rfl ?_
      exact ⟨rfl, rfl⟩
  · rw [if_pos h2]
    refine st_iload_n hc dX12_narrow_5 rfl rfl ?_
    refine st_i2b hc dX12_narrow_6 ?_
    refine st_goto (tgt := 25) hc dX12_narrow_7 (by decide) ?_
    refine st_iret (st := []) hc dX12_narrow_25 rfl ?_
    exact ⟨rfl, rfl⟩
abbrev fndc (σ : St) : St := up σ 0 14 (σ 0 14 + 1)
def sp_clear (σ : St) (d : Int32) : Int32 × St := if 0 ≤ d ∧ d ≤ 5 then (σ 34 (nat d), up (t0 σ) 34 (nat d) 0) else (-1, t0 σ)
theorem C12_clear (σ : St) (d : Int32) : Mt YM mX12_clear 9 [.ref 0, .int d] σ (fun r τ => r = some (.int (sp_clear σ d).1) ∧ sE (sp_clear σ d).2 τ) := by
  refine Mt.ofA [some (.ref 0), some (.int d), none] (by decide) (fun _ => Nat.le_of_ble_eq_true rfl) (fun _ => rfl) (fun g hc => ?_)
  unfold sp_clear
  refine st_aload_n hc dX12_clear_0 rfl rfl ?_
  refine st_iconst (v := 0) hc dX12_clear_1 (by decide) ?_
  refine st_put hc dX12_clear_2 fpX12_139 rfl rfl  ?_
  refine st_iload_n hc dX12_clear_5 rfl rfl ?_
  refine st_callSp hc dX12_clear_6 (C12_isShelf 0 _ d) msX12_270 (by omega) rfl rfl (Nat.le_of_ble_eq_true rfl) ?_
  refine st_if_ne (tgt := 14) hc dX12_clear_9 (by decide) (fun h9 => ?_) (fun h9 => ?_)
  · have h9 := it1.mp h9
    obtain ⟨ed, hd⟩ := sh_n h9
    refine st_aload_n hc dX12_clear_14 rfl rfl ?_
    refine st_getr hc dX12_clear_15 flX12_124 rfl rfl ?_
    refine st_iload_n hc dX12_clear_18 rfl rfl ?_
    refine st_ialdN (k := nat d) hc dX12_clear_19 rfl (ed) (by omega) (by decide) rfl ?_
    refine st_istore_n hc dX12_clear_20 rfl (by decide) rfl ?_
    refine st_aload_n hc dX12_clear_21 rfl rfl ?_
    refine st_getr hc dX12_clear_22 flX12_124 rfl rfl ?_
    refine st_iload_n hc dX12_clear_25 rfl rfl ?_
    refine st_iconst (v := 0) hc dX12_clear_26 (by decide) ?_
    refine st_iastN (k := nat d) hc dX12_clear_27 rfl (ed) (by omega) (by decide)  ?_
    refine st_iload_n hc dX12_clear_28 rfl rfl ?_
    refine st_iret (st := []) hc dX12_clear_29 rfl ?_
    rw [if_pos h9]; exact ⟨rfl, sE.rf⟩
  · have h9 := it0.mp h9
    refine st_iconst (v := (-1)) hc dX12_clear_12 (by decide) ?_
    refine st_iret (st := []) hc dX12_clear_13 rfl ?_
    rw [if_neg h9]; exact ⟨rfl, sE.rf⟩
def sp_rack (σ : St) (d s n : Int32) : Int32 × St :=
  if ¬ (0 ≤ d ∧ d ≤ 5) ∨ ¬ (1 ≤ s ∧ s ≤ 3) ∨ 60 < n then (-1, t0 σ) else if n < 0 then (-14, fnd σ) else (n, va_up (up (up (t0 σ) 34 (nat d) s) 35 (nat d) n) 36 (rng (60 * nat d) 60 (fun _ => 0) (σ 36)))
theorem C12_rack (σ : St) (d s n : Int32) : Mt YM mX12_rack 9 [.ref 0, .int d, .int s, .int n] σ (fun r τ => r = some (.int (sp_rack σ d s n).1) ∧ sE (sp_rack σ d s n).2 τ) := by
  refine Mt.ofA [some (.ref 0), some (.int d), some (.int s), some (.int n), none] (by decide) (fun _ => Nat.le_of_ble_eq_true rfl) (fun _ => rfl) (fun g hc => ?_)
  unfold sp_rack
  have k57 : ∀ (Q : Option Value → St → Prop) (τ : St) (D : Nat), D < 6 → Q (some (.int n)) (va_up τ 36 (rng (60 * D) 60 (fun _ => 0) (τ 36))) → aW g YM 5 Q 57 [some (.ref 0), some (.int (nI D)), some (.int s), some (.int n), some (.int (nI 0))] [] τ := by
    intro Q τ D hD hQ
    have h := lpN (n := 60) (F := fun i => aW g YM 5 Q 57 [some (.ref 0), some (.int (nI D)), some (.int s), some (.int n), some (.int (nI i))] [] (va_up τ 36 (rng (60 * D) i (fun _ => 0) (τ 36)))) ?_ (fun i hi ih => ?_)
    · rw [rng_0, vu_id] at h
      exact h
    · refine st_iload hc dX12_rack_57 rfl ?_
      refine st_bipush (v := 60) hc dX12_rack_59 (by decide) ?_
      refine st_icmp_ge (tgt := 83) hc dX12_rack_61 (by decide) (fun h61 => ?_) (fun h61 => ?_)
      · refine st_iload_n hc dX12_rack_83 rfl rfl ?_
        refine st_iret (st := []) hc dX12_rack_84 rfl ?_
        exact hQ
      · exact absurd (by decide) h61
    · refine st_iload hc dX12_rack_57 rfl ?_
      refine st_bipush (v := 60) hc dX12_rack_59 (by decide) ?_
      refine st_icmp_ge (tgt := 83) hc dX12_rack_61 (by decide) (fun h61 => ?_) (fun h61 => ?_)
      · exact absurd h61 (nI_ge (b := 60) hi (by omega))
      · refine st_aload_n hc dX12_rack_64 rfl rfl ?_
        refine st_getr hc dX12_rack_65 flX12_130 rfl rfl ?_
        refine st_bipush (v := 60) hc dX12_rack_68 (by decide) ?_
        refine st_iload_n hc dX12_rack_70 rfl rfl ?_
        refine st_imul hc dX12_rack_71 ?_
        refine st_iload hc dX12_rack_72 rfl ?_
        refine st_iadd hc dX12_rack_74 ?_
        refine st_iconst (v := 0) hc dX12_rack_75 (by decide) ?_
        refine st_iastN (k := 60 * D + i) hc dX12_rack_76 rfl (by rw [show (60 : Int32) = nI 60 from rfl, pk_mul, nI_add]) (by omega) (by decide)  ?_
        rw [vu_up, rng_s (60 * D) i (fun _ => 0)]
        refine st_inc hc dX12_rack_77 rfl (by decide) rfl ?_
        rw [nI_1]
        refine st_goto (tgt := 57) hc dX12_rack_80 (by decide) ?_
        exact ih
  refine st_aload_n hc dX12_rack_0 rfl rfl ?_
  refine st_iconst (v := 0) hc dX12_rack_1 (by decide) ?_
  refine st_put hc dX12_rack_2 fpX12_139 rfl rfl  ?_
  refine st_iload_n hc dX12_rack_5 rfl rfl ?_
  refine st_callSp hc dX12_rack_6 (C12_isShelf 0 _ d) msX12_270 (by omega) rfl rfl (Nat.le_of_ble_eq_true rfl) ?_
  refine st_if_eq (tgt := 27) hc dX12_rack_9 (by decide) (fun h9 => ?_) (fun h9 => ?_)
  · have h9 := it0.mp h9
    refine st_iconst (v := (-1)) hc dX12_rack_27 (by decide) ?_
    refine st_iret (st := []) hc dX12_rack_28 rfl ?_
    first
     | (rw [if_pos (Or.inl h9)]; exact ⟨rfl, sE.rf⟩)
     | (rw [if_pos (Or.inr (Or.inl h18))]; exact ⟨rfl, sE.rf⟩)
     | (rw [if_pos (Or.inr (Or.inr (Int32.not_le.mp h24)))]; exact ⟨rfl, sE.rf⟩)
  · have h9 := it1.mp h9
    obtain ⟨ed, hd⟩ := sh_n h9
    refine st_iload_n hc dX12_rack_12 rfl rfl ?_
    refine st_iconst (v := 1) hc dX12_rack_13 (by decide) ?_
    refine st_iconst (v := 3) hc dX12_rack_14 (by decide) ?_
    refine st_callSp hc dX12_rack_15 (C12_in 0 _ s 1 3) msX12_142 (by omega) rfl rfl (Nat.le_of_ble_eq_true rfl) ?_
    refine st_if_eq (tgt := 27) hc dX12_rack_18 (by decide) (fun h18 => ?_) (fun h18 => ?_)
    · have h18 := it0.mp h18
      refine st_iconst (v := (-1)) hc dX12_rack_27 (by decide) ?_
      refine st_iret (st := []) hc dX12_rack_28 rfl ?_
      first
       | (rw [if_pos (Or.inl h9)]; exact ⟨rfl, sE.rf⟩)
       | (rw [if_pos (Or.inr (Or.inl h18))]; exact ⟨rfl, sE.rf⟩)
       | (rw [if_pos (Or.inr (Or.inr (Int32.not_le.mp h24)))]; exact ⟨rfl, sE.rf⟩)
    · have h18 := it1.mp h18
      refine st_iload_n hc dX12_rack_21 rfl rfl ?_
      refine st_bipush (v := 60) hc dX12_rack_22 (by decide) ?_
      refine st_icmp_le (tgt := 29) hc dX12_rack_24 (by decide) (fun h24 => ?_) (fun h24 => ?_)
      · have hno : ¬ (¬ (0 ≤ d ∧ d ≤ 5) ∨ ¬ (1 ≤ s ∧ s ≤ 3) ∨ 60 < n) := by
          rintro (q | q | q)
          · exact q h9
          · exact q h18
          · exact absurd h24 (Int32.not_le.mpr q)
        rw [if_neg hno]
        refine st_iload_n hc dX12_rack_29 rfl rfl ?_
        refine st_if_ge (tgt := 40) hc dX12_rack_30 (by decide) (fun h30 => ?_) (fun h30 => ?_)
        · rw [if_neg (Int32.not_lt.mpr h30)]
          refine st_aload_n hc dX12_rack_40 rfl rfl ?_
          refine st_getr hc dX12_rack_41 flX12_124 rfl rfl ?_
          refine st_iload_n hc dX12_rack_44 rfl rfl ?_
          refine st_iload_n hc dX12_rack_45 rfl rfl ?_
          refine st_iastN (k := nat d) hc dX12_rack_46 rfl (ed) (by omega) (by decide)  ?_
          refine st_aload_n hc dX12_rack_47 rfl rfl ?_
          refine st_getr hc dX12_rack_48 flX12_127 rfl rfl ?_
          refine st_iload_n hc dX12_rack_51 rfl rfl ?_
          refine st_iload_n hc dX12_rack_52 rfl rfl ?_
          refine st_iastN (k := nat d) hc dX12_rack_53 rfl (ed) (by omega) (by decide)  ?_
          refine st_iconst (v := 0) hc dX12_rack_54 (by decide) ?_
          refine st_istore hc dX12_rack_55 (by decide) rfl ?_
          have h := k57 (fun r τ => r = some (.int n) ∧ sE (va_up (up (up (t0 σ) 34 (nat d) s) 35 (nat d) n) 36 (rng (60 * nat d) 60 (fun _ => 0) (σ 36))) τ) (up (up (t0 σ) 34 (nat d) s) 35 (nat d) n) (nat d) hd ⟨rfl, sE.rf⟩
          rw [← ed] at h
          exact h
        · rw [if_pos (Int32.not_le.mp h30)]
          refine st_aload_n hc dX12_rack_33 rfl rfl ?_
          refine st_bipush (v := (-14)) hc dX12_rack_34 (by decide) ?_
          refine st_callVq hc dX12_rack_36 (C12_found 0 (t0 σ) (-14)) mvX12_202 (by omega) rfl rfl rfl (Nat.le_of_ble_eq_true rfl) ?_
          rintro _ rfl
          refine st_iret (st := []) hc dX12_rack_39 rfl ?_
          exact ⟨rfl, sE.rf⟩
      · refine st_iconst (v := (-1)) hc dX12_rack_27 (by decide) ?_
        refine st_iret (st := []) hc dX12_rack_28 rfl ?_
        first
         | (rw [if_pos (Or.inl h9)]; exact ⟨rfl, sE.rf⟩)
         | (rw [if_pos (Or.inr (Or.inl h18))]; exact ⟨rfl, sE.rf⟩)
         | (rw [if_pos (Or.inr (Or.inr (Int32.not_le.mp h24)))]; exact ⟨rfl, sE.rf⟩)
def sp_put (σ : St) (d i v : Int32) : Int32 × St :=
  if ¬ (0 ≤ d ∧ d ≤ 5) then (-1, t0 σ) else if σ 34 (nat d) = 0 then (-11, fnd σ) else if σ 34 (nat d) = 4 then (-12, fnd σ) else if ¬ (0 ≤ i ∧ nat i < nat (σ 35 (nat d))) then (-13, fnd σ) else (σ 36 (60 * nat d + nat i), up (t0 σ) 36 (60 * nat d + nat i) (narw (σ 34 (nat d)) v))
theorem C12_put (σ : St) (hs : shOK σ) (d i v : Int32) : Mt YM mX12_put 9 [.ref 0, .int d, .int i, .int v] σ (fun r τ => r = some (.int (sp_put σ d i v).1) ∧ sE (sp_put σ d i v).2 τ) := by
  refine Mt.ofA [some (.ref 0), some (.int d), some (.int i), some (.int v), none] (by decide) (fun _ => Nat.le_of_ble_eq_true rfl) (fun _ => rfl) (fun g hc => ?_)
  unfold sp_put
  refine st_aload_n hc dX12_put_0 rfl rfl ?_
  refine st_iconst (v := 0) hc dX12_put_1 (by decide) ?_
  refine st_put hc dX12_put_2 fpX12_139 rfl rfl  ?_
  refine st_iload_n hc dX12_put_5 rfl rfl ?_
  refine st_callSp hc dX12_put_6 (C12_isShelf 0 _ d) msX12_270 (by omega) rfl rfl (Nat.le_of_ble_eq_true rfl) ?_
  refine st_if_ne (tgt := 14) hc dX12_put_9 (by decide) (fun h9 => ?_) (fun h9 => ?_)
  · have h9 := it1.mp h9
    obtain ⟨ed, hd⟩ := sh_n h9
    obtain ⟨hs0, hs60⟩ := hs _ hd
    have es := (nI_nat hs0).symm
    have hin := in_n (x := i) (n := nat (σ 35 (nat d))) (by omega)
    rw [← es] at hin
    rw [if_neg (fun q => q h9)]
    refine st_aload_n hc dX12_put_14 rfl rfl ?_
    refine st_getr hc dX12_put_15 flX12_124 rfl rfl ?_
    refine st_iload_n hc dX12_put_18 rfl rfl ?_
    refine st_ialdN (k := nat d) hc dX12_put_19 rfl (ed) (by omega) (by decide) (show _ = σ 34 (nat d) from rfl) ?_
    refine st_if_ne (tgt := 30) hc dX12_put_20 (by decide) (fun h20 => ?_) (fun h20 => ?_)
    · refine st_aload_n hc dX12_put_30 rfl rfl ?_
      refine st_getr hc dX12_put_31 flX12_124 rfl rfl ?_
      refine st_iload_n hc dX12_put_34 rfl rfl ?_
      refine st_ialdN (k := nat d) hc dX12_put_35 rfl (ed) (by omega) (by decide) (show _ = σ 34 (nat d) from rfl) ?_
      refine st_iconst (v := 4) hc dX12_put_36 (by decide) ?_
      refine st_icmp_ne (tgt := 47) hc dX12_put_37 (by decide) (fun h37 => ?_) (fun h37 => ?_)
      · refine st_iload_n hc dX12_put_47 rfl rfl ?_
        refine st_iconst (v := 0) hc dX12_put_48 (by decide) ?_
        refine st_aload_n hc dX12_put_49 rfl rfl ?_
        refine st_getr hc dX12_put_50 flX12_127 rfl rfl ?_
        refine st_iload_n hc dX12_put_53 rfl rfl ?_
        refine st_ialdN (k := nat d) hc dX12_put_54 rfl (ed) (by omega) (by decide) (show _ = σ 35 (nat d) from rfl) ?_
        refine st_iconst (v := 1) hc dX12_put_55 (by decide) ?_
        refine st_isub hc dX12_put_56 ?_
        refine st_callSp hc dX12_put_57 (C12_in 0 _ i 0 (σ 35 (nat d) - 1)) msX12_142 (by omega) rfl rfl (Nat.le_of_ble_eq_true rfl) ?_
        refine st_if_ne (tgt := 70) hc dX12_put_60 (by decide) (fun h60 => ?_) (fun h60 => ?_)
        · have h60 := hin.mp (it1.mp h60)
          have ei := (nI_nat h60.1).symm
          refine st_aload_n hc dX12_put_70 rfl rfl ?_
          refine st_getr hc dX12_put_71 flX12_130 rfl rfl ?_
          refine st_bipush (v := 60) hc dX12_put_74 (by decide) ?_
          refine st_iload_n hc dX12_put_76 rfl rfl ?_
          refine st_imul hc dX12_put_77 ?_
          refine st_iload_n hc dX12_put_78 rfl rfl ?_
          refine st_iadd hc dX12_put_79 ?_
          refine st_ialdN (k := 60 * nat d + nat i) hc dX12_put_80 rfl (by rw [show (60 : Int32) = nI 60 from rfl, ed, ei, nat_nI (by omega), nat_nI (by omega), pk_mul, nI_add]) (by omega) (by decide) rfl ?_
          refine st_istore hc dX12_put_81 (by decide) rfl ?_
          refine st_aload_n hc dX12_put_83 rfl rfl ?_
          refine st_getr hc dX12_put_84 flX12_130 rfl rfl ?_
          refine st_bipush (v := 60) hc dX12_put_87 (by decide) ?_
          refine st_iload_n hc dX12_put_89 rfl rfl ?_
          refine st_imul hc dX12_put_90 ?_
          refine st_iload_n hc dX12_put_91 rfl rfl ?_
          refine st_iadd hc dX12_put_92 ?_
          refine st_aload_n hc dX12_put_93 rfl rfl ?_
          refine st_getr hc dX12_put_94 flX12_124 rfl rfl ?_
          refine st_iload_n hc dX12_put_97 rfl rfl ?_
          refine st_ialdN (k := nat d) hc dX12_put_98 rfl (ed) (by omega) (by decide) (show _ = σ 34 (nat d) from rfl) ?_
          refine st_iload_n hc dX12_put_99 rfl rfl ?_
          refine st_callSp hc dX12_put_100 (C12_narrow 0 _ (σ 34 (nat d)) v) msX12_273 (by omega) rfl rfl (Nat.le_of_ble_eq_true rfl) ?_
          refine st_iastN (k := 60 * nat d + nat i) hc dX12_put_103 rfl (by rw [show (60 : Int32) = nI 60 from rfl, ed, ei, nat_nI (by omega), nat_nI (by omega), pk_mul, nI_add]) (by omega) (by decide)  ?_
          refine st_iload hc dX12_put_104 rfl ?_
          refine st_iret (st := []) hc dX12_put_106 rfl ?_
          rw [if_neg h20, if_neg h37, if_neg (fun q => q h60)]; exact ⟨rfl, sE.rf⟩
        · have h60 := fun q => it0.mp h60 (hin.mpr q)
          refine st_aload_n hc dX12_put_63 rfl rfl ?_
          refine st_bipush (v := (-13)) hc dX12_put_64 (by decide) ?_
          refine st_callVq hc dX12_put_66 (C12_found 0 (t0 σ) (-13)) mvX12_202 (by omega) rfl rfl rfl (Nat.le_of_ble_eq_true rfl) ?_
          rintro _ rfl
          refine st_iret (st := []) hc dX12_put_69 rfl ?_
          rw [if_neg h20, if_neg h37, if_pos h60]; exact ⟨rfl, sE.rf⟩
      · refine st_aload_n hc dX12_put_40 rfl rfl ?_
        refine st_bipush (v := (-12)) hc dX12_put_41 (by decide) ?_
        refine st_callVq hc dX12_put_43 (C12_found 0 (t0 σ) (-12)) mvX12_202 (by omega) rfl rfl rfl (Nat.le_of_ble_eq_true rfl) ?_
        rintro _ rfl
        refine st_iret (st := []) hc dX12_put_46 rfl ?_
        rw [if_neg h20, if_pos h37]; exact ⟨rfl, sE.rf⟩
    · refine st_aload_n hc dX12_put_23 rfl rfl ?_
      refine st_bipush (v := (-11)) hc dX12_put_24 (by decide) ?_
      refine st_callVq hc dX12_put_26 (C12_found 0 (t0 σ) (-11)) mvX12_202 (by omega) rfl rfl rfl (Nat.le_of_ble_eq_true rfl) ?_
      rintro _ rfl
      refine st_iret (st := []) hc dX12_put_29 rfl ?_
      rw [if_pos h20]; exact ⟨rfl, sE.rf⟩
  · have h9 := it0.mp h9
    refine st_iconst (v := (-1)) hc dX12_put_12 (by decide) ?_
    refine st_iret (st := []) hc dX12_put_13 rfl ?_
    rw [if_pos h9]; exact ⟨rfl, sE.rf⟩
def thA (σ : St) (d i : Int32) : Int32 := if ¬ (0 ≤ d ∧ d ≤ 5) then 1 else if σ 34 (nat d) = 0 ∨ σ 34 (nat d) = 4 ∨ ¬ (0 ≤ i ∧ nat i < nat (σ 35 (nat d))) then 2 else 0
def sp_at (σ : St) (d i : Int32) : Int32 × St := (if thA σ d i = 0 then σ 36 (60 * nat d + nat i) else 0, up σ 0 15 (thA σ d i))
theorem C12_at (σ : St) (hs : shOK σ) (d i : Int32) : Mt YM mX12_at 9 [.ref 0, .int d, .int i] σ (fun r τ => r = some (.int (sp_at σ d i).1) ∧ sE (sp_at σ d i).2 τ) := by
  refine Mt.ofA [some (.ref 0), some (.int d), some (.int i)] (by decide) (fun _ => Nat.le_of_ble_eq_true rfl) (fun _ => rfl) (fun g hc => ?_)
  unfold sp_at
  have k52 : ∀ x : Int32, x = thA σ d i → aW g YM 3 (fun r τ => r = some (.int (if thA σ d i = 0 then σ 36 (60 * nat d + nat i) else 0)) ∧ sE (up σ 0 15 (thA σ d i)) τ) 52 [some (.ref 0), some (.int d), some (.int i)] [.int x, .ref 0] σ := by
    intro x ex
    subst ex
    refine st_put hc dX12_at_52 fpX12_139 rfl rfl  ?_
    refine st_aload_n hc dX12_at_55 rfl rfl ?_
    refine st_getE hc dX12_at_56 flX12_139 rfl rfl (show _ = thA σ d i from rfl) ?_
    refine st_if_ne (tgt := 76) hc dX12_at_59 (by decide) (fun h59 => ?_) (fun h59 => ?_)
    · rw [if_neg h59]
      refine st_iconst (v := 0) hc dX12_at_76 (by decide) ?_
      refine st_iret (st := []) hc dX12_at_77 rfl ?_
      exact ⟨rfl, sE.rf⟩
    · rw [if_pos h59]
      have h9 : 0 ≤ d ∧ d ≤ 5 := Decidable.byContradiction (fun q => by unfold thA at h59; rw [if_pos q] at h59; exact absurd h59 (by decide))
      have h8 : 0 ≤ i ∧ nat i < nat (σ 35 (nat d)) := Decidable.byContradiction (fun q => by unfold thA at h59; rw [if_neg (fun z => z h9), if_pos (Or.inr (Or.inr q))] at h59; exact absurd h59 (by decide))
      obtain ⟨ed, hd⟩ := sh_n h9
      obtain ⟨hs0, hs60⟩ := hs _ hd
      have ei := (nI_nat h8.1).symm
      refine st_aload_n hc dX12_at_62 rfl rfl ?_
      refine st_getr hc dX12_at_63 flX12_130 rfl rfl ?_
      refine st_bipush (v := 60) hc dX12_at_66 (by decide) ?_
      refine st_iload_n hc dX12_at_68 rfl rfl ?_
      refine st_imul hc dX12_at_69 ?_
      refine st_iload_n hc dX12_at_70 rfl rfl ?_
      refine st_iadd hc dX12_at_71 ?_
      refine st_ialdN (k := 60 * nat d + nat i) hc dX12_at_72 rfl (by rw [show (60 : Int32) = nI 60 from rfl, ed, ei, nat_nI (by omega), nat_nI (by omega), pk_mul, nI_add]) (by omega) (by decide) rfl ?_
      refine st_goto (tgt := 77) hc dX12_at_73 (by decide) ?_
      refine st_iret (st := []) hc dX12_at_77 rfl ?_
      exact ⟨rfl, sE.rf⟩
  refine st_aload_n hc dX12_at_0 rfl rfl ?_
  refine st_iload_n hc dX12_at_1 rfl rfl ?_
  refine st_callSp hc dX12_at_2 (C12_isShelf 0 _ d) msX12_270 (by omega) rfl rfl (Nat.le_of_ble_eq_true rfl) ?_
  refine st_if_ne (tgt := 12) hc dX12_at_5 (by decide) (fun h5 => ?_) (fun h5 => ?_)
  · have h9 := it1.mp h5
    obtain ⟨ed, hd⟩ := sh_n h9
    obtain ⟨hs0, hs60⟩ := hs _ hd
    have es := (nI_nat hs0).symm
    have hin := in_n (x := i) (n := nat (σ 35 (nat d))) (by omega)
    rw [← es] at hin
    refine st_aload_n hc dX12_at_12 rfl rfl ?_
    refine st_getr hc dX12_at_13 flX12_124 rfl rfl ?_
    refine st_iload_n hc dX12_at_16 rfl rfl ?_
    refine st_ialdN (k := nat d) hc dX12_at_17 rfl (ed) (by omega) (by decide) rfl ?_
    refine st_if_eq (tgt := 47) hc dX12_at_18 (by decide) (fun h18 => ?_) (fun h18 => ?_)
    · refine st_iconst (v := 2) hc dX12_at_47 (by decide) ?_
      refine st_goto (tgt := 52) hc dX12_at_48 (by decide) ?_
      first
       | exact k52 _ rfl
       | exact k52 _ (by unfold thA; rw [if_pos h9])
       | exact k52 _ (by unfold thA; rw [if_neg (fun z => z h9), if_pos (Or.inl h18)])
       | exact k52 _ (by unfold thA; rw [if_neg (fun z => z h9), if_pos (Or.inr (Or.inl h28))])
    · refine st_aload_n hc dX12_at_21 rfl rfl ?_
      refine st_getr hc dX12_at_22 flX12_124 rfl rfl ?_
      refine st_iload_n hc dX12_at_25 rfl rfl ?_
      refine st_ialdN (k := nat d) hc dX12_at_26 rfl (ed) (by omega) (by decide) rfl ?_
      refine st_iconst (v := 4) hc dX12_at_27 (by decide) ?_
      refine st_icmp_eq (tgt := 47) hc dX12_at_28 (by decide) (fun h28 => ?_) (fun h28 => ?_)
      · refine st_iconst (v := 2) hc dX12_at_47 (by decide) ?_
        refine st_goto (tgt := 52) hc dX12_at_48 (by decide) ?_
        first
         | exact k52 _ rfl
         | exact k52 _ (by unfold thA; rw [if_pos h9])
         | exact k52 _ (by unfold thA; rw [if_neg (fun z => z h9), if_pos (Or.inl h18)])
         | exact k52 _ (by unfold thA; rw [if_neg (fun z => z h9), if_pos (Or.inr (Or.inl h28))])
      · refine st_iload_n hc dX12_at_31 rfl rfl ?_
        refine st_iconst (v := 0) hc dX12_at_32 (by decide) ?_
        refine st_aload_n hc dX12_at_33 rfl rfl ?_
        refine st_getr hc dX12_at_34 flX12_127 rfl rfl ?_
        refine st_iload_n hc dX12_at_37 rfl rfl ?_
        refine st_ialdN (k := nat d) hc dX12_at_38 rfl (ed) (by omega) (by decide) rfl ?_
        refine st_iconst (v := 1) hc dX12_at_39 (by decide) ?_
        refine st_isub hc dX12_at_40 ?_
        refine st_callSp hc dX12_at_41 (C12_in 0 _ i 0 (σ 35 (nat d) - 1)) msX12_142 (by omega) rfl rfl (Nat.le_of_ble_eq_true rfl) ?_
        refine st_t_if_ne (a := 2) (b := 0) hc dX12_at_44 dX12_at_47 dX12_at_48 dX12_at_51 (by decide) (by decide) ?_
        rw [show (if (if 0 ≤ i ∧ i ≤ σ 35 (nat d) - 1 then (1 : Int32) else 0) = 0 then (2 : Int32) else 0) = thA σ d i by
          have e9 : ¬ ¬ (0 ≤ d ∧ d ≤ 5) := fun q => q h9
          unfold thA
          rw [if_neg e9]
          by_cases q : 0 ≤ i ∧ nat i < nat (σ 35 (nat d))
          · rw [if_pos (hin.mpr q), if_neg (by decide), if_neg]
            rintro (z | z | z)
            · exact h18 z
            · exact h28 z
            · exact z q
          · rw [if_neg (fun z => q (hin.mp z)), if_pos rfl, if_pos (Or.inr (Or.inr q))]]
        first
         | exact k52 _ rfl
         | exact k52 _ (by unfold thA; rw [if_pos h9])
         | exact k52 _ (by unfold thA; rw [if_neg (fun z => z h9), if_pos (Or.inl h18)])
         | exact k52 _ (by unfold thA; rw [if_neg (fun z => z h9), if_pos (Or.inr (Or.inl h28))])
  · have h9 := it0.mp h5
    refine st_iconst (v := 1) hc dX12_at_8 (by decide) ?_
    refine st_goto (tgt := 52) hc dX12_at_9 (by decide) ?_
    first
     | exact k52 _ rfl
     | exact k52 _ (by unfold thA; rw [if_pos h9])
     | exact k52 _ (by unfold thA; rw [if_neg (fun z => z h9), if_pos (Or.inl h18)])
     | exact k52 _ (by unfold thA; rw [if_neg (fun z => z h9), if_pos (Or.inr (Or.inl h28))])
theorem C12_thrown (σ : St) : Mt YM mX12_thrown 9 [.ref 0] σ (fun r τ => r = some (.int (σ 0 15)) ∧ τ = σ) := by
  refine Mt.ofA [some (.ref 0)] (by decide) (fun _ => Nat.le_of_ble_eq_true rfl) (fun _ => rfl) (fun g hc => ?_)
  refine st_aload_n hc dX12_thrown_0 rfl rfl ?_
  refine st_getE hc dX12_thrown_1 flX12_139 rfl rfl rfl ?_
  refine st_iret (st := []) hc dX12_thrown_4 rfl ?_
  exact ⟨rfl, rfl⟩
/-! keep, copy, take, kept, toss -/
theorem lN_toI {n : Nat} (h : n < 2 ^ 62) : (lN n).toInt = (n : Int) := by
  unfold lN
  rw [Int64.toInt_ofNat_of_lt (by omega)]
theorem lN_ltB {a b : Nat} (ha : a < 2 ^ 62) (hb : b < 2 ^ 62) : lN a < lN b ↔ a < b := by
  rw [Int64.lt_iff_toInt_lt, lN_toI ha, lN_toI hb]
  omega
theorem lN_eqB {a b : Nat} (ha : a < 2 ^ 62) (hb : b < 2 ^ 62) : lN a = lN b ↔ a = b := by
  constructor
  · intro h
    have := congrArg Int64.toInt h
    rw [lN_toI ha, lN_toI hb] at this
    omega
  · intro h; rw [h]
theorem lg_gt {a b : Nat} (ha : a < 2 ^ 62) (hb : b < 2 ^ 62) : 0 < lg_cmp (lN a) (lN b) ↔ b < a := by
  unfold lg_cmp
  by_cases e : b < a
  · rw [if_pos ((lN_ltB hb ha).mpr e)]; simp [e]
  · rw [if_neg (fun q => e ((lN_ltB hb ha).mp q))]
    simp only [e, iff_false]
    split <;> decide
/-- two numbers together pass a third, counted in longs -/
theorem over {x y z : Int32} (hx : 0 ≤ x) (hy : 0 ≤ y) (hz : 0 ≤ z) : 0 < lg_cmp (x.toInt64 + y.toInt64) z.toInt64 ↔ nat z < nat x + nat y := by
  obtain ⟨a, ha, rfl⟩ := nI_of (Int32.not_lt.mpr hx)
  obtain ⟨b, hb, rfl⟩ := nI_of (Int32.not_lt.mpr hy)
  obtain ⟨c, hc, rfl⟩ := nI_of (Int32.not_lt.mpr hz)
  rw [nat_nI ha, nat_nI hb, nat_nI hc, nI_l ha, nI_l hb, nI_l hc, lN_add]
  exact lg_gt (by omega) (by omega)
abbrev kpS (σ : St) (d : Nat) : St := up (up (t0 σ) 34 d 4) 35 d (σ 0 0)
def sp_keep (σ : St) (d : Int32) : Int32 × St :=
  if 0 ≤ d ∧ d ≤ 5 then (sortS σ, va_up (up (kpS σ (nat d)) 37 (nat d) (sortS σ)) 36 (rng (60 * nat d) (pN σ) (σ 2) (σ 36))) else (-1, t0 σ)
theorem sE.up {σ τ : St} (h : sE σ τ) (k i : Nat) (x : Int32) : sE (up σ k i x) (up τ k i x) := by
  intro a b hp
  rw [up_eq, up_eq]
  split
  · rfl
  · exact h a b hp
theorem sE.vu {σ τ : St} (h : sE σ τ) (k : Nat) (w : Nat → Int32) : sE (va_up σ k w) (va_up τ k w) := by
  intro a b hp
  by_cases e : a = k
  · subst e; rw [vu_s, vu_s]
  · rw [vu_n e, vu_n e]; exact h a b hp
theorem sE.vx {σ τ : St} (h : sE σ τ) (k : Nat) {w v : Nat → Int32} (e : w = v) : sE (va_up σ k w) (va_up τ k v) := e ▸ h.vu k w
theorem C12_keep (σ : St) (hm : MI σ) (hh : hOK σ) (d : Int32) : Mt YM mX12_keep 9 [.ref 0, .int d] σ (fun r τ => r = some (.int (sp_keep σ d).1) ∧ sE (sp_keep σ d).2 τ) := by
  obtain ⟨⟨hP, hC, hP1, hP5, hC1, hC8⟩, -⟩ := id hm.1
  refine Mt.ofA [some (.ref 0), some (.int d), none] (by decide) (fun _ => Nat.le_of_ble_eq_true rfl) (fun _ => rfl) (fun g hc => ?_)
  unfold sp_keep
  have k43 : ∀ (Q : Option Value → St → Prop) (τ : St) (D : Nat), D < 6 → τ 0 0 = nI (pN σ) → Q (some (.int (τ 37 D))) (va_up τ 36 (rng (60 * D) (pN σ) (τ 2) (τ 36))) → aW g YM 3 Q 43 [some (.ref 0), some (.int (nI D)), some (.int (nI 0))] [] τ := by
    intro Q τ D hD hP hQ
    have h := lpN (n := pN σ) (F := fun i => aW g YM 3 Q 43 [some (.ref 0), some (.int (nI D)), some (.int (nI i))] [] (va_up τ 36 (rng (60 * D) i (τ 2) (τ 36)))) ?_ (fun i hi ih => ?_)
    · rw [rng_0, vu_id] at h
      exact h
    · refine st_iload_n hc dX12_keep_43 rfl rfl ?_
      refine st_aload_n hc dX12_keep_44 rfl rfl ?_
      refine st_getE hc dX12_keep_45 flX12_7 rfl rfl (hP) ?_
      refine st_icmp_ge (tgt := 74) hc dX12_keep_48 (by decide) (fun h48 => ?_) (fun h48 => ?_)
      · refine st_aload_n hc dX12_keep_74 rfl rfl ?_
        refine st_getr hc dX12_keep_75 flX12_133 rfl rfl ?_
        refine st_iload_n hc dX12_keep_78 rfl rfl ?_
        refine st_ialdN (k := D) hc dX12_keep_79 rfl (rfl) (by omega) (by decide) rfl ?_
        refine st_iret (st := []) hc dX12_keep_80 rfl ?_
        exact hQ
      · exact absurd (nI_le (Nat.le_refl _) (by omega)) h48
    · refine st_iload_n hc dX12_keep_43 rfl rfl ?_
      refine st_aload_n hc dX12_keep_44 rfl rfl ?_
      refine st_getE hc dX12_keep_45 flX12_7 rfl rfl (hP) ?_
      refine st_icmp_ge (tgt := 74) hc dX12_keep_48 (by decide) (fun h48 => ?_) (fun h48 => ?_)
      · exact absurd h48 (nI_ge hi (by omega))
      · refine st_aload_n hc dX12_keep_51 rfl rfl ?_
        refine st_getr hc dX12_keep_52 flX12_130 rfl rfl ?_
        refine st_bipush (v := 60) hc dX12_keep_55 (by decide) ?_
        refine st_iload_n hc dX12_keep_57 rfl rfl ?_
        refine st_imul hc dX12_keep_58 ?_
        refine st_iload_n hc dX12_keep_59 rfl rfl ?_
        refine st_iadd hc dX12_keep_60 ?_
        refine st_aload_n hc dX12_keep_61 rfl rfl ?_
        refine st_getr hc dX12_keep_62 flX12_23 rfl rfl ?_
        refine st_iload_n hc dX12_keep_65 rfl rfl ?_
        refine st_ialdN (k := i) hc dX12_keep_66 rfl (rfl) (by omega) (by decide) (show _ = τ 2 i from rfl) ?_
        refine st_iastN (k := 60 * D + i) hc dX12_keep_67 rfl (by rw [show (60 : Int32) = nI 60 from rfl, pk_mul, nI_add]) (by omega) (by decide)  ?_
        rw [vu_up, rng_s]
        refine st_inc hc dX12_keep_68 rfl (by decide) rfl ?_
        rw [nI_1]
        refine st_goto (tgt := 43) hc dX12_keep_71 (by decide) ?_
        exact ih
  refine st_aload_n hc dX12_keep_0 rfl rfl ?_
  refine st_iconst (v := 0) hc dX12_keep_1 (by decide) ?_
  refine st_put hc dX12_keep_2 fpX12_139 rfl rfl  ?_
  refine st_iload_n hc dX12_keep_5 rfl rfl ?_
  refine st_callSp hc dX12_keep_6 (C12_isShelf 0 _ d) msX12_270 (by omega) rfl rfl (Nat.le_of_ble_eq_true rfl) ?_
  refine st_if_ne (tgt := 14) hc dX12_keep_9 (by decide) (fun h9 => ?_) (fun h9 => ?_)
  · have h9 := it1.mp h9
    obtain ⟨ed, hd⟩ := sh_n h9
    rw [if_pos h9]
    refine st_aload_n hc dX12_keep_14 rfl rfl ?_
    refine st_getr hc dX12_keep_15 flX12_124 rfl rfl ?_
    refine st_iload_n hc dX12_keep_18 rfl rfl ?_
    refine st_iconst (v := 4) hc dX12_keep_19 (by decide) ?_
    refine st_iastN (k := nat d) hc dX12_keep_20 rfl (ed) (by omega) (by decide)  ?_
    refine st_aload_n hc dX12_keep_21 rfl rfl ?_
    refine st_getr hc dX12_keep_22 flX12_127 rfl rfl ?_
    refine st_iload_n hc dX12_keep_25 rfl rfl ?_
    refine st_aload_n hc dX12_keep_26 rfl rfl ?_
    refine st_getE hc dX12_keep_27 flX12_7 rfl rfl rfl ?_
    refine st_iastN (k := nat d) hc dX12_keep_30 rfl (ed) (by omega) (by decide)  ?_
    refine st_aload_n hc dX12_keep_31 rfl rfl ?_
    refine st_getr hc dX12_keep_32 flX12_133 rfl rfl ?_
    refine st_iload_n hc dX12_keep_35 rfl rfl ?_
    refine st_aload_n hc dX12_keep_36 rfl rfl ?_
    refine st_callVq hc dX12_keep_37 (C12_sortOf 3 (kpS σ (nat d)) hm hh) mvX12_205 (by omega) rfl rfl rfl (Nat.le_of_ble_eq_true rfl) ?_
    rintro τ hτ
    refine st_iastN (k := nat d) hc dX12_keep_40 rfl (ed) (by omega) (by decide)  ?_
    refine st_iconst (v := 0) hc dX12_keep_41 (by decide) ?_
    refine st_istore_n hc dX12_keep_42 rfl (by decide) rfl ?_
    have h := k43 (fun r υ => r = some (.int (sortS σ)) ∧ sE (va_up (up (kpS σ (nat d)) 37 (nat d) (sortS σ)) 36 (rng (60 * nat d) (pN σ) (σ 2) (σ 36))) υ) (up τ 37 (nat d) (sortS σ)) (nat d) hd ((hτ 0 0 rfl).trans hP) ⟨by rw [up_eq, if_pos ⟨rfl, rfl⟩], (hτ.up 37 (nat d) (sortS σ)).vx 36 (by
      have e1 : up τ 37 (nat d) (sortS σ) 36 = σ 36 := funext (fun b => hτ 36 b rfl)
      have e2 : up τ 37 (nat d) (sortS σ) 2 = σ 2 := funext (fun b => hτ 2 b rfl)
      rw [e1, e2])⟩
    rw [← ed] at h
    exact h
  · have h9 := it0.mp h9
    refine st_iconst (v := (-1)) hc dX12_keep_12 (by decide) ?_
    refine st_iret (st := []) hc dX12_keep_13 rfl ?_
    rw [if_neg h9]; exact ⟨rfl, sE.rf⟩

