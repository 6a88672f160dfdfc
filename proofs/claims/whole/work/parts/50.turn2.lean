/-! ===== the class: turnings, images ===== -/
theorem st_callSq {g : Gx} {Y : List Sh} {own : String} {cc : ByteArray} {nL : Nat} {ret : Option FieldType} {d : Nat} {Q : Option Value → St → Prop} {pc : Nat} {lv : List (Option Value)} {σ : St} {idx d' n : Nat} {md : Md} {As rest st0 : List Value} {v : Value} {P : St → Prop} (hc : cX g Y own cc nL ret d) (hdg : decode cc pc = .ok (.invokestatic idx, 3)) (hM : Mt Y md d' As σ (fun r τ => r = some v ∧ P τ)) (hL : MLs own idx md n) (hdd : d' + 1 ≤ d) (hn : As.length = n) (hst : st0 = As.reverse ++ rest) (hw : (rest.map fun v => v.category).sum ≤ 8)
    (kk : ∀ τ, P τ → aW g Y nL Q (pc + 3) lv (v :: rest) τ) : aW g Y nL Q pc lv st0 σ := st_callS hc hdg hM hL hdd hn hst hw (fun r τ h => by rw [h.1]; exact kk τ h.2)
theorem sumN_mul (n c : Nat) (f : Nat → Nat) : c * sumN n f = sumN n (fun j => c * f j) := by
  induction n with
  | zero => rfl
  | succ n ih => unfold sumN; rw [Nat.mul_add, ih]
theorem hN_sum (C : Nat) (f : Nat → Nat) : ∀ n, hN C f n = sumN n (fun j => C ^ (n - 1 - j) * f j) := by
  intro n
  induction n with
  | zero => rfl
  | succ n ih =>
    show C * hN C f n + f n = sumN n (fun j => C ^ (n + 1 - 1 - j) * f j) + C ^ (n + 1 - 1 - n) * f n
    rw [ih, sumN_mul]
    have e : C ^ (n + 1 - 1 - n) = 1 := by rw [show n + 1 - 1 - n = 0 by omega, Nat.pow_zero]
    rw [e, Nat.one_mul]
    congr 1
    apply sumN_congr
    intro j hj
    rw [← Nat.mul_assoc, ← Nat.pow_succ', show (n - 1 - j).succ = n + 1 - 1 - j by omega]
theorem sumN_zero {n : Nat} {f : Nat → Nat} (h : ∀ i, i < n → f i = 0) : sumN n f = 0 := by
  induction n with
  | zero => rfl
  | succ n ih => unfold sumN; rw [ih (fun i hi => h i (by omega)), h n (by omega)]
theorem sum_perm {P : Nat} {pl h : Nat → Nat} : ∀ n, (∀ i, i < n → pl i < P) → sumN n (fun i => h (pl i)) = sumN P (fun j => cnt n (fun i => pl i == j) * h j) := by
  intro n
  induction n with
  | zero => intro _; exact (sumN_zero (fun j _ => Nat.zero_mul _)).symm
  | succ n ih =>
    intro hp
    show sumN n (fun i => h (pl i)) + h (pl n) = _
    rw [ih (fun i hi => hp i (by omega))]
    have e : sumN P (fun j => cnt (n + 1) (fun i => pl i == j) * h j) = sumN P (fun j => cnt n (fun i => pl i == j) * h j + (if j = pl n then h (pl n) else 0)) := sumN_congr (fun j _ => by
      show (cnt n (fun i => pl i == j) + (if (pl n == j) = true then 1 else 0)) * h j = _
      rw [Nat.add_mul]
      congr 1
      by_cases q : j = pl n
      · subst q; simp
      · rw [if_neg q, beq_false_of_ne (fun z => q z.symm)]; simp)
    rw [e, sumN_add, sumN_at (hp n (by omega))]
theorem mkN_pl {P C : Nat} {pl co : Nat → Nat} {code : Nat} : ∀ n i, i < n → (∀ j, j < n → pl j = pl i → j = i) → mkN P C pl co code n (pl i) = co (pegOf P C code i) := by
  intro n
  induction n with
  | zero => intro i hi; omega
  | succ n ih =>
    intro i hi hinj
    show (if pl i = pl n then co (pegOf P C code n) else mkN P C pl co code n (pl i)) = _
    by_cases e : i = n
    · subst e; rw [if_pos rfl]
    · rw [if_neg (fun q => e (hinj n (by omega) q.symm).symm)]
      exact ih i (by omega) (fun j hj => hinj j (by omega))
abbrev imC (P C : Nat) (pl co : Nat → Nat) (code n : Nat) : Nat := sumN n (fun i => C ^ (P - 1 - pl i) * co (pegOf P C code i))
theorem im_eq {P C : Nat} {pl co : Nat → Nat} {code : Nat} (hp : ∀ i, i < P → pl i < P) (h1 : ∀ j, j < P → cnt P (fun i => pl i == j) = 1) (hinj : ∀ i, i < P → ∀ j, j < P → pl i = pl j → i = j) : imC P C pl co code P = imgN P C pl co code := by
  unfold imgN
  rw [hN_sum]
  have e : imC P C pl co code P = sumN P (fun i => (fun j => C ^ (P - 1 - j) * mkN P C pl co code P j) (pl i)) := sumN_congr (fun i hi => by
    show _ = C ^ (P - 1 - pl i) * mkN P C pl co code P (pl i)
    rw [mkN_pl P i hi (fun j hj q => hinj j hj i hi q)])
  rw [e, sum_perm (h := fun j => C ^ (P - 1 - j) * mkN P C pl co code P j) P hp]
  exact sumN_congr (fun j hj => by rw [h1 j hj, Nat.one_mul])
/-- the turnings' rows: worths, places, colours -/
def tuI (τ : St) (P C : Nat) (pl co : Nat → Nat) : Prop := (∀ i, i < P → τ 25 i = nI (C ^ (P - 1 - i))) ∧ (∀ i, i < P → τ 23 i = nI (pl i) ∧ pl i < P) ∧ ∀ c, c < C → τ 24 c = nI (co c) ∧ co c < C
theorem C10_weighPlaces (d : Nat) (σ : St) {P C : Nat} (hP : σ 1 0 = nI P) (hC : σ 1 1 = nI C) (hP1 : 1 ≤ P) (hP4 : P ≤ 4) : Mt YC mX10_weighPlaces d [.ref 22] σ (fun r τ => r = none ∧ ∃ w, (∀ i, i < P → w i = nI (C ^ (P - 1 - i))) ∧ τ = va_up σ 25 w) := by
  refine Mt.ofA [some (.ref 22), none, none] (by decide) (fun _ => Nat.le_of_ble_eq_true rfl) (fun _ => rfl) (fun g hc => ?_)
  have k12 : ∀ n w, n ≤ P → (∀ i, n ≤ i → i < P → w i = nI (C ^ (P - 1 - i))) → aW g YC 3 (fun r τ => r = none ∧ ∃ w, (∀ i, i < P → w i = nI (C ^ (P - 1 - i))) ∧ τ = va_up σ 25 w) 12 [some (.ref 22), some (.int (nI (C ^ (P - n)))), some (.int (nI n - 1))] [] (va_up σ 25 w) := by
    intro n
    induction n with
    | zero =>
      intro w _ hw
      refine st_iload_n hc dX10_weighPlaces_12 rfl rfl ?_
      refine st_if_lt (tgt := 39) hc dX10_weighPlaces_13 (by decide) (fun h13 => ?_) (fun h13 => ?_)
      · refine st_vret (st := []) hc dX10_weighPlaces_39 rfl ?_
        exact ⟨rfl, w, fun i hi => hw i (Nat.zero_le _) hi, rfl⟩
      · exact absurd (show nI 0 - 1 < 0 by decide) h13
    | succ n ih =>
      intro w hn hw
      rw [nI_pred]
      refine st_iload_n hc dX10_weighPlaces_12 rfl rfl ?_
      refine st_if_lt (tgt := 39) hc dX10_weighPlaces_13 (by decide) (fun h13 => ?_) (fun h13 => ?_)
      · exact absurd h13 (nI_pos (by omega))
      · refine st_aload_n hc dX10_weighPlaces_16 rfl rfl ?_
        refine st_getr hc dX10_weighPlaces_17 flX10_18 rfl rfl ?_
        refine st_iload_n hc dX10_weighPlaces_20 rfl rfl ?_
        refine st_iload_n hc dX10_weighPlaces_21 rfl rfl ?_
        refine st_iastN (k := n) hc dX10_weighPlaces_22 rfl (rfl) (by omega) (by first | decide | omega)  ?_
        rw [vu_up]
        refine st_iload_n hc dX10_weighPlaces_23 rfl rfl ?_
        refine st_aload_n hc dX10_weighPlaces_24 rfl rfl ?_
        refine st_getr hc dX10_weighPlaces_25 flX10_21 rfl rfl ?_
        refine st_getE hc dX10_weighPlaces_28 flX10_38 rfl rfl ((by rw [vu_n (by decide)]; exact hC : _ = nI C)) ?_
        refine st_imul hc dX10_weighPlaces_31 ?_
        rw [pk_mul, ← Nat.pow_succ, show (P - (n + 1)).succ = P - n by omega]
        refine st_istore_n hc dX10_weighPlaces_32 rfl (by decide) rfl ?_
        refine st_dec hc dX10_weighPlaces_33 rfl (by decide) rfl ?_
        refine st_goto (tgt := 12) hc dX10_weighPlaces_36 (by decide) ?_
        refine ih _ (by omega) (fun i hi hiP => ?_)
        by_cases e : i = n
        · subst e; rw [upd_s, show P - (i + 1) = P - 1 - i by omega]
        · rw [upd_n e]; exact hw i (by omega) hiP
  have h9 := k12 P (σ 25) (Nat.le_refl _) (fun i h1 h2 => by omega)
  rw [vu_id, Nat.sub_self, Nat.pow_zero] at h9
  refine st_iconst (v := 1) hc dX10_weighPlaces_0 (by decide) ?_
  refine st_istore_n hc dX10_weighPlaces_1 rfl (by decide) rfl ?_
  refine st_aload_n hc dX10_weighPlaces_2 rfl rfl ?_
  refine st_getr hc dX10_weighPlaces_3 flX10_21 rfl rfl ?_
  refine st_getE hc dX10_weighPlaces_6 flX10_28 rfl rfl (hP) ?_
  refine st_iconst (v := 1) hc dX10_weighPlaces_9 (by decide) ?_
  refine st_isub hc dX10_weighPlaces_10 ?_
  refine st_istore_n hc dX10_weighPlaces_11 rfl (by decide) rfl ?_
  exact h9
theorem C10_imageOf (d : Nat) (σ : St) {P C : Nat} {pl co : Nat → Nat} (hb : bkI σ P C) (hP4 : P ≤ 4) (hC5 : C ≤ 5) (ht : tuI σ P C pl co) {code : Nat} (hcode : code < C ^ P) : Mt YC mX10_imageOf (d + 1) [.ref 22, .int (nI code)] σ (fun r τ => r = some (.int (nI (imC P C pl co code P))) ∧ τ = σ) := by
  obtain ⟨t1, t2, t3⟩ := ht
  obtain ⟨⟨hz, h4, n0, n1, n2⟩, hr⟩ := id hb
  refine Mt.ofA [some (.ref 22), some (.int (nI code)), none, none] (by decide) (fun _ => Nat.le_of_ble_eq_true rfl) (fun _ => rfl) (fun g hc => ?_)
  have k4 : aW g YC 4 (fun r τ => r = some (.int (nI (imC P C pl co code P))) ∧ τ = σ) 4 [some (.ref 22), some (.int (nI code)), some (.int (nI (imC P C pl co code 0))), some (.int (nI 0))] [] σ := by
    refine lpN (n := P) (F := fun i => aW g YC 4 (fun r τ => r = some (.int (nI (imC P C pl co code P))) ∧ τ = σ) 4 [some (.ref 22), some (.int (nI code)), some (.int (nI (imC P C pl co code i))), some (.int (nI i))] [] σ) ?_ (fun i hi ih => ?_)
    · refine st_iload_n hc dX10_imageOf_4 rfl rfl ?_
      refine st_aload_n hc dX10_imageOf_5 rfl rfl ?_
      refine st_getr hc dX10_imageOf_6 flX10_21 rfl rfl ?_
      refine st_getE hc dX10_imageOf_9 flX10_28 rfl rfl (n0) ?_
      refine st_icmp_ge (tgt := 50) hc dX10_imageOf_12 (by decide) (fun h12 => ?_) (fun h12 => ?_)
      · refine st_iload_n hc dX10_imageOf_50 rfl rfl ?_
        refine st_iret (st := []) hc dX10_imageOf_51 rfl ?_
        exact ⟨rfl, rfl⟩
      · exact absurd (nI_le (Nat.le_refl _) (by omega)) h12
    · have hl : pegOf P C code i < C := pegOf_lt hz.2.2.1 code i
      obtain ⟨p1, p2⟩ := t2 i hi
      obtain ⟨c1, c2⟩ := t3 _ hl
      refine st_iload_n hc dX10_imageOf_4 rfl rfl ?_
      refine st_aload_n hc dX10_imageOf_5 rfl rfl ?_
      refine st_getr hc dX10_imageOf_6 flX10_21 rfl rfl ?_
      refine st_getE hc dX10_imageOf_9 flX10_28 rfl rfl (n0) ?_
      refine st_icmp_ge (tgt := 50) hc dX10_imageOf_12 (by decide) (fun h12 => ?_) (fun h12 => ?_)
      · exact absurd h12 (nI_ge hi (by omega))
      · refine st_iload_n hc dX10_imageOf_15 rfl rfl ?_
        refine st_aload_n hc dX10_imageOf_16 rfl rfl ?_
        refine st_getr hc dX10_imageOf_17 flX10_18 rfl rfl ?_
        refine st_aload_n hc dX10_imageOf_20 rfl rfl ?_
        refine st_getr hc dX10_imageOf_21 flX10_9 rfl rfl ?_
        refine st_iload_n hc dX10_imageOf_24 rfl rfl ?_
        refine st_ialdN (k := i) hc dX10_imageOf_25 rfl (rfl) (by omega) (by first | decide | omega) (p1) ?_
        refine st_ialdN (k := pl i) hc dX10_imageOf_26 rfl (rfl) (by omega) (by first | decide | omega) (t1 (pl i) p2) ?_
        refine st_aload_n hc dX10_imageOf_27 rfl rfl ?_
        refine st_getr hc dX10_imageOf_28 flX10_15 rfl rfl ?_
        refine st_aload_n hc dX10_imageOf_31 rfl rfl ?_
        refine st_getr hc dX10_imageOf_32 flX10_21 rfl rfl ?_
        refine st_iload_n hc dX10_imageOf_35 rfl rfl ?_
        refine st_iload_n hc dX10_imageOf_36 rfl rfl ?_
        refine st_callVp hc dX10_imageOf_37 (C0_colourAt d σ hb hcode hi) mvX10_53 (by omega) rfl rfl rfl (Nat.le_of_ble_eq_true rfl) ?_
        refine st_ialdN (k := pegOf P C code i) hc dX10_imageOf_40 rfl (rfl) (by omega) (by first | decide | omega) (c1) ?_
        refine st_imul hc dX10_imageOf_41 ?_
        rw [pk_mul]
        refine st_iadd hc dX10_imageOf_42 ?_
        rw [nI_add]
        refine st_istore_n hc dX10_imageOf_43 rfl (by decide) rfl ?_
        refine st_inc hc dX10_imageOf_44 rfl (by decide) rfl ?_
        rw [nI_1]
        refine st_goto (tgt := 4) hc dX10_imageOf_47 (by decide) ?_
        exact ih
  refine st_iconst (v := 0) hc dX10_imageOf_0 (by decide) ?_
  refine st_istore_n hc dX10_imageOf_1 rfl (by decide) rfl ?_
  refine st_iconst (v := 0) hc dX10_imageOf_2 (by decide) ?_
  refine st_istore_n hc dX10_imageOf_3 rfl (by decide) rfl ?_
  exact k4
theorem C10_keepsLeft (d : Nat) (σ : St) {P C n L : Nat} {pl co Lk : Nat → Nat} {ok : Nat → Bool} {fb : Nat → Nat} (hb : bkI σ P C) (hP4 : P ≤ 4) (hC5 : C ≤ 5) (ht : tuI σ P C pl co) (hl : lfI σ (C ^ P) n Lk) (hA : plA σ (C ^ P) ok fb L) (him : ∀ c, c < C ^ P → imC P C pl co c P < C ^ P) : Mt YC mX10_keepsLeft (d + 2) [.ref 22, .ref 7] σ (fun r τ => r = some (.int (bI (!anyN n (fun k => !lf ok fb L (imC P C pl co (Lk k) P))))) ∧ τ = σ) := by
  obtain ⟨l1, l2, l3⟩ := id hl
  have h4 := hb.1.2.1
  refine Mt.ofA [some (.ref 22), some (.ref 7), none] (by decide) (fun _ => Nat.le_of_ble_eq_true rfl) (fun _ => rfl) (fun g hc => ?_)
  have k2 : anyN 0 (fun k => !lf ok fb L (imC P C pl co (Lk k) P)) = false → aW g YC 3 (fun r τ => r = some (.int (bI (!anyN n (fun k => !lf ok fb L (imC P C pl co (Lk k) P))))) ∧ τ = σ) 2 [some (.ref 22), some (.ref 7), some (.int (nI 0))] [] σ := by
    refine lpN (n := n) (F := fun i => anyN i (fun k => !lf ok fb L (imC P C pl co (Lk k) P)) = false → aW g YC 3 (fun r τ => r = some (.int (bI (!anyN n (fun k => !lf ok fb L (imC P C pl co (Lk k) P))))) ∧ τ = σ) 2 [some (.ref 22), some (.ref 7), some (.int (nI i))] [] σ) (fun hz => ?_) (fun i hi ih hz => ?_)
    · refine st_iload_n hc dX10_keepsLeft_2 rfl rfl ?_
      refine st_aload_n hc dX10_keepsLeft_3 rfl rfl ?_
      refine st_getE hc dX10_keepsLeft_4 flX10_57 rfl rfl (l1) ?_
      refine st_icmp_ge (tgt := 35) hc dX10_keepsLeft_7 (by decide) (fun h7 => ?_) (fun h7 => ?_)
      · refine st_iconst (v := 1) hc dX10_keepsLeft_35 (by decide) ?_
        refine st_zret (st := []) hc dX10_keepsLeft_36 rfl (by simp) ?_
        rw [hz]
        exact ⟨rfl, rfl⟩
      · exact absurd (nI_le (Nat.le_refl _) (by omega)) h7
    · obtain ⟨m1, m2⟩ := l3 i hi
      have hm := him (Lk i) m2
      refine st_iload_n hc dX10_keepsLeft_2 rfl rfl ?_
      refine st_aload_n hc dX10_keepsLeft_3 rfl rfl ?_
      refine st_getE hc dX10_keepsLeft_4 flX10_57 rfl rfl (l1) ?_
      refine st_icmp_ge (tgt := 35) hc dX10_keepsLeft_7 (by decide) (fun h7 => ?_) (fun h7 => ?_)
      · exact absurd h7 (nI_ge hi (by omega))
      · refine st_aload_n hc dX10_keepsLeft_10 rfl rfl ?_
        refine st_aload_n hc dX10_keepsLeft_11 rfl rfl ?_
        refine st_aload_n hc dX10_keepsLeft_12 rfl rfl ?_
        refine st_getr hc dX10_keepsLeft_13 flX10_62 rfl rfl ?_
        refine st_iload_n hc dX10_keepsLeft_16 rfl rfl ?_
        refine st_ialdN (k := i) hc dX10_keepsLeft_17 rfl (rfl) (by omega) (by first | decide | omega) (m1) ?_
        refine st_callVp hc dX10_keepsLeft_18 (C10_imageOf d σ hb hP4 hC5 ht m2) mvX10_41 (by omega) rfl rfl rfl (Nat.le_of_ble_eq_true rfl) ?_
        refine st_callVp hc dX10_keepsLeft_21 (C5_isLeftN d σ hA hm) mvX10_65 (by omega) rfl rfl rfl (Nat.le_of_ble_eq_true rfl) ?_
        refine st_if_ne (tgt := 29) hc dX10_keepsLeft_24 (by decide) (fun h24 => ?_) (fun h24 => ?_)
        · have hz2 : anyN (i + 1) (fun k => !lf ok fb L (imC P C pl co (Lk k) P)) = false := by rw [anyN_s, hz]; show (false || !lf ok fb L (imC P C pl co (Lk i) P)) = false; rw [bI_t h24]; rfl
          refine st_inc hc dX10_keepsLeft_29 rfl (by decide) rfl ?_
          rw [nI_1]
          refine st_goto (tgt := 2) hc dX10_keepsLeft_32 (by decide) ?_
          exact ih hz2
        · have e : anyN n (fun k => !lf ok fb L (imC P C pl co (Lk k) P)) = true := (anyN_iff _ _).mpr ⟨i, hi, by show (!lf ok fb L (imC P C pl co (Lk i) P)) = true; rw [bI_0.mp h24]; rfl⟩
          refine st_iconst (v := 0) hc dX10_keepsLeft_27 (by decide) ?_
          refine st_zret (st := []) hc dX10_keepsLeft_28 rfl (by simp) ?_
          rw [e]
          exact ⟨rfl, rfl⟩
  refine st_iconst (v := 0) hc dX10_keepsLeft_0 (by decide) ?_
  refine st_istore_n hc dX10_keepsLeft_1 rfl (by decide) rfl ?_
  exact k2 rfl
abbrev goodC (P C n : Nat) (Lk : Nat → Nat) (p : Nat → Bool) (a b : Nat) (x y : Nat) : Bool := (imgL P C x y a == b) && !anyN n (fun k => !p (imgL P C x y (Lk k)))
theorem ord_img {P C x y : Nat} (hP4 : P ≤ 4) (hC5 : C ≤ 5) (hC1 : 1 ≤ C) (hx : x < fct P) (hy : y < fct C) (c : Nat) : imC P C (lat (ordL P x)) (lat (ordL C y)) c P = imgL P C x y c ∧ imgL P C x y c < C ^ P := by
  have o1 := ord_fin P (by omega) x hx
  have o2 := ord_fin C (by omega) y hy
  refine ⟨im_eq o1.2.2.1 (ord_1 P (by omega) x hx) (ord_inj P (by omega) x hx), ?_⟩
  exact hN_lt P (fun j _ => mkN_lt hC1 o2.2.2.1 c P j)
theorem C10_leads (d : Nat) (σ : St) {P C n L a b : Nat} {Lk : Nat → Nat} {ok : Nat → Bool} {fb : Nat → Nat} (hb : bkI σ P C) (hP4 : P ≤ 4) (hC5 : C ≤ 5) (hl : lfI σ (C ^ P) n Lk) (hA : plA σ (C ^ P) ok fb L) (ha : a < C ^ P) (hbb : b < C ^ P) : Mt YC mX10_leads (d + 3) [.ref 22, .ref 7, .int (nI a), .int (nI b)] σ (fun r τ => r = some (.int (bI (anyN (fct P) (fun x => anyN (fct C) (goodC P C n Lk (lf ok fb L) a b x))))) ∧ eqX 23 25 σ τ) := by
  obtain ⟨⟨hz, h4, n0, n1, n2⟩, hr⟩ := id hb
  obtain ⟨z1, z2, z3, z4, z5⟩ := hz
  have hfP := fct_le P (by omega)
  have hfC := fct_le C (by omega)
  have hfP0 := fct_pos P
  have hfC0 := fct_pos C
  refine Mt.ofA [some (.ref 22), some (.ref 7), some (.int (nI a)), some (.int (nI b)), none, none, none, none] (by decide) (fun _ => Nat.le_of_ble_eq_true rfl) (fun _ => rfl) (fun g hc => ?_)
  generalize hG : goodC P C n Lk (lf ok fb L) a b = G
  have bE : ∀ τ, eqX 23 25 σ τ → bkI τ P C := fun τ h => hb.eq (h 1 (by omega)) (h 2 (by omega)) (h 3 (by omega)) (h 4 (by omega))
  have lE : ∀ τ, eqX 23 25 σ τ → lfI τ (C ^ P) n Lk := fun τ h => hl.eq (by rw [h 7 (by omega)]) (h 16 (by omega))
  have aE : ∀ τ, eqX 23 25 σ τ → plA τ (C ^ P) ok fb L := fun τ h => hA.eq (by rw [h 1 (by omega)]) (by rw [h 7 (by omega)]) (h 14 (by omega)) (h 15 (by omega))
  have k23 : ∀ τ, (eqX 23 25 σ τ ∧ (∀ i, i < P → τ 25 i = nI (C ^ (P - 1 - i))) ∧ (0 < fct P → rwI (τ 23) P (lat (ordL P 0))) ∧ anyN 0 (fun x => anyN (fct C) (G x)) = false) → aW g YC 8 (fun r τ => r = some (.int (bI (anyN (fct P) (fun x => anyN (fct C) (G x))))) ∧ eqX 23 25 σ τ) 23 [some (.ref 22), some (.ref 7), some (.int (nI a)), some (.int (nI b)), some (.int (nI (fct P))), some (.int (nI 0)), none, none] [] τ := by
    refine lpN (n := fct P) (F := fun x => ∀ τ, (eqX 23 25 σ τ ∧ (∀ i, i < P → τ 25 i = nI (C ^ (P - 1 - i))) ∧ (x < fct P → rwI (τ 23) P (lat (ordL P x))) ∧ anyN x (fun x => anyN (fct C) (G x)) = false) → aW g YC 8 (fun r τ => r = some (.int (bI (anyN (fct P) (fun x => anyN (fct C) (G x))))) ∧ eqX 23 25 σ τ) 23 [some (.ref 22), some (.ref 7), some (.int (nI a)), some (.int (nI b)), some (.int (nI (fct P))), some (.int (nI x)), none, none] [] τ) (fun τ h => ?_) (fun x hx ih τ h => ?_)
    · obtain ⟨h1, h2, h3, h4⟩ := h
      refine st_iload hc dX10_leads_23 rfl ?_
      refine st_iload hc dX10_leads_25 rfl ?_
      refine st_icmp_ge (tgt := 115) hc dX10_leads_27 (by decide) (fun h27 => ?_) (fun h27 => ?_)
      · refine st_iconst (v := 0) hc dX10_leads_115 (by decide) ?_
        refine st_zret (st := []) hc dX10_leads_116 rfl (by simp) ?_
        rw [h4]
        exact ⟨rfl, h1⟩
      · exact absurd (nI_le (Nat.le_refl _) (by omega)) h27
    · obtain ⟨h1, h2, h3, hno⟩ := h
      have oP := ord_fin P (by omega) x hx
      have k49 : ∀ τ, (eqX 23 25 σ τ ∧ (∀ i, i < P → τ 25 i = nI (C ^ (P - 1 - i))) ∧ rwI (τ 23) P (lat (ordL P x)) ∧ (0 < fct C → rwI (τ 24) C (lat (ordL C 0))) ∧ anyN 0 (G x) = false) → aW g YC 8 (fun r τ => r = some (.int (bI (anyN (fct P) (fun x => anyN (fct C) (G x))))) ∧ eqX 23 25 σ τ) 49 [some (.ref 22), some (.ref 7), some (.int (nI a)), some (.int (nI b)), some (.int (nI (fct P))), some (.int (nI x)), some (.int (nI (fct C))), some (.int (nI 0))] [] τ := by
        refine lpN (n := fct C) (F := fun y => ∀ τ, (eqX 23 25 σ τ ∧ (∀ i, i < P → τ 25 i = nI (C ^ (P - 1 - i))) ∧ rwI (τ 23) P (lat (ordL P x)) ∧ (y < fct C → rwI (τ 24) C (lat (ordL C y))) ∧ anyN y (G x) = false) → aW g YC 8 (fun r τ => r = some (.int (bI (anyN (fct P) (fun x => anyN (fct C) (G x))))) ∧ eqX 23 25 σ τ) 49 [some (.ref 22), some (.ref 7), some (.int (nI a)), some (.int (nI b)), some (.int (nI (fct P))), some (.int (nI x)), some (.int (nI (fct C))), some (.int (nI y))] [] τ) (fun τ h => ?_) (fun y hy ih2 τ h => ?_)
        · obtain ⟨j1, j2, j3, j4, j5⟩ := h
          have hno2 : anyN (x + 1) (fun x => anyN (fct C) (G x)) = false := by rw [anyN_s, hno, j5]; rfl
          refine st_iload hc dX10_leads_49 rfl ?_
          refine st_iload hc dX10_leads_51 rfl ?_
          refine st_icmp_ge (tgt := 95) hc dX10_leads_53 (by decide) (fun h53 => ?_) (fun h53 => ?_)
          · refine st_aload_n hc dX10_leads_95 rfl rfl ?_
            refine st_getr hc dX10_leads_96 flX10_9 rfl rfl ?_
            refine st_aload_n hc dX10_leads_99 rfl rfl ?_
            refine st_getr hc dX10_leads_100 flX10_21 rfl rfl ?_
            refine st_getE hc dX10_leads_103 flX10_28 rfl rfl ((bE τ j1).1.2.2.1) ?_
            refine st_callSn hc dX10_leads_106 (C10_stepOrder (d + 1) τ (x := 23) (len := 4) rfl (by decide) z1 hP4 j3) msX10_49 (by omega) rfl rfl (Nat.le_of_ble_eq_true rfl) ?_
            rintro τ1 ⟨w, hw, e⟩
            subst e
            refine st_inc hc dX10_leads_109 rfl (by decide) rfl ?_
            rw [nI_1]
            refine st_goto (tgt := 23) hc dX10_leads_112 (by decide) ?_
            refine st_lvq _ (by simp [lvq, List.set]) (ih _ ⟨j1.vu (by decide) (by decide), fun i hi => by rw [vu_n (by decide)]; exact j2 i hi, fun hx1 => ?_, hno2⟩)
            rw [vu_s]
            intro i hi
            have := hw i hi
            rw [step_fin P (by omega) x (by omega) i hi] at this
            exact this
          · exact absurd (nI_le (Nat.le_refl _) (by omega)) h53
        · obtain ⟨j1, j2, j3, j4, j5⟩ := h
          have oC := ord_fin C (by omega) y hy
          have ht : tuI τ P C (lat (ordL P x)) (lat (ordL C y)) := ⟨j2, fun i hi => ⟨(j3 i hi).1, oP.2.2.1 i hi⟩, fun c hc => ⟨(j4 hy c hc).1, oC.2.2.1 c hc⟩⟩
          have im := ord_img hP4 hC5 z3 hx hy
          have hi1 := C10_imageOf (d + 1) τ (bE τ j1) hP4 hC5 ht ha
          rw [(im a).1] at hi1
          have hi2 := C10_keepsLeft d τ (bE τ j1) hP4 hC5 ht (lE τ j1) (aE τ j1) (fun c _ => by rw [(im c).1]; exact (im c).2)
          have e1 : (fun k => !lf ok fb L (imC P C (lat (ordL P x)) (lat (ordL C y)) (Lk k) P)) = fun k => !lf ok fb L (imgL P C x y (Lk k)) := by funext k; rw [(im (Lk k)).1]
          rw [e1] at hi2
          have hGy : G x y = ((imgL P C x y a == b) && !anyN n (fun k => !lf ok fb L (imgL P C x y (Lk k)))) := by rw [← hG]
          have hlt := (im a).2
          refine st_iload hc dX10_leads_49 rfl ?_
          refine st_iload hc dX10_leads_51 rfl ?_
          refine st_icmp_ge (tgt := 95) hc dX10_leads_53 (by decide) (fun h53 => ?_) (fun h53 => ?_)
          · exact absurd h53 (nI_ge hy (by omega))
          · refine st_aload_n hc dX10_leads_56 rfl rfl ?_
            refine st_iload_n hc dX10_leads_57 rfl rfl ?_
            refine st_callVp hc dX10_leads_58 (hi1) mvX10_41 (by omega) rfl rfl rfl (Nat.le_of_ble_eq_true rfl) ?_
            refine st_iload_n hc dX10_leads_61 rfl rfl ?_
            refine st_icmp_ne (tgt := 75) hc dX10_leads_62 (by decide) (fun h62 => ?_) (fun h62 => ?_)
            · have hg : G x y = false := by rw [hGy, beq_false_of_ne (fun q => h62 (by rw [q]))]; rfl
              refine st_aload_n hc dX10_leads_75 rfl rfl ?_
              refine st_getr hc dX10_leads_76 flX10_15 rfl rfl ?_
              refine st_aload_n hc dX10_leads_79 rfl rfl ?_
              refine st_getr hc dX10_leads_80 flX10_21 rfl rfl ?_
              refine st_getE hc dX10_leads_83 flX10_38 rfl rfl ((bE τ j1).1.2.2.2.1) ?_
              refine st_callSn hc dX10_leads_86 (C10_stepOrder (d + 1) τ (x := 24) (len := 5) rfl (by decide) z3 hC5 (j4 hy)) msX10_49 (by omega) rfl rfl (Nat.le_of_ble_eq_true rfl) ?_
              rintro τ1 ⟨w, hw, e⟩
              subst e
              refine st_inc hc dX10_leads_89 rfl (by decide) rfl ?_
              rw [nI_1]
              refine st_goto (tgt := 49) hc dX10_leads_92 (by decide) ?_
              refine ih2 _ ⟨j1.vu (by decide) (by decide), fun i hi => by rw [vu_n (by decide)]; exact j2 i hi, fun i hi => by rw [vu_n (by decide)]; exact j3 i hi, fun hy1 => ?_, by rw [anyN_s, j5, hg]; rfl⟩
              rw [vu_s]
              intro i hi
              have := hw i hi
              rw [step_fin C (by omega) y (by omega) i hi] at this
              exact this
            · have h62 := nI_inj (by omega) (by omega) h62
              refine st_aload_n hc dX10_leads_65 rfl rfl ?_
              refine st_aload_n hc dX10_leads_66 rfl rfl ?_
              refine st_callVp hc dX10_leads_67 (hi2) mvX10_45 (by omega) rfl rfl rfl (Nat.le_of_ble_eq_true rfl) ?_
              refine st_if_eq (tgt := 75) hc dX10_leads_70 (by decide) (fun h70 => ?_) (fun h70 => ?_)
              · have hg : G x y = false := by rw [hGy, bI_0.mp h70]; simp
                refine st_aload_n hc dX10_leads_75 rfl rfl ?_
                refine st_getr hc dX10_leads_76 flX10_15 rfl rfl ?_
                refine st_aload_n hc dX10_leads_79 rfl rfl ?_
                refine st_getr hc dX10_leads_80 flX10_21 rfl rfl ?_
                refine st_getE hc dX10_leads_83 flX10_38 rfl rfl ((bE τ j1).1.2.2.2.1) ?_
                refine st_callSn hc dX10_leads_86 (C10_stepOrder (d + 1) τ (x := 24) (len := 5) rfl (by decide) z3 hC5 (j4 hy)) msX10_49 (by omega) rfl rfl (Nat.le_of_ble_eq_true rfl) ?_
                rintro τ1 ⟨w, hw, e⟩
                subst e
                refine st_inc hc dX10_leads_89 rfl (by decide) rfl ?_
                rw [nI_1]
                refine st_goto (tgt := 49) hc dX10_leads_92 (by decide) ?_
                refine ih2 _ ⟨j1.vu (by decide) (by decide), fun i hi => by rw [vu_n (by decide)]; exact j2 i hi, fun i hi => by rw [vu_n (by decide)]; exact j3 i hi, fun hy1 => ?_, by rw [anyN_s, j5, hg]; rfl⟩
                rw [vu_s]
                intro i hi
                have := hw i hi
                rw [step_fin C (by omega) y (by omega) i hi] at this
                exact this
              · have hg : G x y = true := by rw [hGy, bI_t h70, h62]; simp
                have hall : anyN (fct P) (fun x => anyN (fct C) (G x)) = true := (anyN_iff _ _).mpr ⟨x, hx, (anyN_iff _ _).mpr ⟨y, hy, hg⟩⟩
                refine st_iconst (v := 1) hc dX10_leads_73 (by decide) ?_
                refine st_zret (st := []) hc dX10_leads_74 rfl (by simp) ?_
                rw [hall]
                exact ⟨rfl, j1⟩
      refine st_iload hc dX10_leads_23 rfl ?_
      refine st_iload hc dX10_leads_25 rfl ?_
      refine st_icmp_ge (tgt := 115) hc dX10_leads_27 (by decide) (fun h27 => ?_) (fun h27 => ?_)
      · exact absurd h27 (nI_ge hx (by omega))
      · refine st_aload_n hc dX10_leads_30 rfl rfl ?_
        refine st_getr hc dX10_leads_31 flX10_15 rfl rfl ?_
        refine st_aload_n hc dX10_leads_34 rfl rfl ?_
        refine st_getr hc dX10_leads_35 flX10_21 rfl rfl ?_
        refine st_getE hc dX10_leads_38 flX10_38 rfl rfl ((bE τ h1).1.2.2.2.1) ?_
        refine st_callSq hc dX10_leads_41 (C10_startOrders (d + 2) τ (x := 24) (len := 5) rfl (by decide) hC5) msX10_34 (by omega) rfl rfl (Nat.le_of_ble_eq_true rfl) ?_
        rintro τ1 e
        subst e
        refine st_istore hc dX10_leads_44 (by decide) rfl ?_
        refine st_iconst (v := 0) hc dX10_leads_46 (by decide) ?_
        refine st_istore hc dX10_leads_47 (by decide) rfl ?_
        refine k49 _ ⟨h1.vu (by decide) (by decide), fun i hi => by rw [vu_n (by decide)]; exact h2 i hi, fun i hi => by rw [vu_n (by decide)]; exact h3 hx i hi, fun _ => ?_, rfl⟩
        rw [vu_s]
        intro i hi
        rw [ord_0 C (by omega) i hi]
        unfold rng
        rw [if_pos ⟨Nat.zero_le _, by omega⟩, Nat.sub_zero]
        exact ⟨rfl, by omega⟩
  subst hG
  refine st_aload_n hc dX10_leads_0 rfl rfl ?_
  refine st_callVn hc dX10_leads_1 (C10_weighPlaces (d + 2) σ n0 n1 z1 hP4) mvX10_25 (by omega) rfl rfl rfl (Nat.le_of_ble_eq_true rfl) ?_
  rintro τ1 ⟨w, hw, e⟩
  subst e
  refine st_aload_n hc dX10_leads_4 rfl rfl ?_
  refine st_getr hc dX10_leads_5 flX10_9 rfl rfl ?_
  refine st_aload_n hc dX10_leads_8 rfl rfl ?_
  refine st_getr hc dX10_leads_9 flX10_21 rfl rfl ?_
  refine st_getE hc dX10_leads_12 flX10_28 rfl rfl ((by rw [vu_n (by decide)]; exact n0 : _ = nI P)) ?_
  refine st_callSq hc dX10_leads_15 (C10_startOrders (d + 2) (va_up σ 25 w) (x := 23) (len := 4) rfl (by decide) hP4) msX10_34 (by omega) rfl rfl (Nat.le_of_ble_eq_true rfl) ?_
  rintro τ1 e
  subst e
  refine st_istore hc dX10_leads_18 (by decide) rfl ?_
  refine st_iconst (v := 0) hc dX10_leads_20 (by decide) ?_
  refine st_istore hc dX10_leads_21 (by decide) rfl ?_
  refine k23 _ ⟨(eqX.rf.vu (by decide) (by decide)).vu (by decide) (by decide), fun i hi => by rw [vu_n (by decide), vu_s]; exact hw i hi, fun _ => ?_, rfl⟩
  rw [vu_s]
  intro i hi
  rw [ord_0 P (by omega) i hi]
  unfold rng
  rw [if_pos ⟨Nat.zero_le _, by omega⟩, Nat.sub_zero]
  exact ⟨rfl, by omega⟩

