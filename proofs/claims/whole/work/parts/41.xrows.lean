/-! ===== rows for Math.min, Math.max and System.arraycopy ===== -/
theorem st_min {g : Gx} {Y : List Sh} {own : String} {cc : ByteArray} {nL : Nat} {ret : Option FieldType} {d : Nat} {Q : Option Value → St → Prop} {pc : Nat} {lv : List (Option Value)} {st : List Value} {σ : St} {idx : Nat} {x y : Int32} (hc : cX g Y own cc nL ret d) (hd : decode cc pc = .ok (.invokestatic idx, 3)) (hl : Cond.methodLink own idx Lib.Math.min.name ∈ gw) (hd1 : 1 ≤ d) (hw : (st.map fun v => v.category).sum ≤ 8) (k : aW g Y nL Q (pc + 3) lv (.int (if y < x then y else x) :: st) σ) : aW g Y nL Q pc lv (.int y :: .int x :: st) σ := by
  obtain ⟨p, l, e, R, s, m, args, below, meth, c, D, dA, ad⟩ := g
  obtain ⟨hx, hb, hml, hr, hlk, hown, hts, hK, hD, hR, hN⟩ := hc
  intro H locs ls hP hS hls
  have hwr : ((st.map (cvv ad)).map fun v => v.category).sum ≤ 8 := by
    rw [List.map_map]
    have : ((fun v : Value => v.category) ∘ cvv ad) = (fun v => v.category) := by funext v; exact cvv_cat ad v
    rw [this]; exact hw
  subst hR
  exact va_mmin hx hb (hml.trans hls.1.symm) hown (hts _ hl) (hts _ (gw1 776 (by decide +kernel) rfl)) (hts _ (gw1 17 (by decide +kernel) rfl)) (hts _ (gw1 777 (by decide +kernel) rfl)) (by simp only [rmD]; omega) (by simp only [rmD]; omega) (Nat.zero_le _) (Nat.zero_le _) hd (k H locs ls hP hS hls)
theorem st_max {g : Gx} {Y : List Sh} {own : String} {cc : ByteArray} {nL : Nat} {ret : Option FieldType} {d : Nat} {Q : Option Value → St → Prop} {pc : Nat} {lv : List (Option Value)} {st : List Value} {σ : St} {idx : Nat} {x y : Int32} (hc : cX g Y own cc nL ret d) (hd : decode cc pc = .ok (.invokestatic idx, 3)) (hl : Cond.methodLink own idx Lib.Math.max.name ∈ gw) (hd1 : 1 ≤ d) (hw : (st.map fun v => v.category).sum ≤ 8) (k : aW g Y nL Q (pc + 3) lv (.int (if x < y then y else x) :: st) σ) : aW g Y nL Q pc lv (.int y :: .int x :: st) σ := by
  obtain ⟨p, l, e, R, s, m, args, below, meth, c, D, dA, ad⟩ := g
  obtain ⟨hx, hb, hml, hr, hlk, hown, hts, hK, hD, hR, hN⟩ := hc
  intro H locs ls hP hS hls
  have hwr : ((st.map (cvv ad)).map fun v => v.category).sum ≤ 8 := by
    rw [List.map_map]
    have : ((fun v : Value => v.category) ∘ cvv ad) = (fun v => v.category) := by funext v; exact cvv_cat ad v
    rw [this]; exact hw
  subst hR
  exact va_mmax hx hb (hml.trans hls.1.symm) hown (hts _ hl) (hts _ (gw1 906 (by decide +kernel) rfl)) (hts _ (gw1 17 (by decide +kernel) rfl)) (hts _ (gw1 907 (by decide +kernel) rfl)) (by simp only [rmD]; omega) (by simp only [rmD]; omega) (Nat.zero_le _) (Nat.zero_le _) hd (k H locs ls hP hS hls)
theorem nfw : nativeFrameWords "java/lang/System" "arraycopy" 5 + 11 ≤ 50 := by decide
theorem st_acopy {g : Gx} {Y : List Sh} {own : String} {cc : ByteArray} {nL : Nat} {ret : Option FieldType} {d : Nat} {Q : Option Value → St → Prop} {pc : Nat} {lv : List (Option Value)} {st : List Value} {σ : St} {idx a b n0 n1 : Nat} {rs0 rs1 : List Nat} {s t m : Nat} {xs xt xm : Int32} (hc : cX g Y own cc nL ret d) (hd : decode cc pc = .ok (.invokestatic idx, 3)) (hl : Cond.methodLink own idx arraycopyName ∈ gw) (hd1 : 1 ≤ d) (hy0 : Y[a]? = some (.inl (0, n0, rs0))) (hy1 : Y[b]? = some (.inl (0, n1, rs1))) (es : xs = nI s) (et : xt = nI t) (em : xm = nI m) (h0 : s + m ≤ n0) (h1 : t + m ≤ n1) (hn0 : n0 < 2 ^ 31) (hn1 : n1 < 2 ^ 31) (hw : (st.map fun v => v.category).sum ≤ 8) (k : aW g Y nL Q (pc + 3) lv st (va_up σ b (rng t m (fun k => σ a (s + k)) (σ b)))) : aW g Y nL Q pc lv (.int xm :: .int xt :: .ref b :: .int xs :: .ref a :: st) σ := by
  obtain ⟨p, l, e, R, s0, m0, args, below, meth, c, D, dA, ad⟩ := g
  obtain ⟨hx, hb, hml, hr, hlk, hown, hts, hK, hD, hR, hN⟩ := hc
  intro H locs ls hP hS hls
  have hwr : ((st.map (cvv ad)).map fun v => v.category).sum ≤ 8 := by
    rw [List.map_map]
    have : ((fun v : Value => v.category) ∘ cvv ad) = (fun v => v.category) := by funext v; exact cvv_cat ad v
    rw [this]; exact hw
  subst hR
  subst es et em
  have cs : (nI s).toNatClampNeg = s := nI_clamp (by omega)
  have ct : (nI t).toNatClampNeg = t := nI_clamp (by omega)
  have cm : (nI m).toNatClampNeg = m := nI_clamp (by omega)
  have hn := nfw
  refine va_copyi hx hb (hml.trans hls.1.symm) hown (hts _ hl) (hts _ (gw1 670 (by decide +kernel) rfl)) (hts _ (gw1 669 (by decide +kernel) rfl)) (hts _ (gw1 16 (by decide +kernel) rfl)) hK hP (hD.D dA σ) hS a b 0 0 (wW_at hy0) (wW_at hy1) rfl rfl rfl (nI_pos (by omega)) (nI_pos (by omega)) (nI_pos (by omega)) (by rw [cs, cm]; exact h0) (by rw [ct, cm]; exact h1) (fun _ _ => rfl) (by simp only [rmD]; omega) (by simp only [rmD]; omega) hd (fun H1 locs1 hP1 _ hS1 => ?_)
  rw [cs, ct, cm] at hP1
  have hset : (wW dA ad σ 0 Y).set b (ad b, .inl (dA 0, n1, .inl (va_cpy (σ a) (σ b) s t m))) = wW dA ad (va_up σ b (rng t m (fun k => σ a (s + k)) (σ b))) 0 Y := wW_set hy1 (by show _ = Sum.inl (dA 0, n1, Sum.inl (va_up σ b (rng t m (fun k => σ a (s + k)) (σ b)) b)); rw [vu_s]; rfl) (fun j h => vu_n h)
  rw [hset] at hP1
  exact k H1 locs1 ls hP1 hS1 hls
theorem lkmin1_68 : Cond.methodLink RX1 68 Lib.Math.min.name ∈ gw := gw1 775 (by decide +kernel) rfl
theorem lkmax4_49 : Cond.methodLink RX4 49 Lib.Math.max.name ∈ gw := gw1 905 (by decide +kernel) rfl
theorem lkcpy5_122 : Cond.methodLink RX5 122 arraycopyName ∈ gw := gw1 668 (by decide +kernel) rfl
theorem lkcpy1_80 : Cond.methodLink RX1 80 arraycopyName ∈ gw := gw1 778 (by decide +kernel) rfl
theorem lkcpy7_36 : Cond.methodLink RX7 36 arraycopyName ∈ gw := gw1 958 (by decide +kernel) rfl
theorem lkcpy11_371 : Cond.methodLink RX11 371 arraycopyName ∈ gw := gw1 983 (by decide +kernel) rfl
theorem min_n {a b : Nat} (ha : a < 2 ^ 31) (hb : b < 2 ^ 31) : (if nI b < nI a then nI b else nI a) = nI (min a b) := by
  by_cases h : b < a
  · rw [if_pos ((nI_ltI hb ha).mpr h), Nat.min_eq_right (Nat.le_of_lt h)]
  · rw [if_neg (fun q => h ((nI_ltI hb ha).mp q)), Nat.min_eq_left (by omega)]
theorem max_n {a b : Nat} (ha : a < 2 ^ 31) (hb : b < 2 ^ 31) : (if nI a < nI b then nI b else nI a) = nI (max a b) := by
  by_cases h : a < b
  · rw [if_pos ((nI_ltI ha hb).mpr h), Nat.max_eq_right (Nat.le_of_lt h)]
  · rw [if_neg (fun q => h ((nI_ltI ha hb).mp q)), Nat.max_eq_left (by omega)]

