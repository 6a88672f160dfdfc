/-! ===== a judgement like aW with any end, and room to make things ===== -/
def bX (g : Gx) (Y : List Sh) (own : String) (cc : ByteArray) (nL : Nat) (ret : Option FieldType) (d : Nat) : Prop := match g with
  | (p, _, _, R, s, m, args, _, meth, c, D, dA, ad) => p.tables.exec = Jvm.exec ∧ c.code = cc ∧ c.maxLocals = nL ∧ meth.sig.returnType = ret ∧ meth.locks = false ∧ s.vm.findClass own = some m.cls ∧ (∀ w ∈ gw, w.before args s = true) ∧ va_K D vwCl (tyl dA) s ∧ cD ad Y ∧ (d ≤ R.frames ∧ 64 * d ≤ R.locals) ∧ nK s
def bW (g : Gx) (Y : List Sh) (nL : Nat) (Z : State → Prop) (nc ns : Nat) (pc : Nat) (lv : List (Option Value)) (st : List Value) (σ : St) : Prop := match g with
  | (p, l, e, R, s, m, args, below, meth, c, D, dA, ad) => ∀ (H : Heap) (locs : List Loc) (ls : Array Slot), va_P D vwCl (wW dA ad σ 0 Y) H → va_S (cA ad Y) s.heap H locs → lv_has ls nL (lvl ad 0 lv) →
      W p l e R s m args below meth c H locs nc ns Z (F0 m pc ls (st.map (cvv ad)))
theorem bW_run {p : Program} {l : Launch} {e : Env} {R : Room} {s : State} {m : MethodId} {args : Array Value} {below : List Frame} {meth : Method} {c : Code} {D : va_G} {dA : Nat → ClassId} {ad : Nat → Nat} {Y : List Sh} {nL : Nat} {P : Option Value → St → Prop} {Z : State → Prop} {nc ns : Nat} {pc : Nat} {lv : List (Option Value)} {rest : List Value} {H : Heap} {locs : List Loc} {ls : Array Slot} {st0 : List Value} {a : Array Value}
    (hr : va_Run p l e R s m args below meth c H locs nc ns 0 0 (F0 m pc ls st0) (rest.map (cvv ad)) (cQ D dA ad Y P a) (cA ad Y)) (hS : va_S (cA ad Y) s.heap H locs) (hl : lv_has ls nL (lvl ad 0 lv))
    (kk : ∀ (r : Option Value) (τ : St), P r τ → bW (p, l, e, R, s, m, args, below, meth, c, D, dA, ad) Y nL Z nc ns (pc + 3) lv (r.toList ++ rest) τ) : W p l e R s m args below meth c H locs nc ns Z (F0 m pc ls st0) := by
  intro T hT X
  obtain ⟨v, st₀, t, T', L, h0, X', hL, e1, e2, ⟨⟨r, τ, hv, hp, hb⟩, hz, hk⟩, stp⟩ := hr T hT X
  cases hv
  rw [h0] at hz hk
  have hS' : va_S (cA ad Y) s.heap T'.heap (locs ++ L) := ⟨Nat.le_trans hS.1 (by rw [e1]; exact hz), fun q h1 h2 => by rw [e1, hk q (Nat.lt_of_lt_of_le h1 hS.1) h2]; exact hS.2.1 q h1 h2, fun q hq => by
      rcases List.mem_append.mp hq with h | h
      · exact hS.2.2 q h
      · exact hL q h⟩
  obtain ⟨t2, a1, b1⟩ := kk r τ hp T'.heap (locs ++ L) ls (by rw [e1]; exact hb) hS' hl T' rfl X'
  refine ⟨t2, stp t2 ?_, b1⟩
  have he : (r.map (cvv ad)).toList ++ rest.map (cvv ad) = (r.toList ++ rest).map (cvv ad) := by cases r <;> simp
  show Steps p.tables e below (T'.setTop (F0 m (pc + 3) ls ((r.map (cvv ad)).toList ++ rest.map (cvv ad)))) t2
  rw [he]
  exact a1
theorem bt_iconst {g : Gx} {Y : List Sh} {own : String} {cc : ByteArray} {nL : Nat} {ret : Option FieldType} {d : Nat} {Z : State → Prop} {nc ns : Nat} {pc : Nat} {lv : List (Option Value)} {st : List Value} {σ : St} {n : Int} {v : Int32} (hc : bX g Y own cc nL ret d) (hd : decode cc pc = .ok (.iconst n, 1)) (hv : Int32.ofInt n = v) (k : bW g Y nL Z nc ns (pc + 1) lv (.int v :: st) σ) : bW g Y nL Z nc ns pc lv st σ := by
  obtain ⟨p, l, e, R, s, m, args, below, meth, c, D, dA, ad⟩ := g
  obtain ⟨hx, hb, hml, hr, hlk, hown, hts, hK, hD, hR, hN⟩ := hc
  intro H locs ls hP hS hl
  exact lv_iconst hx hb hd hv (k H locs ls hP hS hl)
theorem bt_bipush {g : Gx} {Y : List Sh} {own : String} {cc : ByteArray} {nL : Nat} {ret : Option FieldType} {d : Nat} {Z : State → Prop} {nc ns : Nat} {pc : Nat} {lv : List (Option Value)} {st : List Value} {σ : St} {n : Int} {v : Int32} (hc : bX g Y own cc nL ret d) (hd : decode cc pc = .ok (.bipush n, 2)) (hv : (Int8.ofInt n).toInt32 = v) (k : bW g Y nL Z nc ns (pc + 2) lv (.int v :: st) σ) : bW g Y nL Z nc ns pc lv st σ := by
  obtain ⟨p, l, e, R, s, m, args, below, meth, c, D, dA, ad⟩ := g
  obtain ⟨hx, hb, hml, hr, hlk, hown, hts, hK, hD, hR, hN⟩ := hc
  intro H locs ls hP hS hl
  exact lv_bipush hx hb hd hv (k H locs ls hP hS hl)
theorem bt_iload_n {g : Gx} {Y : List Sh} {own : String} {cc : ByteArray} {nL : Nat} {ret : Option FieldType} {d : Nat} {Z : State → Prop} {nc ns : Nat} {pc : Nat} {lv : List (Option Value)} {st : List Value} {σ : St} {j : Fin 4} {i : Nat} {x : Int32} (hc : bX g Y own cc nL ret d) (hd : decode cc pc = .ok (.iload_n j, 1)) (hi : (j : Nat) = i) (hv : lv[i]? = some (some (.int x))) (k : bW g Y nL Z nc ns (pc + 1) lv (.int x :: st) σ) : bW g Y nL Z nc ns pc lv st σ := by
  obtain ⟨p, l, e, R, s, m, args, below, meth, c, D, dA, ad⟩ := g
  obtain ⟨hx, hb, hml, hr, hlk, hown, hts, hK, hD, hR, hN⟩ := hc
  intro H locs ls hP hS hl
  exact lv_iload_n hx hb hd hi (lvl_at hl hv) (k H locs ls hP hS hl)
theorem bt_iload {g : Gx} {Y : List Sh} {own : String} {cc : ByteArray} {nL : Nat} {ret : Option FieldType} {d : Nat} {Z : State → Prop} {nc ns : Nat} {pc : Nat} {lv : List (Option Value)} {st : List Value} {σ : St} {i : Nat} {x : Int32} (hc : bX g Y own cc nL ret d) (hd : decode cc pc = .ok (.iload i, 2)) (hv : lv[i]? = some (some (.int x))) (k : bW g Y nL Z nc ns (pc + 2) lv (.int x :: st) σ) : bW g Y nL Z nc ns pc lv st σ := by
  obtain ⟨p, l, e, R, s, m, args, below, meth, c, D, dA, ad⟩ := g
  obtain ⟨hx, hb, hml, hr, hlk, hown, hts, hK, hD, hR, hN⟩ := hc
  intro H locs ls hP hS hl
  exact lv_iload hx hb hd (lvl_at hl hv) (k H locs ls hP hS hl)
theorem bt_aload_n {g : Gx} {Y : List Sh} {own : String} {cc : ByteArray} {nL : Nat} {ret : Option FieldType} {d : Nat} {Z : State → Prop} {nc ns : Nat} {pc : Nat} {lv : List (Option Value)} {st : List Value} {σ : St} {j : Fin 4} {i : Nat} {x : Nat} (hc : bX g Y own cc nL ret d) (hd : decode cc pc = .ok (.aload_n j, 1)) (hi : (j : Nat) = i) (hv : lv[i]? = some (some (.ref x))) (k : bW g Y nL Z nc ns (pc + 1) lv (.ref x :: st) σ) : bW g Y nL Z nc ns pc lv st σ := by
  obtain ⟨p, l, e, R, s, m, args, below, meth, c, D, dA, ad⟩ := g
  obtain ⟨hx, hb, hml, hr, hlk, hown, hts, hK, hD, hR, hN⟩ := hc
  intro H locs ls hP hS hl
  exact lv_aload_n hx hb hd hi (lvl_at hl hv) (k H locs ls hP hS hl)
theorem bt_aload {g : Gx} {Y : List Sh} {own : String} {cc : ByteArray} {nL : Nat} {ret : Option FieldType} {d : Nat} {Z : State → Prop} {nc ns : Nat} {pc : Nat} {lv : List (Option Value)} {st : List Value} {σ : St} {i : Nat} {x : Nat} (hc : bX g Y own cc nL ret d) (hd : decode cc pc = .ok (.aload i, 2)) (hv : lv[i]? = some (some (.ref x))) (k : bW g Y nL Z nc ns (pc + 2) lv (.ref x :: st) σ) : bW g Y nL Z nc ns pc lv st σ := by
  obtain ⟨p, l, e, R, s, m, args, below, meth, c, D, dA, ad⟩ := g
  obtain ⟨hx, hb, hml, hr, hlk, hown, hts, hK, hD, hR, hN⟩ := hc
  intro H locs ls hP hS hl
  exact lv_aload hx hb hd (lvl_at hl hv) (k H locs ls hP hS hl)
theorem bt_istore_n {g : Gx} {Y : List Sh} {own : String} {cc : ByteArray} {nL : Nat} {ret : Option FieldType} {d : Nat} {Z : State → Prop} {nc ns : Nat} {pc : Nat} {lv : List (Option Value)} {st : List Value} {σ : St} {j : Fin 4} {i : Nat} {x : Int32} (hc : bX g Y own cc nL ret d) (hd : decode cc pc = .ok (.istore_n j, 1)) (hi : (j : Nat) = i) (hn : i < nL) (hok : lvok lv i = true) (k : bW g Y nL Z nc ns (pc + 1) (lv.set i (some (.int x))) st σ) : bW g Y nL Z nc ns pc lv (.int x :: st) σ := by
  obtain ⟨p, l, e, R, s, m, args, below, meth, c, D, dA, ad⟩ := g
  obtain ⟨hx, hb, hml, hr, hlk, hown, hts, hK, hD, hR, hN⟩ := hc
  intro H locs ls hP hS hl
  exact lv_istore_n hx hb hd hi hl hn rfl (fun ls hl => k H locs ls hP hS (lvl_set1 hok hl))
theorem bt_istore {g : Gx} {Y : List Sh} {own : String} {cc : ByteArray} {nL : Nat} {ret : Option FieldType} {d : Nat} {Z : State → Prop} {nc ns : Nat} {pc : Nat} {lv : List (Option Value)} {st : List Value} {σ : St} {i : Nat} {x : Int32} (hc : bX g Y own cc nL ret d) (hd : decode cc pc = .ok (.istore i, 2)) (hn : i < nL) (hok : lvok lv i = true) (k : bW g Y nL Z nc ns (pc + 2) (lv.set i (some (.int x))) st σ) : bW g Y nL Z nc ns pc lv (.int x :: st) σ := by
  obtain ⟨p, l, e, R, s, m, args, below, meth, c, D, dA, ad⟩ := g
  obtain ⟨hx, hb, hml, hr, hlk, hown, hts, hK, hD, hR, hN⟩ := hc
  intro H locs ls hP hS hl
  exact lv_istore hx hb hd hl hn rfl (fun ls hl => k H locs ls hP hS (lvl_set1 hok hl))
theorem bt_astore_n {g : Gx} {Y : List Sh} {own : String} {cc : ByteArray} {nL : Nat} {ret : Option FieldType} {d : Nat} {Z : State → Prop} {nc ns : Nat} {pc : Nat} {lv : List (Option Value)} {st : List Value} {σ : St} {j : Fin 4} {i : Nat} {x : Nat} (hc : bX g Y own cc nL ret d) (hd : decode cc pc = .ok (.astore_n j, 1)) (hi : (j : Nat) = i) (hn : i < nL) (hok : lvok lv i = true) (k : bW g Y nL Z nc ns (pc + 1) (lv.set i (some (.ref x))) st σ) : bW g Y nL Z nc ns pc lv (.ref x :: st) σ := by
  obtain ⟨p, l, e, R, s, m, args, below, meth, c, D, dA, ad⟩ := g
  obtain ⟨hx, hb, hml, hr, hlk, hown, hts, hK, hD, hR, hN⟩ := hc
  intro H locs ls hP hS hl
  exact lv_astore_n hx hb hd hi hl hn rfl (fun ls hl => k H locs ls hP hS (lvl_set1 hok hl))
theorem bt_astore {g : Gx} {Y : List Sh} {own : String} {cc : ByteArray} {nL : Nat} {ret : Option FieldType} {d : Nat} {Z : State → Prop} {nc ns : Nat} {pc : Nat} {lv : List (Option Value)} {st : List Value} {σ : St} {i : Nat} {x : Nat} (hc : bX g Y own cc nL ret d) (hd : decode cc pc = .ok (.astore i, 2)) (hn : i < nL) (hok : lvok lv i = true) (k : bW g Y nL Z nc ns (pc + 2) (lv.set i (some (.ref x))) st σ) : bW g Y nL Z nc ns pc lv (.ref x :: st) σ := by
  obtain ⟨p, l, e, R, s, m, args, below, meth, c, D, dA, ad⟩ := g
  obtain ⟨hx, hb, hml, hr, hlk, hown, hts, hK, hD, hR, hN⟩ := hc
  intro H locs ls hP hS hl
  exact lv_astore hx hb hd hl hn rfl (fun ls hl => k H locs ls hP hS (lvl_set1 hok hl))
theorem bt_iadd {g : Gx} {Y : List Sh} {own : String} {cc : ByteArray} {nL : Nat} {ret : Option FieldType} {d : Nat} {Z : State → Prop} {nc ns : Nat} {pc : Nat} {lv : List (Option Value)} {st : List Value} {σ : St} {x y : Int32} (hc : bX g Y own cc nL ret d) (hd : decode cc pc = .ok (.iadd, 1))  (k : bW g Y nL Z nc ns (pc + 1) lv (.int (x + y) :: st) σ) : bW g Y nL Z nc ns pc lv (.int y :: .int x :: st) σ := by
  obtain ⟨p, l, e, R, s, m, args, below, meth, c, D, dA, ad⟩ := g
  obtain ⟨hx, hb, hml, hr, hlk, hown, hts, hK, hD, hR, hN⟩ := hc
  intro H locs ls hP hS hl
  exact lv_iadd hx hb hd (k H locs ls hP hS hl)
theorem bt_isub {g : Gx} {Y : List Sh} {own : String} {cc : ByteArray} {nL : Nat} {ret : Option FieldType} {d : Nat} {Z : State → Prop} {nc ns : Nat} {pc : Nat} {lv : List (Option Value)} {st : List Value} {σ : St} {x y : Int32} (hc : bX g Y own cc nL ret d) (hd : decode cc pc = .ok (.isub, 1))  (k : bW g Y nL Z nc ns (pc + 1) lv (.int (x - y) :: st) σ) : bW g Y nL Z nc ns pc lv (.int y :: .int x :: st) σ := by
  obtain ⟨p, l, e, R, s, m, args, below, meth, c, D, dA, ad⟩ := g
  obtain ⟨hx, hb, hml, hr, hlk, hown, hts, hK, hD, hR, hN⟩ := hc
  intro H locs ls hP hS hl
  exact lv_isub hx hb hd (k H locs ls hP hS hl)
theorem bt_i2l {g : Gx} {Y : List Sh} {own : String} {cc : ByteArray} {nL : Nat} {ret : Option FieldType} {d : Nat} {Z : State → Prop} {nc ns : Nat} {pc : Nat} {lv : List (Option Value)} {st : List Value} {σ : St} {x : Int32} (hc : bX g Y own cc nL ret d) (hd : decode cc pc = .ok (.i2l, 1))  (k : bW g Y nL Z nc ns (pc + 1) lv (.long x.toInt64 :: st) σ) : bW g Y nL Z nc ns pc lv (.int x :: st) σ := by
  obtain ⟨p, l, e, R, s, m, args, below, meth, c, D, dA, ad⟩ := g
  obtain ⟨hx, hb, hml, hr, hlk, hown, hts, hK, hD, hR, hN⟩ := hc
  intro H locs ls hP hS hl
  exact lv_i2l hx hb hd rfl (k H locs ls hP hS hl)
theorem bt_last {g : Gx} {Y : List Sh} {own : String} {cc : ByteArray} {nL : Nat} {ret : Option FieldType} {d : Nat} {Z : State → Prop} {nc ns : Nat} {pc : Nat} {lv : List (Option Value)} {st : List Value} {σ : St} {a n : Nat} {rs : List Nat} {i : Int32} {x : Int64} (hc : bX g Y own cc nL ret d) (hd : decode cc pc = .ok (.lastore, 1)) (hy : Y[a]? = some (.inl (2, n, rs))) (hin : vp_in i n) (k : bW g Y nL Z nc ns (pc + 1) lv st (upL σ a i.toNatClampNeg x)) : bW g Y nL Z nc ns pc lv (.long x :: .int i :: .ref a :: st) σ := by
  obtain ⟨p, l, e, R, s, m, args, below, meth, c, D, dA, ad⟩ := g
  obtain ⟨hx, hb, hml, hr, hlk, hown, hts, hK, hD, hR, hN⟩ := hc
  intro H locs ls hP hS hl
  have hset : (wW dA ad σ 0 Y).set a (ad a, .inl (dA 2, n, .inr (.inl (vp_updL (fun j => jn (σ a (2 * j)) (σ a (2 * j + 1))) i.toNatClampNeg x)))) = wW dA ad (upL σ a i.toNatClampNeg x) 0 Y := wW_set hy (by
    show _ = Sum.inl (dA 2, n, Sum.inr (Sum.inl (fun j => jn (upL σ a i.toNatClampNeg x a (2 * j)) (upL σ a i.toNatClampNeg x a (2 * j + 1)))))
    rw [upL_k]
    congr 5
    funext j
    unfold vp_updL upd
    by_cases e : j = i.toNatClampNeg
    · subst e; simp [jn_eq]
    · simp only [if_neg e, if_neg (show ¬ 2 * j = 2 * i.toNatClampNeg + 1 by omega), if_neg (show ¬ 2 * j = 2 * i.toNatClampNeg by omega), if_neg (show ¬ 2 * j + 1 = 2 * i.toNatClampNeg + 1 by omega), if_neg (show ¬ 2 * j + 1 = 2 * i.toNatClampNeg by omega)]) upL_o
  exact va_last hx hb hK hP (hD.D dA σ) hS a 2 (wW_at hy) rfl hin hd (fun H1 locs1 hP1 _ hS1 => k H1 locs1 ls (hset ▸ hP1) hS1 hl)
theorem bt_lastN {g : Gx} {Y : List Sh} {own : String} {cc : ByteArray} {nL : Nat} {ret : Option FieldType} {d : Nat} {Z : State → Prop} {nc ns : Nat} {pc : Nat} {lv : List (Option Value)} {st : List Value} {σ : St} {a n : Nat} {rs : List Nat} {i : Int32} {k : Nat} {x : Int64} (hc : bX g Y own cc nL ret d) (hd : decode cc pc = .ok (.lastore, 1)) (hy : Y[a]? = some (.inl (2, n, rs))) (hi : i = nI k) (hk : k < n) (hn : n < 2 ^ 31)  (kk : bW g Y nL Z nc ns (pc + 1) lv st (upL σ a k x)) : bW g Y nL Z nc ns pc lv (.long x :: .int i :: .ref a :: st) σ := by
  subst hi
  refine bt_last hc hd hy (vp_in_nI hk hn)  ?_
  rw [nI_clamp (Nat.lt_trans hk hn)]
  exact kk
theorem bt_if_eq {g : Gx} {Y : List Sh} {own : String} {cc : ByteArray} {nL : Nat} {ret : Option FieldType} {d : Nat} {Z : State → Prop} {nc ns : Nat} {pc : Nat} {lv : List (Option Value)} {st : List Value} {σ : St} {x : Int32} {off : Int} {tgt : Nat} (hc : bX g Y own cc nL ret d) (hd : decode cc pc = .ok (.ifCond .eq off, 3)) (ht : (pc : Int) + off = (tgt : Int)) (kt : x = 0 → bW g Y nL Z nc ns tgt lv st σ) (kf : ¬ x = 0 → bW g Y nL Z nc ns (pc + 3) lv st σ) : bW g Y nL Z nc ns pc lv (.int x :: st) σ := by
  obtain ⟨p, l, e, R, s, m, args, below, meth, c, D, dA, ad⟩ := g
  obtain ⟨hx, hb, hml, hr, hlk, hown, hts, hK, hD, hR, hN⟩ := hc
  intro H locs ls hP hS hl
  exact lv_if_eq hx hb hd ht (fun h => kt h H locs ls hP hS hl) (fun h => kf h H locs ls hP hS hl)
theorem bt_if_ne {g : Gx} {Y : List Sh} {own : String} {cc : ByteArray} {nL : Nat} {ret : Option FieldType} {d : Nat} {Z : State → Prop} {nc ns : Nat} {pc : Nat} {lv : List (Option Value)} {st : List Value} {σ : St} {x : Int32} {off : Int} {tgt : Nat} (hc : bX g Y own cc nL ret d) (hd : decode cc pc = .ok (.ifCond .ne off, 3)) (ht : (pc : Int) + off = (tgt : Int)) (kt : ¬ x = 0 → bW g Y nL Z nc ns tgt lv st σ) (kf : x = 0 → bW g Y nL Z nc ns (pc + 3) lv st σ) : bW g Y nL Z nc ns pc lv (.int x :: st) σ := by
  obtain ⟨p, l, e, R, s, m, args, below, meth, c, D, dA, ad⟩ := g
  obtain ⟨hx, hb, hml, hr, hlk, hown, hts, hK, hD, hR, hN⟩ := hc
  intro H locs ls hP hS hl
  exact lv_if_ne hx hb hd ht (fun h => kt h H locs ls hP hS hl) (fun h => kf (by simpa using h) H locs ls hP hS hl)
theorem bt_if_lt {g : Gx} {Y : List Sh} {own : String} {cc : ByteArray} {nL : Nat} {ret : Option FieldType} {d : Nat} {Z : State → Prop} {nc ns : Nat} {pc : Nat} {lv : List (Option Value)} {st : List Value} {σ : St} {x : Int32} {off : Int} {tgt : Nat} (hc : bX g Y own cc nL ret d) (hd : decode cc pc = .ok (.ifCond .lt off, 3)) (ht : (pc : Int) + off = (tgt : Int)) (kt : x < 0 → bW g Y nL Z nc ns tgt lv st σ) (kf : ¬ x < 0 → bW g Y nL Z nc ns (pc + 3) lv st σ) : bW g Y nL Z nc ns pc lv (.int x :: st) σ := by
  obtain ⟨p, l, e, R, s, m, args, below, meth, c, D, dA, ad⟩ := g
  obtain ⟨hx, hb, hml, hr, hlk, hown, hts, hK, hD, hR, hN⟩ := hc
  intro H locs ls hP hS hl
  exact lv_if_lt hx hb hd ht (fun h => kt h H locs ls hP hS hl) (fun h => kf h H locs ls hP hS hl)
theorem bt_if_ge {g : Gx} {Y : List Sh} {own : String} {cc : ByteArray} {nL : Nat} {ret : Option FieldType} {d : Nat} {Z : State → Prop} {nc ns : Nat} {pc : Nat} {lv : List (Option Value)} {st : List Value} {σ : St} {x : Int32} {off : Int} {tgt : Nat} (hc : bX g Y own cc nL ret d) (hd : decode cc pc = .ok (.ifCond .ge off, 3)) (ht : (pc : Int) + off = (tgt : Int)) (kt : 0 ≤ x → bW g Y nL Z nc ns tgt lv st σ) (kf : ¬ 0 ≤ x → bW g Y nL Z nc ns (pc + 3) lv st σ) : bW g Y nL Z nc ns pc lv (.int x :: st) σ := by
  obtain ⟨p, l, e, R, s, m, args, below, meth, c, D, dA, ad⟩ := g
  obtain ⟨hx, hb, hml, hr, hlk, hown, hts, hK, hD, hR, hN⟩ := hc
  intro H locs ls hP hS hl
  exact lv_if_ge hx hb hd ht (fun h => kt h H locs ls hP hS hl) (fun h => kf h H locs ls hP hS hl)
theorem bt_if_gt {g : Gx} {Y : List Sh} {own : String} {cc : ByteArray} {nL : Nat} {ret : Option FieldType} {d : Nat} {Z : State → Prop} {nc ns : Nat} {pc : Nat} {lv : List (Option Value)} {st : List Value} {σ : St} {x : Int32} {off : Int} {tgt : Nat} (hc : bX g Y own cc nL ret d) (hd : decode cc pc = .ok (.ifCond .gt off, 3)) (ht : (pc : Int) + off = (tgt : Int)) (kt : 0 < x → bW g Y nL Z nc ns tgt lv st σ) (kf : ¬ 0 < x → bW g Y nL Z nc ns (pc + 3) lv st σ) : bW g Y nL Z nc ns pc lv (.int x :: st) σ := by
  obtain ⟨p, l, e, R, s, m, args, below, meth, c, D, dA, ad⟩ := g
  obtain ⟨hx, hb, hml, hr, hlk, hown, hts, hK, hD, hR, hN⟩ := hc
  intro H locs ls hP hS hl
  exact lv_if_gt hx hb hd ht (fun h => kt h H locs ls hP hS hl) (fun h => kf h H locs ls hP hS hl)
theorem bt_if_le {g : Gx} {Y : List Sh} {own : String} {cc : ByteArray} {nL : Nat} {ret : Option FieldType} {d : Nat} {Z : State → Prop} {nc ns : Nat} {pc : Nat} {lv : List (Option Value)} {st : List Value} {σ : St} {x : Int32} {off : Int} {tgt : Nat} (hc : bX g Y own cc nL ret d) (hd : decode cc pc = .ok (.ifCond .le off, 3)) (ht : (pc : Int) + off = (tgt : Int)) (kt : x ≤ 0 → bW g Y nL Z nc ns tgt lv st σ) (kf : ¬ x ≤ 0 → bW g Y nL Z nc ns (pc + 3) lv st σ) : bW g Y nL Z nc ns pc lv (.int x :: st) σ := by
  obtain ⟨p, l, e, R, s, m, args, below, meth, c, D, dA, ad⟩ := g
  obtain ⟨hx, hb, hml, hr, hlk, hown, hts, hK, hD, hR, hN⟩ := hc
  intro H locs ls hP hS hl
  exact lv_if_le hx hb hd ht (fun h => kt h H locs ls hP hS hl) (fun h => kf h H locs ls hP hS hl)
theorem bt_icmp_eq {g : Gx} {Y : List Sh} {own : String} {cc : ByteArray} {nL : Nat} {ret : Option FieldType} {d : Nat} {Z : State → Prop} {nc ns : Nat} {pc : Nat} {lv : List (Option Value)} {st : List Value} {σ : St} {x y : Int32} {off : Int} {tgt : Nat} (hc : bX g Y own cc nL ret d) (hd : decode cc pc = .ok (.if_icmp .eq off, 3)) (ht : (pc : Int) + off = (tgt : Int)) (kt : x = y → bW g Y nL Z nc ns tgt lv st σ) (kf : ¬ x = y → bW g Y nL Z nc ns (pc + 3) lv st σ) : bW g Y nL Z nc ns pc lv (.int y :: .int x :: st) σ := by
  obtain ⟨p, l, e, R, s, m, args, below, meth, c, D, dA, ad⟩ := g
  obtain ⟨hx, hb, hml, hr, hlk, hown, hts, hK, hD, hR, hN⟩ := hc
  intro H locs ls hP hS hl
  exact lv_icmp_eq hx hb hd ht (fun h => kt h H locs ls hP hS hl) (fun h => kf h H locs ls hP hS hl)
theorem bt_icmp_ne {g : Gx} {Y : List Sh} {own : String} {cc : ByteArray} {nL : Nat} {ret : Option FieldType} {d : Nat} {Z : State → Prop} {nc ns : Nat} {pc : Nat} {lv : List (Option Value)} {st : List Value} {σ : St} {x y : Int32} {off : Int} {tgt : Nat} (hc : bX g Y own cc nL ret d) (hd : decode cc pc = .ok (.if_icmp .ne off, 3)) (ht : (pc : Int) + off = (tgt : Int)) (kt : ¬ x = y → bW g Y nL Z nc ns tgt lv st σ) (kf : x = y → bW g Y nL Z nc ns (pc + 3) lv st σ) : bW g Y nL Z nc ns pc lv (.int y :: .int x :: st) σ := by
  obtain ⟨p, l, e, R, s, m, args, below, meth, c, D, dA, ad⟩ := g
  obtain ⟨hx, hb, hml, hr, hlk, hown, hts, hK, hD, hR, hN⟩ := hc
  intro H locs ls hP hS hl
  exact lv_icmp_ne hx hb hd ht (fun h => kt h H locs ls hP hS hl) (fun h => kf (by simpa using h) H locs ls hP hS hl)
theorem bt_icmp_lt {g : Gx} {Y : List Sh} {own : String} {cc : ByteArray} {nL : Nat} {ret : Option FieldType} {d : Nat} {Z : State → Prop} {nc ns : Nat} {pc : Nat} {lv : List (Option Value)} {st : List Value} {σ : St} {x y : Int32} {off : Int} {tgt : Nat} (hc : bX g Y own cc nL ret d) (hd : decode cc pc = .ok (.if_icmp .lt off, 3)) (ht : (pc : Int) + off = (tgt : Int)) (kt : x < y → bW g Y nL Z nc ns tgt lv st σ) (kf : ¬ x < y → bW g Y nL Z nc ns (pc + 3) lv st σ) : bW g Y nL Z nc ns pc lv (.int y :: .int x :: st) σ := by
  obtain ⟨p, l, e, R, s, m, args, below, meth, c, D, dA, ad⟩ := g
  obtain ⟨hx, hb, hml, hr, hlk, hown, hts, hK, hD, hR, hN⟩ := hc
  intro H locs ls hP hS hl
  exact lv_icmp_lt hx hb hd ht (fun h => kt h H locs ls hP hS hl) (fun h => kf h H locs ls hP hS hl)
theorem bt_icmp_ge {g : Gx} {Y : List Sh} {own : String} {cc : ByteArray} {nL : Nat} {ret : Option FieldType} {d : Nat} {Z : State → Prop} {nc ns : Nat} {pc : Nat} {lv : List (Option Value)} {st : List Value} {σ : St} {x y : Int32} {off : Int} {tgt : Nat} (hc : bX g Y own cc nL ret d) (hd : decode cc pc = .ok (.if_icmp .ge off, 3)) (ht : (pc : Int) + off = (tgt : Int)) (kt : y ≤ x → bW g Y nL Z nc ns tgt lv st σ) (kf : ¬ y ≤ x → bW g Y nL Z nc ns (pc + 3) lv st σ) : bW g Y nL Z nc ns pc lv (.int y :: .int x :: st) σ := by
  obtain ⟨p, l, e, R, s, m, args, below, meth, c, D, dA, ad⟩ := g
  obtain ⟨hx, hb, hml, hr, hlk, hown, hts, hK, hD, hR, hN⟩ := hc
  intro H locs ls hP hS hl
  exact lv_icmp_ge hx hb hd ht (fun h => kt h H locs ls hP hS hl) (fun h => kf h H locs ls hP hS hl)
theorem bt_icmp_gt {g : Gx} {Y : List Sh} {own : String} {cc : ByteArray} {nL : Nat} {ret : Option FieldType} {d : Nat} {Z : State → Prop} {nc ns : Nat} {pc : Nat} {lv : List (Option Value)} {st : List Value} {σ : St} {x y : Int32} {off : Int} {tgt : Nat} (hc : bX g Y own cc nL ret d) (hd : decode cc pc = .ok (.if_icmp .gt off, 3)) (ht : (pc : Int) + off = (tgt : Int)) (kt : y < x → bW g Y nL Z nc ns tgt lv st σ) (kf : ¬ y < x → bW g Y nL Z nc ns (pc + 3) lv st σ) : bW g Y nL Z nc ns pc lv (.int y :: .int x :: st) σ := by
  obtain ⟨p, l, e, R, s, m, args, below, meth, c, D, dA, ad⟩ := g
  obtain ⟨hx, hb, hml, hr, hlk, hown, hts, hK, hD, hR, hN⟩ := hc
  intro H locs ls hP hS hl
  exact lv_icmp_gt hx hb hd ht (fun h => kt h H locs ls hP hS hl) (fun h => kf h H locs ls hP hS hl)
theorem bt_icmp_le {g : Gx} {Y : List Sh} {own : String} {cc : ByteArray} {nL : Nat} {ret : Option FieldType} {d : Nat} {Z : State → Prop} {nc ns : Nat} {pc : Nat} {lv : List (Option Value)} {st : List Value} {σ : St} {x y : Int32} {off : Int} {tgt : Nat} (hc : bX g Y own cc nL ret d) (hd : decode cc pc = .ok (.if_icmp .le off, 3)) (ht : (pc : Int) + off = (tgt : Int)) (kt : x ≤ y → bW g Y nL Z nc ns tgt lv st σ) (kf : ¬ x ≤ y → bW g Y nL Z nc ns (pc + 3) lv st σ) : bW g Y nL Z nc ns pc lv (.int y :: .int x :: st) σ := by
  obtain ⟨p, l, e, R, s, m, args, below, meth, c, D, dA, ad⟩ := g
  obtain ⟨hx, hb, hml, hr, hlk, hown, hts, hK, hD, hR, hN⟩ := hc
  intro H locs ls hP hS hl
  exact lv_icmp_le hx hb hd ht (fun h => kt h H locs ls hP hS hl) (fun h => kf h H locs ls hP hS hl)
theorem bt_goto {g : Gx} {Y : List Sh} {own : String} {cc : ByteArray} {nL : Nat} {ret : Option FieldType} {d : Nat} {Z : State → Prop} {nc ns : Nat} {pc : Nat} {lv : List (Option Value)} {st : List Value} {σ : St} {off : Int} {tgt : Nat} (hc : bX g Y own cc nL ret d) (hd : decode cc pc = .ok (.goto off, 3)) (ht : (pc : Int) + off = (tgt : Int)) (k : bW g Y nL Z nc ns (tgt) lv st σ) : bW g Y nL Z nc ns pc lv st σ := by
  obtain ⟨p, l, e, R, s, m, args, below, meth, c, D, dA, ad⟩ := g
  obtain ⟨hx, hb, hml, hr, hlk, hown, hts, hK, hD, hR, hN⟩ := hc
  intro H locs ls hP hS hl
  exact lv_goto hx hb hd ht (k H locs ls hP hS hl)
theorem bt_get {g : Gx} {Y : List Sh} {own : String} {cc : ByteArray} {nL : Nat} {ret : Option FieldType} {d : Nat} {Z : State → Prop} {nc ns : Nat} {pc : Nat} {lv : List (Option Value)} {st : List Value} {σ : St} {idx a ci j : Nat} {fs : List (Option Nat)} (hc : bX g Y own cc nL ret d) (hd : decode cc pc = .ok (.getfield idx, 3)) (hf : FL own idx ci j) (hy : Y[a]? = some (.inr (ci, fs))) (hk : fs[j]? = some none) (k : bW g Y nL Z nc ns (pc + 3) lv (.int (σ a j) :: st) σ) : bW g Y nL Z nc ns pc lv (.ref a :: st) σ := by
  obtain ⟨p, l, e, R, s, m, args, below, meth, c, D, dA, ad⟩ := g
  obtain ⟨hx, hb, hml, hr, hlk, hown, hts, hK, hD, hR, hN⟩ := hc
  intro H locs ls hP hS hl
  obtain ⟨C, T, N, ty0, h1, h2, h3, -, -, h4⟩ := hf
  have hv : (wF ad (σ a) 0 fs)[j]? = some (.int (σ a j)) := by rw [wF_get, hk]; simp
  rcases h4 with h4 | ⟨host, h4⟩
  · exact va_get hx hb hts h3 hown hK hP a (wW_at hy) h1 j h2 (hts _ h4) (fun _ h => h) hv hd (k H locs ls hP hS hl)
  · exact va_getN hx hb hts h3 hown hK hP a (wW_at hy) h1 j h2 (va_Nw.use rfl (hN _ h4 rfl)) (fun _ h => h) hv hd (k H locs ls hP hS hl)
theorem bt_getr {g : Gx} {Y : List Sh} {own : String} {cc : ByteArray} {nL : Nat} {ret : Option FieldType} {d : Nat} {Z : State → Prop} {nc ns : Nat} {pc : Nat} {lv : List (Option Value)} {st : List Value} {σ : St} {idx a ci j q : Nat} {fs : List (Option Nat)} (hc : bX g Y own cc nL ret d) (hd : decode cc pc = .ok (.getfield idx, 3)) (hf : FL own idx ci j) (hy : Y[a]? = some (.inr (ci, fs))) (hk : fs[j]? = some (some q)) (k : bW g Y nL Z nc ns (pc + 3) lv (.ref q :: st) σ) : bW g Y nL Z nc ns pc lv (.ref a :: st) σ := by
  obtain ⟨p, l, e, R, s, m, args, below, meth, c, D, dA, ad⟩ := g
  obtain ⟨hx, hb, hml, hr, hlk, hown, hts, hK, hD, hR, hN⟩ := hc
  intro H locs ls hP hS hl
  obtain ⟨C, T, N, ty0, h1, h2, h3, -, -, h4⟩ := hf
  have hv : (wF ad (σ a) 0 fs)[j]? = some (.ref (ad q)) := by rw [wF_get, hk]; simp
  rcases h4 with h4 | ⟨host, h4⟩
  · exact va_get hx hb hts h3 hown hK hP a (wW_at hy) h1 j h2 (hts _ h4) (fun _ h => h) hv hd (k H locs ls hP hS hl)
  · exact va_getN hx hb hts h3 hown hK hP a (wW_at hy) h1 j h2 (va_Nw.use rfl (hN _ h4 rfl)) (fun _ h => h) hv hd (k H locs ls hP hS hl)
theorem bt_iald {g : Gx} {Y : List Sh} {own : String} {cc : ByteArray} {nL : Nat} {ret : Option FieldType} {d : Nat} {Z : State → Prop} {nc ns : Nat} {pc : Nat} {lv : List (Option Value)} {st : List Value} {σ : St} {a n : Nat} {rs : List Nat} {i : Int32} (hc : bX g Y own cc nL ret d) (hd : decode cc pc = .ok (.iaload, 1)) (hy : Y[a]? = some (.inl (0, n, rs))) (hin : vp_in i n) (k : bW g Y nL Z nc ns (pc + 1) lv (.int (σ a i.toNatClampNeg) :: st) σ) : bW g Y nL Z nc ns pc lv (.int i :: .ref a :: st) σ := by
  obtain ⟨p, l, e, R, s, m, args, below, meth, c, D, dA, ad⟩ := g
  obtain ⟨hx, hb, hml, hr, hlk, hown, hts, hK, hD, hR, hN⟩ := hc
  intro H locs ls hP hS hl
  exact va_iald hx hb hK hP a 0 (wW_at hy) rfl hin hd (k H locs ls hP hS hl)
theorem bt_aald {g : Gx} {Y : List Sh} {own : String} {cc : ByteArray} {nL : Nat} {ret : Option FieldType} {d : Nat} {Z : State → Prop} {nc ns : Nat} {pc : Nat} {lv : List (Option Value)} {st : List Value} {σ : St} {a n q : Nat} {rs : List Nat} {i : Int32} (hc : bX g Y own cc nL ret d) (hd : decode cc pc = .ok (.aaload, 1)) (hy : Y[a]? = some (.inl (3, n, rs))) (hin : vp_in i n) (hq : rs[i.toNatClampNeg]? = some q) (k : bW g Y nL Z nc ns (pc + 1) lv (.ref q :: st) σ) : bW g Y nL Z nc ns pc lv (.int i :: .ref a :: st) σ := by
  obtain ⟨p, l, e, R, s, m, args, below, meth, c, D, dA, ad⟩ := g
  obtain ⟨hx, hb, hml, hr, hlk, hown, hts, hK, hD, hR, hN⟩ := hc
  intro H locs ls hP hS hl
  refine va_aldq hx hb hK hP a 3 (wW_at hy) rfl hin hd ?_
  have hk := k H locs ls hP hS hl
  show W p l e R s m args below meth c H locs nc ns _ (F0 m (pc + 1) ls (va_rf ((rs[i.toNatClampNeg]?).map ad) :: _))
  rw [hq]
  exact hk
theorem bt_ialdN {g : Gx} {Y : List Sh} {own : String} {cc : ByteArray} {nL : Nat} {ret : Option FieldType} {d : Nat} {Z : State → Prop} {nc ns : Nat} {pc : Nat} {lv : List (Option Value)} {st : List Value} {σ : St} {a n : Nat} {rs : List Nat} {i : Int32} {k : Nat} (hc : bX g Y own cc nL ret d) (hd : decode cc pc = .ok (.iaload, 1)) (hy : Y[a]? = some (.inl (0, n, rs))) (hi : i = nI k) (hk : k < n) (hn : n < 2 ^ 31) {v : Int32} (he : σ a k = v) (kk : bW g Y nL Z nc ns (pc + 1) lv (.int v :: st) σ) : bW g Y nL Z nc ns pc lv (.int i :: .ref a :: st) σ := by
  subst hi
  refine bt_iald hc hd hy (vp_in_nI hk hn) ?_
  rw [nI_clamp (Nat.lt_trans hk hn), he]
  exact kk
theorem bt_aaldN {g : Gx} {Y : List Sh} {own : String} {cc : ByteArray} {nL : Nat} {ret : Option FieldType} {d : Nat} {Z : State → Prop} {nc ns : Nat} {pc : Nat} {lv : List (Option Value)} {st : List Value} {σ : St} {a n : Nat} {rs : List Nat} {i : Int32} {k q : Nat} (hc : bX g Y own cc nL ret d) (hd : decode cc pc = .ok (.aaload, 1)) (hy : Y[a]? = some (.inl (3, n, rs))) (hi : i = nI k) (hk : k < n) (hn : n < 2 ^ 31) (hq : rs[k]? = some q) (kk : bW g Y nL Z nc ns (pc + 1) lv (.ref q :: st) σ) : bW g Y nL Z nc ns pc lv (.int i :: .ref a :: st) σ := by
  subst hi
  refine bt_aald hc hd hy (vp_in_nI hk hn) ?_ kk
  rw [nI_clamp (Nat.lt_trans hk hn)]
  exact hq
theorem bt_getE {g : Gx} {Y : List Sh} {own : String} {cc : ByteArray} {nL : Nat} {ret : Option FieldType} {d : Nat} {Z : State → Prop} {nc ns : Nat} {pc : Nat} {lv : List (Option Value)} {st : List Value} {σ : St} {idx a ci j : Nat} {fs : List (Option Nat)} {v : Int32} (hc : bX g Y own cc nL ret d) (hd : decode cc pc = .ok (.getfield idx, 3)) (hf : FL own idx ci j) (hy : Y[a]? = some (.inr (ci, fs))) (hk : fs[j]? = some none) (he : σ a j = v) (k : bW g Y nL Z nc ns (pc + 3) lv (.int v :: st) σ) : bW g Y nL Z nc ns pc lv (.ref a :: st) σ := bt_get hc hd hf hy hk (he ▸ k)
theorem bt_callV {g : Gx} {Y : List Sh} {own : String} {cc : ByteArray} {nL : Nat} {ret : Option FieldType} {d : Nat} {Z : State → Prop} {nc ns : Nat} {pc : Nat} {lv : List (Option Value)} {σ : St} {idx ci d' n b : Nat} {md : Md} {As rest st0 : List Value} {fs : List (Option Nat)} {P : Option Value → St → Prop} (hc : bX g Y own cc nL ret d) (hcl : nc ≤ g.2.2.2.1.cells ∧ ns ≤ g.2.2.2.1.slots) (hdg : decode cc pc = .ok (.invokevirtual idx, 3)) (hM : Mt Y md d' (.ref b :: As) σ P) (hL : MLv own idx ci md n) (hdd : d' + 1 ≤ d) (hn : As.length = n) (hy : Y[b]? = some (.inr (ci, fs))) (hst : st0 = As.reverse ++ .ref b :: rest) (hw : (rest.map fun v => v.category).sum ≤ 8)
    (kk : ∀ (r : Option Value) (τ : St), P r τ → bW g Y nL Z nc ns (pc + 3) lv (r.toList ++ rest) τ) : bW g Y nL Z nc ns pc lv st0 σ := by
  obtain ⟨p, l, e, R, s, m, args, below, meth, c, D, dA, ad⟩ := g
  obtain ⟨hx, hb, hml, hr, hlk, hown, hts, hK, hD, hR, hN⟩ := id hc
  intro H locs ls hP hS hl
  obtain ⟨⟨T, N, h1⟩, h2, h3, h4, h5, h6, h7, h8⟩ := hL
  have hpre : PreV s H md.1.cls (ad b) (cP D dA ad Y (.ref b :: As) σ) (As.map (cvv ad)) := ⟨cP_blind, va_recv hK hP h1 (wW_at hy), fun U hU hW => ⟨rfl, by rw [hU]; exact hP, va_K.moved hW.alike hK, hD, hN.warm hW⟩⟩
  have hwr : ((rest.map (cvv ad)).map fun v => v.category).sum ≤ 8 := by
    rw [List.map_map]
    have : ((fun v : Value => v.category) ∘ cvv ad) = (fun v => v.category) := by funext v; exact cvv_cat ad v
    rw [this]; exact hw
  have hst' : st0.map (cvv ad) = (As.map (cvv ad)).reverse ++ .ref (ad b) :: rest.map (cvv ad) := by subst hst; simp [cvv]
  have hGd : GoodIn gw (Cond.code md.1 md.2.1 md.2.2.1 md.2.2.2 :: gw) := gw_good (fun w hw => by rcases List.mem_cons.mp hw with rfl | hw; exact h2; exact hw)
  have hRr : (rmD d').frames + 1 ≤ R.frames ∧ 8 + (md.2.2.1 + 11) + (rmD d').locals ≤ R.locals := by obtain ⟨hR1, hR2⟩ := hR; simp only [rmD]; omega
  rcases h8 with h8 | ⟨host, h8⟩
  · refine bW_run (va_runV (As := As.map (cvv ad)) ⟨hx, hb, hml, hown, hts⟩ (hM l D dA ad) (cwV n hts (gw_good (fun w hw => ?_)) rfl rfl rfl ⟨rfl, h7⟩ hRr) hpre rfl (by rw [List.length_map]; exact hn) hl.1 hst' (lv_room hwr) hdg hcl) hS hl kk
    rcases List.mem_append.mp hw with hw | hw
    · simp only [List.mem_cons, List.not_mem_nil, or_false] at hw
      rcases hw with rfl | rfl | rfl | rfl
      · exact h8
      · exact h4
      · exact h5
      · exact h3
    · exact (hGd w hw).1
  · exact bW_run (va_runVN (As := As.map (cvv ad)) (C := md.1.cls) ⟨hx, hb, hml, hown, hts⟩ (hM l D dA ad) ⟨va_cnB n hts hGd rfl rfl rfl (hN _ h8 rfl) (hts _ h3) h7 hRr, hts _ h4, hts _ h5⟩ hpre rfl (by rw [List.length_map]; exact hn) hl.1 hst' (lv_room hwr) hdg hcl) hS hl kk
theorem bt_callS {g : Gx} {Y : List Sh} {own : String} {cc : ByteArray} {nL : Nat} {ret : Option FieldType} {d : Nat} {Z : State → Prop} {nc ns : Nat} {pc : Nat} {lv : List (Option Value)} {σ : St} {idx d' n : Nat} {md : Md} {As rest st0 : List Value} {P : Option Value → St → Prop} (hc : bX g Y own cc nL ret d) (hcl : nc ≤ g.2.2.2.1.cells ∧ ns ≤ g.2.2.2.1.slots) (hdg : decode cc pc = .ok (.invokestatic idx, 3)) (hM : Mt Y md d' As σ P) (hL : MLs own idx md n) (hdd : d' + 1 ≤ d) (hn : As.length = n) (hst : st0 = As.reverse ++ rest) (hw : (rest.map fun v => v.category).sum ≤ 8)
    (kk : ∀ (r : Option Value) (τ : St), P r τ → bW g Y nL Z nc ns (pc + 3) lv (r.toList ++ rest) τ) : bW g Y nL Z nc ns pc lv st0 σ := by
  obtain ⟨p, l, e, R, s, m, args, below, meth, c, D, dA, ad⟩ := g
  obtain ⟨hx, hb, hml, hr, hlk, hown, hts, hK, hD, hR, hN⟩ := id hc
  intro H locs ls hP hS hl
  obtain ⟨h2, h3, h4, h6, h7, h8⟩ := hL
  have hpre : PreS s H (cP D dA ad Y As σ) (As.map (cvv ad)) := ⟨cP_blind, fun U hU hW => ⟨rfl, by rw [hU]; exact hP, va_K.moved hW.alike hK, hD, hN.warm hW⟩⟩
  have hwr : ((rest.map (cvv ad)).map fun v => v.category).sum ≤ 8 := by
    rw [List.map_map]
    have : ((fun v : Value => v.category) ∘ cvv ad) = (fun v => v.category) := by funext v; exact cvv_cat ad v
    rw [this]; exact hw
  have hst' : st0.map (cvv ad) = (As.map (cvv ad)).reverse ++ rest.map (cvv ad) := by subst hst; simp
  have hGd : GoodIn gw (Cond.code md.1 md.2.1 md.2.2.1 md.2.2.2 :: gw) := gw_good (fun w hw => by rcases List.mem_cons.mp hw with rfl | hw; exact h2; exact hw)
  have hRr : (rmD d').frames + 1 ≤ R.frames ∧ 8 + (md.2.2.1 + 11) + (rmD d').locals ≤ R.locals := by obtain ⟨hR1, hR2⟩ := hR; simp only [rmD]; omega
  rcases h8 with h8 | ⟨host, h8⟩
  · refine bW_run (va_runS (As := As.map (cvv ad)) ⟨hx, hb, hml, hown, hts⟩ (hM l D dA ad) (va_cwS n hts (gw_good (fun w hw => ?_)) rfl rfl rfl h7 hRr) hpre rfl (by rw [List.length_map]; exact hn) hl.1 hst' (lv_room hwr) hdg hcl) hS hl kk
    rcases List.mem_append.mp hw with hw | hw
    · simp only [List.mem_cons, List.not_mem_nil, or_false] at hw
      rcases hw with rfl | rfl | rfl
      · exact h8
      · exact h4
      · exact h3
    · exact (hGd w hw).1
  · exact bW_run (va_runSN (As := As.map (cvv ad)) ⟨hx, hb, hml, hown, hts⟩ (hM l D dA ad) ⟨va_cnB n hts hGd rfl rfl rfl (hN _ h8 rfl) (hts _ h3) h7 hRr, hts _ h4, trivial⟩ hpre rfl (by rw [List.length_map]; exact hn) hl.1 hst' (lv_room hwr) hdg hcl) hS hl kk

theorem bt_callVp {g : Gx} {Y : List Sh} {own : String} {cc : ByteArray} {nL : Nat} {ret : Option FieldType} {d : Nat} {Z : State → Prop} {nc ns : Nat} {pc : Nat} {lv : List (Option Value)} {σ : St} {idx ci d' n b : Nat} {md : Md} {As rest st0 : List Value} {fs : List (Option Nat)} {v : Value} (hc : bX g Y own cc nL ret d) (hcl : nc ≤ g.2.2.2.1.cells ∧ ns ≤ g.2.2.2.1.slots) (hdg : decode cc pc = .ok (.invokevirtual idx, 3)) (hM : Mt Y md d' (.ref b :: As) σ (fun r τ => r = some v ∧ τ = σ)) (hL : MLv own idx ci md n) (hdd : d' + 1 ≤ d) (hn : As.length = n) (hy : Y[b]? = some (.inr (ci, fs))) (hst : st0 = As.reverse ++ .ref b :: rest) (hw : (rest.map fun v => v.category).sum ≤ 8)
    (kk : bW g Y nL Z nc ns (pc + 3) lv (v :: rest) σ) : bW g Y nL Z nc ns pc lv st0 σ := bt_callV hc hcl hdg hM hL hdd hn hy hst hw (fun r τ h => by rw [h.1, h.2]; exact kk)
theorem bt_callVn {g : Gx} {Y : List Sh} {own : String} {cc : ByteArray} {nL : Nat} {ret : Option FieldType} {d : Nat} {Z : State → Prop} {nc ns : Nat} {pc : Nat} {lv : List (Option Value)} {σ : St} {idx ci d' n b : Nat} {md : Md} {As rest st0 : List Value} {fs : List (Option Nat)} {P : St → Prop} (hc : bX g Y own cc nL ret d) (hcl : nc ≤ g.2.2.2.1.cells ∧ ns ≤ g.2.2.2.1.slots) (hdg : decode cc pc = .ok (.invokevirtual idx, 3)) (hM : Mt Y md d' (.ref b :: As) σ (fun r τ => r = none ∧ P τ)) (hL : MLv own idx ci md n) (hdd : d' + 1 ≤ d) (hn : As.length = n) (hy : Y[b]? = some (.inr (ci, fs))) (hst : st0 = As.reverse ++ .ref b :: rest) (hw : (rest.map fun v => v.category).sum ≤ 8)
    (kk : ∀ τ, P τ → bW g Y nL Z nc ns (pc + 3) lv rest τ) : bW g Y nL Z nc ns pc lv st0 σ := bt_callV hc hcl hdg hM hL hdd hn hy hst hw (fun r τ h => by rw [h.1]; exact kk τ h.2)
theorem bt_callVq {g : Gx} {Y : List Sh} {own : String} {cc : ByteArray} {nL : Nat} {ret : Option FieldType} {d : Nat} {Z : State → Prop} {nc ns : Nat} {pc : Nat} {lv : List (Option Value)} {σ : St} {idx ci d' n b : Nat} {md : Md} {As rest st0 : List Value} {fs : List (Option Nat)} {v : Value} {P : St → Prop} (hc : bX g Y own cc nL ret d) (hcl : nc ≤ g.2.2.2.1.cells ∧ ns ≤ g.2.2.2.1.slots) (hdg : decode cc pc = .ok (.invokevirtual idx, 3)) (hM : Mt Y md d' (.ref b :: As) σ (fun r τ => r = some v ∧ P τ)) (hL : MLv own idx ci md n) (hdd : d' + 1 ≤ d) (hn : As.length = n) (hy : Y[b]? = some (.inr (ci, fs))) (hst : st0 = As.reverse ++ .ref b :: rest) (hw : (rest.map fun v => v.category).sum ≤ 8)
    (kk : ∀ τ, P τ → bW g Y nL Z nc ns (pc + 3) lv (v :: rest) τ) : bW g Y nL Z nc ns pc lv st0 σ := bt_callV hc hcl hdg hM hL hdd hn hy hst hw (fun r τ h => by rw [h.1]; exact kk τ h.2)
theorem bt_callSp {g : Gx} {Y : List Sh} {own : String} {cc : ByteArray} {nL : Nat} {ret : Option FieldType} {d : Nat} {Z : State → Prop} {nc ns : Nat} {pc : Nat} {lv : List (Option Value)} {σ : St} {idx d' n : Nat} {md : Md} {As rest st0 : List Value} {v : Value} (hc : bX g Y own cc nL ret d) (hcl : nc ≤ g.2.2.2.1.cells ∧ ns ≤ g.2.2.2.1.slots) (hdg : decode cc pc = .ok (.invokestatic idx, 3)) (hM : Mt Y md d' As σ (fun r τ => r = some v ∧ τ = σ)) (hL : MLs own idx md n) (hdd : d' + 1 ≤ d) (hn : As.length = n) (hst : st0 = As.reverse ++ rest) (hw : (rest.map fun v => v.category).sum ≤ 8)
    (kk : bW g Y nL Z nc ns (pc + 3) lv (v :: rest) σ) : bW g Y nL Z nc ns pc lv st0 σ := bt_callS hc hcl hdg hM hL hdd hn hst hw (fun r τ h => by rw [h.1, h.2]; exact kk)
theorem bW_to {g : Gx} {Y : List Sh} {nL : Nat} {Z Z' : State → Prop} {nc ns pc : Nat} {lv : List (Option Value)} {st : List Value} {σ : St} (h : ∀ t, Z t → Z' t) (k : bW g Y nL Z nc ns pc lv st σ) : bW g Y nL Z' nc ns pc lv st σ := by
  obtain ⟨p, l, e, R, s, m, args, below, meth, c, D, dA, ad⟩ := g
  intro H locs ls hP hS hl T hT X
  obtain ⟨t, a1, b1⟩ := k H locs ls hP hS hl T hT X
  exact ⟨t, a1, h t b1⟩
def rmE (d mc ms : Nat) : Room := { frames := d, cells := mc, slots := ms, locals := 64 * d }
/-- the end of a body that may throw -/
def vZ (g : Gx) (Y : List Sh) (Q : Option Value → St → Prop) (XC : String → State → State → Prop) (mc ms : Nat) : State → Prop := match g with
  | (_, _, _, _, s, _, args, below, _, _, D, dA, ad) => vx_MQ below (cQ D dA ad Y Q) XC args s mc ms (cA ad Y)
theorem bt_iret {g : Gx} {Y : List Sh} {own : String} {cc : ByteArray} {nL : Nat} {ret : Option FieldType} {d : Nat} {Q : Option Value → St → Prop} {XC : String → State → State → Prop} {mc ms nc ns pc : Nat} {lv : List (Option Value)} {σ : St} {x : Int32} (hc : bX g Y own cc nL ret d) (hd : decode cc pc = .ok (.ireturn, 1)) (hrt : ret = some .int) (h1 : nc ≤ mc) (h2 : ns ≤ ms) (k : Q (some (.int x)) σ) : bW g Y nL (vZ g Y Q XC mc ms) nc ns pc lv [.int x] σ := by
  obtain ⟨p, l, e, R, s, m, args, below, meth, c, D, dA, ad⟩ := g
  obtain ⟨hx, hb, hml, hr, hlk, hown, hts, hK, hD, hR, hN⟩ := hc
  intro H locs ls hP hS hl T hT X
  exact vx_ret (W.iret hx hb (hr.trans hrt) (fun t ht hW => ⟨⟨some (.int x), σ, rfl, k, by rw [ht]; exact hP⟩, hS.F ht⟩) hS.2.2 hd hlk) T hT (stand_widen X h1 h2)
theorem bt_vret {g : Gx} {Y : List Sh} {own : String} {cc : ByteArray} {nL : Nat} {ret : Option FieldType} {d : Nat} {Q : Option Value → St → Prop} {XC : String → State → State → Prop} {mc ms nc ns pc : Nat} {lv : List (Option Value)} {σ : St} (hc : bX g Y own cc nL ret d) (hd : decode cc pc = .ok (.return_, 1)) (hrt : ret = none) (h1 : nc ≤ mc) (h2 : ns ≤ ms) (k : Q none σ) : bW g Y nL (vZ g Y Q XC mc ms) nc ns pc lv [] σ := by
  obtain ⟨p, l, e, R, s, m, args, below, meth, c, D, dA, ad⟩ := g
  obtain ⟨hx, hb, hml, hr, hlk, hown, hts, hK, hD, hR, hN⟩ := hc
  intro H locs ls hP hS hl T hT X
  exact vx_ret (W.vret hx hb (hr.trans hrt) (fun t ht hW => ⟨⟨none, σ, rfl, k, by rw [ht]; exact hP⟩, hS.F ht⟩) hS.2.2 hd hlk) T hT (stand_widen X h1 h2)
def isDC : Cond → Bool
  | .declares .. => true
  | .castable .. => true
  | _ => false
/-- the words that ride along for throws -/
def dK (U : State) : Prop := (∀ w ∈ lw_tbl, isDC w = true → va_Nw w U) ∧ va_Nc "java/lang/IllegalStateException" "java/lang/IllegalArgumentException" U
theorem dK.warm {s U : State} (hW : s.WarmedH U.vm) (h : dK s) : dK U := by
  refine ⟨?_, h.2.moved hW.alike⟩
  intro w hw hn
  have h1 := h.1 w hw hn
  cases w <;> first | (exact va_Nw.warmD hW h1) | (exact va_Nw.warmC hW h1) | (exact absurd hn (by simp [isDC]))
theorem dK.same {s U : State} (hW : s.vm = U.vm) (h : dK s) : dK U := by
  refine ⟨?_, h.2.moved (by rw [hW]; exact Vm.Alike.refl _)⟩
  intro w hw hn
  have h1 := h.1 w hw hn
  cases w <;> first | (exact va_Nw.same rfl hW h1) | (exact absurd hn (by simp [isDC]))
theorem dK.use {s : State} {args : Array Value} (h : dK s) (hts : ∀ w ∈ gw, w.before args s = true) {w : Cond} (hw : w ∈ lw_tbl ∧ (goodWord w || isDC w) = true) : w.before args s = true := by
  obtain ⟨h1, h2⟩ := hw
  rcases Bool.or_eq_true_iff.mp h2 with h3 | h3
  · exact hts w (gw_in h1 h3)
  · have h4 := h.1 w h1 h3
    cases w <;> first | (exact va_Nw.use rfl h4) | (exact absurd h3 (by simp [isDC]))
/-- what a throw wants of the world: the text, the two rows that every Throwable starts with -/
def tK (ad : Nat → Nat) (Y : List Sh) (U : State) : Prop := (∃ sa, vk_R RX7 49 "the failure of a kept guess" sa U) ∧ (∃ sa, vk_R RX11 359 "no such shelf" sa U) ∧ (∃ sa, vk_R RX11 366 "no row is on the shelf" sa U) ∧ (∃ sa, vk_R RX11 369 "the row has no such place" sa U) ∧ vx_Zq Bundle.tN "UNASSIGNED_STACK" Bundle.steD (cA ad Y) U U.heap ∧ vx_Zq Bundle.tN "SUPPRESSED_SENTINEL" Bundle.listD (cA ad Y) U U.heap ∧ dK U
/-- where a method threw: the store is as it was -/
def xC (D : va_G) (dA : Nat → ClassId) (ad : Nat → Nat) (Y : List Sh) (σ : St) (X : String → Prop) : String → State → State → Prop := fun E st t => X E ∧ va_P D vwCl (wW dA ad σ 0 Y) t.heap ∧ va_F (cA ad Y) st t
/-- A CONTRACT of a method that returns (Q) or throws what X names -/
def vMt (Y : List Sh) (md : Md) (d mc ms : Nat) (av : List Value) (σ : St) (Q : Option Value → St → Prop) (X : String → Prop) : Prop :=
  ∀ (l : Launch), l.stackTraces = false → ∀ (D : va_G) (dA : Nat → ClassId) (ad : Nat → Nat), vx_Met l md.1 (.code md.1 md.2.1 md.2.2.1 md.2.2.2 :: gw) (rmE d mc ms) (fun v U => cP D dA ad Y av σ v U ∧ tK ad Y U) (cQ D dA ad Y Q) (xC D dA ad Y σ X) mc ms (cA ad Y)
def gXC (g : Gx) (Y : List Sh) (σ : St) (X : String → Prop) : String → State → State → Prop := match g with
  | (_, _, _, _, _, _, _, _, _, _, D, dA, ad) => xC D dA ad Y σ X
def gT (g : Gx) (Y : List Sh) (mc ms : Nat) : Prop := match g with
  | (_, l, _, R, s, _, _, _, _, c, _, _, ad) => l.stackTraces = false ∧ tK ad Y s ∧ (∀ x ∈ c.exceptionTable.toList, False) ∧ R.cells = mc ∧ R.slots = ms
theorem vMt.ofB {Y : List Sh} {md : Md} {d mc ms : Nat} {av : List Value} {σ : St} {Q : Option Value → St → Prop} {X : String → Prop} (lv0 : List (Option Value)) (hy : plainName md.1.cls = true) (hlen : ∀ ad : Nat → Nat, (lg_sl (av.map (cvv ad))).length ≤ md.2.2.1) (hlv : ∀ ad : Nat → Nat, lvl ad 0 lv0 = lv_args 0 (av.map (cvv ad)))
    (body : ∀ g : Gx, bX g Y md.1.cls md.2.1 md.2.2.1 md.2.2.2 d → gT g Y mc ms → bW g Y md.2.2.1 (vZ g Y Q (gXC g Y σ X) mc ms) 0 0 0 lv0 [] σ) : vMt Y md d mc ms av σ Q X := by
  intro l hlt D dA ad
  refine vx_ofW (cc := md.2.1) (maxL := md.2.2.1) (ret := md.2.2.2) hy rfl ?_
  intro p e s m args below meth c s₁ B hml hex hv
  obtain ⟨⟨rfl, hP, hK, hD0, hN⟩, hT⟩ := hv
  have hx := B.exec
  have hb := B.bytes
  have hr := B.returns
  have hts := atoms_spec (ws := Cond.code md.1 md.2.1 md.2.2.1 md.2.2.2 :: gw) B.pre
  have hown : s.vm.findClass md.1.cls = some m.cls := findClass_of_methodNamed B.named
  have hlocks := B.notSynchronized
  have hS : va_S (cA ad Y) s.heap s.heap [] := va_S.rf
  have hl := lv_entry (av.map (cvv ad)) (n := md.2.2.1) (hlen ad)
  rw [lg_entry_eq]
  rw [← hlv ad] at hl
  exact body (p, l, e, rmE d mc ms, s, m, (av.map (cvv ad)).toArray, below, meth, c, D, dA, ad) ⟨hx, hb, hml, hr, hlocks, hown, fun w hw => hts w (List.mem_cons_of_mem _ hw), hK, hD0, ⟨Nat.le_refl _, Nat.le_refl _⟩, hN⟩ ⟨hlt, hT, hex, rfl, rfl⟩ s.heap [] _ hP hS hl
