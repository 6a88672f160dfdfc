/-! ===== a judgement over any world of the heap, with addresses as they are ===== -/
def gX (g : Gx) (own : String) (cc : ByteArray) (nL : Nat) (ret : Option FieldType) (d : Nat) : Prop := match g with
  | (p, _, _, R, s, m, args, _, meth, c, D, dA, ad) => p.tables.exec = Jvm.exec ∧ c.code = cc ∧ c.maxLocals = nL ∧ meth.sig.returnType = ret ∧ meth.locks = false ∧ s.vm.findClass own = some m.cls ∧ (∀ w ∈ gw, w.before args s = true) ∧ va_K D vwCl (tyl dA) s ∧ (ad = fun k => k) ∧ (d ≤ R.frames ∧ 64 * d ≤ R.locals) ∧ nK s
def gW (g : Gx) (nL : Nat) (Z : State → Prop) (nc ns : Nat) (A : Nat → Prop) (pc : Nat) (lv : List (Option Value)) (st : List Value) (σ : Heap → Prop) : Prop := match g with
  | (p, l, e, R, s, m, args, below, meth, c, _, _, ad) => ∀ (H : Heap) (locs : List Loc) (ls : Array Slot), σ H → va_S A s.heap H locs → lv_has ls nL (lvl ad 0 lv) →
      W p l e R s m args below meth c H locs nc ns Z (F0 m pc ls (st.map (cvv ad)))
theorem gt_iconst {g : Gx} {A : Nat → Prop} {own : String} {cc : ByteArray} {nL : Nat} {ret : Option FieldType} {d : Nat} {Z : State → Prop} {nc ns : Nat} {pc : Nat} {lv : List (Option Value)} {st : List Value} {σ : Heap → Prop} {n : Int} {v : Int32} (hc : gX g own cc nL ret d) (hd : decode cc pc = .ok (.iconst n, 1)) (hv : Int32.ofInt n = v) (k : gW g nL Z nc ns A (pc + 1) lv (.int v :: st) σ) : gW g nL Z nc ns A pc lv st σ := by
  obtain ⟨p, l, e, R, s, m, args, below, meth, c, D, dA, ad⟩ := g
  obtain ⟨hx, hb, hml, hr, hlk, hown, hts, hK, hD, hR, hN⟩ := hc
  intro H locs ls hP hS hl
  exact lv_iconst hx hb hd hv (k H locs ls hP hS hl)
theorem gt_bipush {g : Gx} {A : Nat → Prop} {own : String} {cc : ByteArray} {nL : Nat} {ret : Option FieldType} {d : Nat} {Z : State → Prop} {nc ns : Nat} {pc : Nat} {lv : List (Option Value)} {st : List Value} {σ : Heap → Prop} {n : Int} {v : Int32} (hc : gX g own cc nL ret d) (hd : decode cc pc = .ok (.bipush n, 2)) (hv : (Int8.ofInt n).toInt32 = v) (k : gW g nL Z nc ns A (pc + 2) lv (.int v :: st) σ) : gW g nL Z nc ns A pc lv st σ := by
  obtain ⟨p, l, e, R, s, m, args, below, meth, c, D, dA, ad⟩ := g
  obtain ⟨hx, hb, hml, hr, hlk, hown, hts, hK, hD, hR, hN⟩ := hc
  intro H locs ls hP hS hl
  exact lv_bipush hx hb hd hv (k H locs ls hP hS hl)
theorem gt_sipush {g : Gx} {A : Nat → Prop} {own : String} {cc : ByteArray} {nL : Nat} {ret : Option FieldType} {d : Nat} {Z : State → Prop} {nc ns : Nat} {pc : Nat} {lv : List (Option Value)} {st : List Value} {σ : Heap → Prop} {n : Int} {v : Int32} (hc : gX g own cc nL ret d) (hd : decode cc pc = .ok (.sipush n, 3)) (hv : (Int16.ofInt n).toInt32 = v) (k : gW g nL Z nc ns A (pc + 3) lv (.int v :: st) σ) : gW g nL Z nc ns A pc lv st σ := by
  obtain ⟨p, l, e, R, s, m, args, below, meth, c, D, dA, ad⟩ := g
  obtain ⟨hx, hb, hml, hr, hlk, hown, hts, hK, hD, hR, hN⟩ := hc
  intro H locs ls hP hS hl
  exact lv_sipush hx hb hd hv (k H locs ls hP hS hl)
theorem gt_ldc {g : Gx} {A : Nat → Prop} {own : String} {cc : ByteArray} {nL : Nat} {ret : Option FieldType} {d : Nat} {Z : State → Prop} {nc ns : Nat} {pc : Nat} {lv : List (Option Value)} {st : List Value} {σ : Heap → Prop} {i : Nat} {v : Int32} (hc : gX g own cc nL ret d) (hd : decode cc pc = .ok (.ldc i, 2)) (hw : Cond.constant own i v ∈ gw) (k : gW g nL Z nc ns A (pc + 2) lv (.int v :: st) σ) : gW g nL Z nc ns A pc lv st σ := by
  obtain ⟨p, l, e, R, s, m, args, below, meth, c, D, dA, ad⟩ := g
  obtain ⟨hx, hb, hml, hr, hlk, hown, hts, hK, hD, hR, hN⟩ := hc
  intro H locs ls hP hS hl
  exact lv_ldc hx hb hown (hts _ hw) hd (k H locs ls hP hS hl)
theorem gt_iload_n {g : Gx} {A : Nat → Prop} {own : String} {cc : ByteArray} {nL : Nat} {ret : Option FieldType} {d : Nat} {Z : State → Prop} {nc ns : Nat} {pc : Nat} {lv : List (Option Value)} {st : List Value} {σ : Heap → Prop} {j : Fin 4} {i : Nat} {x : Int32} (hc : gX g own cc nL ret d) (hd : decode cc pc = .ok (.iload_n j, 1)) (hi : (j : Nat) = i) (hv : lv[i]? = some (some (.int x))) (k : gW g nL Z nc ns A (pc + 1) lv (.int x :: st) σ) : gW g nL Z nc ns A pc lv st σ := by
  obtain ⟨p, l, e, R, s, m, args, below, meth, c, D, dA, ad⟩ := g
  obtain ⟨hx, hb, hml, hr, hlk, hown, hts, hK, hD, hR, hN⟩ := hc
  intro H locs ls hP hS hl
  exact lv_iload_n hx hb hd hi (lvl_at hl hv) (k H locs ls hP hS hl)
theorem gt_iload {g : Gx} {A : Nat → Prop} {own : String} {cc : ByteArray} {nL : Nat} {ret : Option FieldType} {d : Nat} {Z : State → Prop} {nc ns : Nat} {pc : Nat} {lv : List (Option Value)} {st : List Value} {σ : Heap → Prop} {i : Nat} {x : Int32} (hc : gX g own cc nL ret d) (hd : decode cc pc = .ok (.iload i, 2)) (hv : lv[i]? = some (some (.int x))) (k : gW g nL Z nc ns A (pc + 2) lv (.int x :: st) σ) : gW g nL Z nc ns A pc lv st σ := by
  obtain ⟨p, l, e, R, s, m, args, below, meth, c, D, dA, ad⟩ := g
  obtain ⟨hx, hb, hml, hr, hlk, hown, hts, hK, hD, hR, hN⟩ := hc
  intro H locs ls hP hS hl
  exact lv_iload hx hb hd (lvl_at hl hv) (k H locs ls hP hS hl)
theorem gt_aload_n {g : Gx} {A : Nat → Prop} {own : String} {cc : ByteArray} {nL : Nat} {ret : Option FieldType} {d : Nat} {Z : State → Prop} {nc ns : Nat} {pc : Nat} {lv : List (Option Value)} {st : List Value} {σ : Heap → Prop} {j : Fin 4} {i : Nat} {x : Nat} (hc : gX g own cc nL ret d) (hd : decode cc pc = .ok (.aload_n j, 1)) (hi : (j : Nat) = i) (hv : lv[i]? = some (some (.ref x))) (k : gW g nL Z nc ns A (pc + 1) lv (.ref x :: st) σ) : gW g nL Z nc ns A pc lv st σ := by
  obtain ⟨p, l, e, R, s, m, args, below, meth, c, D, dA, ad⟩ := g
  obtain ⟨hx, hb, hml, hr, hlk, hown, hts, hK, hD, hR, hN⟩ := hc
  intro H locs ls hP hS hl
  exact lv_aload_n hx hb hd hi (lvl_at hl hv) (k H locs ls hP hS hl)
theorem gt_aload {g : Gx} {A : Nat → Prop} {own : String} {cc : ByteArray} {nL : Nat} {ret : Option FieldType} {d : Nat} {Z : State → Prop} {nc ns : Nat} {pc : Nat} {lv : List (Option Value)} {st : List Value} {σ : Heap → Prop} {i : Nat} {x : Nat} (hc : gX g own cc nL ret d) (hd : decode cc pc = .ok (.aload i, 2)) (hv : lv[i]? = some (some (.ref x))) (k : gW g nL Z nc ns A (pc + 2) lv (.ref x :: st) σ) : gW g nL Z nc ns A pc lv st σ := by
  obtain ⟨p, l, e, R, s, m, args, below, meth, c, D, dA, ad⟩ := g
  obtain ⟨hx, hb, hml, hr, hlk, hown, hts, hK, hD, hR, hN⟩ := hc
  intro H locs ls hP hS hl
  exact lv_aload hx hb hd (lvl_at hl hv) (k H locs ls hP hS hl)
theorem gt_istore_n {g : Gx} {A : Nat → Prop} {own : String} {cc : ByteArray} {nL : Nat} {ret : Option FieldType} {d : Nat} {Z : State → Prop} {nc ns : Nat} {pc : Nat} {lv : List (Option Value)} {st : List Value} {σ : Heap → Prop} {j : Fin 4} {i : Nat} {x : Int32} (hc : gX g own cc nL ret d) (hd : decode cc pc = .ok (.istore_n j, 1)) (hi : (j : Nat) = i) (hn : i < nL) (hok : lvok lv i = true) (k : gW g nL Z nc ns A (pc + 1) (lv.set i (some (.int x))) st σ) : gW g nL Z nc ns A pc lv (.int x :: st) σ := by
  obtain ⟨p, l, e, R, s, m, args, below, meth, c, D, dA, ad⟩ := g
  obtain ⟨hx, hb, hml, hr, hlk, hown, hts, hK, hD, hR, hN⟩ := hc
  intro H locs ls hP hS hl
  exact lv_istore_n hx hb hd hi hl hn rfl (fun ls hl => k H locs ls hP hS (lvl_set1 hok hl))
theorem gt_istore {g : Gx} {A : Nat → Prop} {own : String} {cc : ByteArray} {nL : Nat} {ret : Option FieldType} {d : Nat} {Z : State → Prop} {nc ns : Nat} {pc : Nat} {lv : List (Option Value)} {st : List Value} {σ : Heap → Prop} {i : Nat} {x : Int32} (hc : gX g own cc nL ret d) (hd : decode cc pc = .ok (.istore i, 2)) (hn : i < nL) (hok : lvok lv i = true) (k : gW g nL Z nc ns A (pc + 2) (lv.set i (some (.int x))) st σ) : gW g nL Z nc ns A pc lv (.int x :: st) σ := by
  obtain ⟨p, l, e, R, s, m, args, below, meth, c, D, dA, ad⟩ := g
  obtain ⟨hx, hb, hml, hr, hlk, hown, hts, hK, hD, hR, hN⟩ := hc
  intro H locs ls hP hS hl
  exact lv_istore hx hb hd hl hn rfl (fun ls hl => k H locs ls hP hS (lvl_set1 hok hl))
theorem gt_astore_n {g : Gx} {A : Nat → Prop} {own : String} {cc : ByteArray} {nL : Nat} {ret : Option FieldType} {d : Nat} {Z : State → Prop} {nc ns : Nat} {pc : Nat} {lv : List (Option Value)} {st : List Value} {σ : Heap → Prop} {j : Fin 4} {i : Nat} {x : Nat} (hc : gX g own cc nL ret d) (hd : decode cc pc = .ok (.astore_n j, 1)) (hi : (j : Nat) = i) (hn : i < nL) (hok : lvok lv i = true) (k : gW g nL Z nc ns A (pc + 1) (lv.set i (some (.ref x))) st σ) : gW g nL Z nc ns A pc lv (.ref x :: st) σ := by
  obtain ⟨p, l, e, R, s, m, args, below, meth, c, D, dA, ad⟩ := g
  obtain ⟨hx, hb, hml, hr, hlk, hown, hts, hK, hD, hR, hN⟩ := hc
  intro H locs ls hP hS hl
  exact lv_astore_n hx hb hd hi hl hn rfl (fun ls hl => k H locs ls hP hS (lvl_set1 hok hl))
theorem gt_astore {g : Gx} {A : Nat → Prop} {own : String} {cc : ByteArray} {nL : Nat} {ret : Option FieldType} {d : Nat} {Z : State → Prop} {nc ns : Nat} {pc : Nat} {lv : List (Option Value)} {st : List Value} {σ : Heap → Prop} {i : Nat} {x : Nat} (hc : gX g own cc nL ret d) (hd : decode cc pc = .ok (.astore i, 2)) (hn : i < nL) (hok : lvok lv i = true) (k : gW g nL Z nc ns A (pc + 2) (lv.set i (some (.ref x))) st σ) : gW g nL Z nc ns A pc lv (.ref x :: st) σ := by
  obtain ⟨p, l, e, R, s, m, args, below, meth, c, D, dA, ad⟩ := g
  obtain ⟨hx, hb, hml, hr, hlk, hown, hts, hK, hD, hR, hN⟩ := hc
  intro H locs ls hP hS hl
  exact lv_astore hx hb hd hl hn rfl (fun ls hl => k H locs ls hP hS (lvl_set1 hok hl))
theorem gt_iinc {g : Gx} {A : Nat → Prop} {own : String} {cc : ByteArray} {nL : Nat} {ret : Option FieldType} {d : Nat} {Z : State → Prop} {nc ns : Nat} {pc : Nat} {lv : List (Option Value)} {st : List Value} {σ : Heap → Prop} {i : Nat} {n : Int} {x v : Int32} (hc : gX g own cc nL ret d) (hd : decode cc pc = .ok (.iinc i n, 3)) (hv : lv[i]? = some (some (.int x))) (he : x + Int32.ofInt n = v) (hn : i < nL) (hok : lvok lv i = true) (k : gW g nL Z nc ns A (pc + 3) (lv.set i (some (.int v))) st σ) : gW g nL Z nc ns A pc lv st σ := by
  obtain ⟨p, l, e, R, s, m, args, below, meth, c, D, dA, ad⟩ := g
  obtain ⟨hx, hb, hml, hr, hlk, hown, hts, hK, hD, hR, hN⟩ := hc
  intro H locs ls hP hS hl
  obtain ⟨j, hj⟩ := List.getElem?_of_mem ((lvl_mem (ad := ad) lv 0 (i, .int x)).mpr ⟨i, .int x, hv, by simp [cvv]⟩)
  exact lv_iinc hx hb hd hl hj he hn rfl (fun ls hl => k H locs ls hP hS (lvl_set1 (v := .int v) hok hl))
theorem gt_iadd {g : Gx} {A : Nat → Prop} {own : String} {cc : ByteArray} {nL : Nat} {ret : Option FieldType} {d : Nat} {Z : State → Prop} {nc ns : Nat} {pc : Nat} {lv : List (Option Value)} {st : List Value} {σ : Heap → Prop} {x y : Int32} (hc : gX g own cc nL ret d) (hd : decode cc pc = .ok (.iadd, 1))  (k : gW g nL Z nc ns A (pc + 1) lv (.int (x + y) :: st) σ) : gW g nL Z nc ns A pc lv (.int y :: .int x :: st) σ := by
  obtain ⟨p, l, e, R, s, m, args, below, meth, c, D, dA, ad⟩ := g
  obtain ⟨hx, hb, hml, hr, hlk, hown, hts, hK, hD, hR, hN⟩ := hc
  intro H locs ls hP hS hl
  exact lv_iadd hx hb hd (k H locs ls hP hS hl)
theorem gt_isub {g : Gx} {A : Nat → Prop} {own : String} {cc : ByteArray} {nL : Nat} {ret : Option FieldType} {d : Nat} {Z : State → Prop} {nc ns : Nat} {pc : Nat} {lv : List (Option Value)} {st : List Value} {σ : Heap → Prop} {x y : Int32} (hc : gX g own cc nL ret d) (hd : decode cc pc = .ok (.isub, 1))  (k : gW g nL Z nc ns A (pc + 1) lv (.int (x - y) :: st) σ) : gW g nL Z nc ns A pc lv (.int y :: .int x :: st) σ := by
  obtain ⟨p, l, e, R, s, m, args, below, meth, c, D, dA, ad⟩ := g
  obtain ⟨hx, hb, hml, hr, hlk, hown, hts, hK, hD, hR, hN⟩ := hc
  intro H locs ls hP hS hl
  exact lv_isub hx hb hd (k H locs ls hP hS hl)
theorem gt_imul {g : Gx} {A : Nat → Prop} {own : String} {cc : ByteArray} {nL : Nat} {ret : Option FieldType} {d : Nat} {Z : State → Prop} {nc ns : Nat} {pc : Nat} {lv : List (Option Value)} {st : List Value} {σ : Heap → Prop} {x y : Int32} (hc : gX g own cc nL ret d) (hd : decode cc pc = .ok (.imul, 1))  (k : gW g nL Z nc ns A (pc + 1) lv (.int (x * y) :: st) σ) : gW g nL Z nc ns A pc lv (.int y :: .int x :: st) σ := by
  obtain ⟨p, l, e, R, s, m, args, below, meth, c, D, dA, ad⟩ := g
  obtain ⟨hx, hb, hml, hr, hlk, hown, hts, hK, hD, hR, hN⟩ := hc
  intro H locs ls hP hS hl
  exact lv_imul hx hb hd (k H locs ls hP hS hl)
theorem gt_iand {g : Gx} {A : Nat → Prop} {own : String} {cc : ByteArray} {nL : Nat} {ret : Option FieldType} {d : Nat} {Z : State → Prop} {nc ns : Nat} {pc : Nat} {lv : List (Option Value)} {st : List Value} {σ : Heap → Prop} {x y : Int32} (hc : gX g own cc nL ret d) (hd : decode cc pc = .ok (.iand, 1))  (k : gW g nL Z nc ns A (pc + 1) lv (.int (x &&& y) :: st) σ) : gW g nL Z nc ns A pc lv (.int y :: .int x :: st) σ := by
  obtain ⟨p, l, e, R, s, m, args, below, meth, c, D, dA, ad⟩ := g
  obtain ⟨hx, hb, hml, hr, hlk, hown, hts, hK, hD, hR, hN⟩ := hc
  intro H locs ls hP hS hl
  exact lv_iand hx hb hd (k H locs ls hP hS hl)
theorem gt_dup {g : Gx} {A : Nat → Prop} {own : String} {cc : ByteArray} {nL : Nat} {ret : Option FieldType} {d : Nat} {Z : State → Prop} {nc ns : Nat} {pc : Nat} {lv : List (Option Value)} {st : List Value} {σ : Heap → Prop} {a : Value} (hc : gX g own cc nL ret d) (hd : decode cc pc = .ok (.dup, 1)) (ha : a.category = 1) (k : gW g nL Z nc ns A (pc + 1) lv (a :: a :: st) σ) : gW g nL Z nc ns A pc lv (a :: st) σ := by
  obtain ⟨p, l, e, R, s, m, args, below, meth, c, D, dA, ad⟩ := g
  obtain ⟨hx, hb, hml, hr, hlk, hown, hts, hK, hD, hR, hN⟩ := hc
  intro H locs ls hP hS hl
  exact lv_dup hx hb hd ((cvv_cat ad a).trans ha) (k H locs ls hP hS hl)
theorem gt_i2l {g : Gx} {A : Nat → Prop} {own : String} {cc : ByteArray} {nL : Nat} {ret : Option FieldType} {d : Nat} {Z : State → Prop} {nc ns : Nat} {pc : Nat} {lv : List (Option Value)} {st : List Value} {σ : Heap → Prop} {x : Int32} (hc : gX g own cc nL ret d) (hd : decode cc pc = .ok (.i2l, 1))  (k : gW g nL Z nc ns A (pc + 1) lv (.long x.toInt64 :: st) σ) : gW g nL Z nc ns A pc lv (.int x :: st) σ := by
  obtain ⟨p, l, e, R, s, m, args, below, meth, c, D, dA, ad⟩ := g
  obtain ⟨hx, hb, hml, hr, hlk, hown, hts, hK, hD, hR, hN⟩ := hc
  intro H locs ls hP hS hl
  exact lv_i2l hx hb hd rfl (k H locs ls hP hS hl)
theorem gt_lcmp {g : Gx} {A : Nat → Prop} {own : String} {cc : ByteArray} {nL : Nat} {ret : Option FieldType} {d : Nat} {Z : State → Prop} {nc ns : Nat} {pc : Nat} {lv : List (Option Value)} {st : List Value} {σ : Heap → Prop} {x y : Int64} (hc : gX g own cc nL ret d) (hd : decode cc pc = .ok (.lcmp, 1))  (k : gW g nL Z nc ns A (pc + 1) lv (.int (lg_cmp x y) :: st) σ) : gW g nL Z nc ns A pc lv (.long y :: .long x :: st) σ := by
  obtain ⟨p, l, e, R, s, m, args, below, meth, c, D, dA, ad⟩ := g
  obtain ⟨hx, hb, hml, hr, hlk, hown, hts, hK, hD, hR, hN⟩ := hc
  intro H locs ls hP hS hl
  exact W.lcmp hx hb hd (k H locs ls hP hS hl)
theorem gt_if_eq {g : Gx} {A : Nat → Prop} {own : String} {cc : ByteArray} {nL : Nat} {ret : Option FieldType} {d : Nat} {Z : State → Prop} {nc ns : Nat} {pc : Nat} {lv : List (Option Value)} {st : List Value} {σ : Heap → Prop} {x : Int32} {off : Int} {tgt : Nat} (hc : gX g own cc nL ret d) (hd : decode cc pc = .ok (.ifCond .eq off, 3)) (ht : (pc : Int) + off = (tgt : Int)) (kt : x = 0 → gW g nL Z nc ns A tgt lv st σ) (kf : ¬ x = 0 → gW g nL Z nc ns A (pc + 3) lv st σ) : gW g nL Z nc ns A pc lv (.int x :: st) σ := by
  obtain ⟨p, l, e, R, s, m, args, below, meth, c, D, dA, ad⟩ := g
  obtain ⟨hx, hb, hml, hr, hlk, hown, hts, hK, hD, hR, hN⟩ := hc
  intro H locs ls hP hS hl
  exact lv_if_eq hx hb hd ht (fun h => kt h H locs ls hP hS hl) (fun h => kf h H locs ls hP hS hl)
theorem gt_if_ne {g : Gx} {A : Nat → Prop} {own : String} {cc : ByteArray} {nL : Nat} {ret : Option FieldType} {d : Nat} {Z : State → Prop} {nc ns : Nat} {pc : Nat} {lv : List (Option Value)} {st : List Value} {σ : Heap → Prop} {x : Int32} {off : Int} {tgt : Nat} (hc : gX g own cc nL ret d) (hd : decode cc pc = .ok (.ifCond .ne off, 3)) (ht : (pc : Int) + off = (tgt : Int)) (kt : ¬ x = 0 → gW g nL Z nc ns A tgt lv st σ) (kf : x = 0 → gW g nL Z nc ns A (pc + 3) lv st σ) : gW g nL Z nc ns A pc lv (.int x :: st) σ := by
  obtain ⟨p, l, e, R, s, m, args, below, meth, c, D, dA, ad⟩ := g
  obtain ⟨hx, hb, hml, hr, hlk, hown, hts, hK, hD, hR, hN⟩ := hc
  intro H locs ls hP hS hl
  exact lv_if_ne hx hb hd ht (fun h => kt h H locs ls hP hS hl) (fun h => kf (by simpa using h) H locs ls hP hS hl)
theorem gt_if_lt {g : Gx} {A : Nat → Prop} {own : String} {cc : ByteArray} {nL : Nat} {ret : Option FieldType} {d : Nat} {Z : State → Prop} {nc ns : Nat} {pc : Nat} {lv : List (Option Value)} {st : List Value} {σ : Heap → Prop} {x : Int32} {off : Int} {tgt : Nat} (hc : gX g own cc nL ret d) (hd : decode cc pc = .ok (.ifCond .lt off, 3)) (ht : (pc : Int) + off = (tgt : Int)) (kt : x < 0 → gW g nL Z nc ns A tgt lv st σ) (kf : ¬ x < 0 → gW g nL Z nc ns A (pc + 3) lv st σ) : gW g nL Z nc ns A pc lv (.int x :: st) σ := by
  obtain ⟨p, l, e, R, s, m, args, below, meth, c, D, dA, ad⟩ := g
  obtain ⟨hx, hb, hml, hr, hlk, hown, hts, hK, hD, hR, hN⟩ := hc
  intro H locs ls hP hS hl
  exact lv_if_lt hx hb hd ht (fun h => kt h H locs ls hP hS hl) (fun h => kf h H locs ls hP hS hl)
theorem gt_if_ge {g : Gx} {A : Nat → Prop} {own : String} {cc : ByteArray} {nL : Nat} {ret : Option FieldType} {d : Nat} {Z : State → Prop} {nc ns : Nat} {pc : Nat} {lv : List (Option Value)} {st : List Value} {σ : Heap → Prop} {x : Int32} {off : Int} {tgt : Nat} (hc : gX g own cc nL ret d) (hd : decode cc pc = .ok (.ifCond .ge off, 3)) (ht : (pc : Int) + off = (tgt : Int)) (kt : 0 ≤ x → gW g nL Z nc ns A tgt lv st σ) (kf : ¬ 0 ≤ x → gW g nL Z nc ns A (pc + 3) lv st σ) : gW g nL Z nc ns A pc lv (.int x :: st) σ := by
  obtain ⟨p, l, e, R, s, m, args, below, meth, c, D, dA, ad⟩ := g
  obtain ⟨hx, hb, hml, hr, hlk, hown, hts, hK, hD, hR, hN⟩ := hc
  intro H locs ls hP hS hl
  exact lv_if_ge hx hb hd ht (fun h => kt h H locs ls hP hS hl) (fun h => kf h H locs ls hP hS hl)
theorem gt_if_gt {g : Gx} {A : Nat → Prop} {own : String} {cc : ByteArray} {nL : Nat} {ret : Option FieldType} {d : Nat} {Z : State → Prop} {nc ns : Nat} {pc : Nat} {lv : List (Option Value)} {st : List Value} {σ : Heap → Prop} {x : Int32} {off : Int} {tgt : Nat} (hc : gX g own cc nL ret d) (hd : decode cc pc = .ok (.ifCond .gt off, 3)) (ht : (pc : Int) + off = (tgt : Int)) (kt : 0 < x → gW g nL Z nc ns A tgt lv st σ) (kf : ¬ 0 < x → gW g nL Z nc ns A (pc + 3) lv st σ) : gW g nL Z nc ns A pc lv (.int x :: st) σ := by
  obtain ⟨p, l, e, R, s, m, args, below, meth, c, D, dA, ad⟩ := g
  obtain ⟨hx, hb, hml, hr, hlk, hown, hts, hK, hD, hR, hN⟩ := hc
  intro H locs ls hP hS hl
  exact lv_if_gt hx hb hd ht (fun h => kt h H locs ls hP hS hl) (fun h => kf h H locs ls hP hS hl)
theorem gt_if_le {g : Gx} {A : Nat → Prop} {own : String} {cc : ByteArray} {nL : Nat} {ret : Option FieldType} {d : Nat} {Z : State → Prop} {nc ns : Nat} {pc : Nat} {lv : List (Option Value)} {st : List Value} {σ : Heap → Prop} {x : Int32} {off : Int} {tgt : Nat} (hc : gX g own cc nL ret d) (hd : decode cc pc = .ok (.ifCond .le off, 3)) (ht : (pc : Int) + off = (tgt : Int)) (kt : x ≤ 0 → gW g nL Z nc ns A tgt lv st σ) (kf : ¬ x ≤ 0 → gW g nL Z nc ns A (pc + 3) lv st σ) : gW g nL Z nc ns A pc lv (.int x :: st) σ := by
  obtain ⟨p, l, e, R, s, m, args, below, meth, c, D, dA, ad⟩ := g
  obtain ⟨hx, hb, hml, hr, hlk, hown, hts, hK, hD, hR, hN⟩ := hc
  intro H locs ls hP hS hl
  exact lv_if_le hx hb hd ht (fun h => kt h H locs ls hP hS hl) (fun h => kf h H locs ls hP hS hl)
theorem gt_icmp_eq {g : Gx} {A : Nat → Prop} {own : String} {cc : ByteArray} {nL : Nat} {ret : Option FieldType} {d : Nat} {Z : State → Prop} {nc ns : Nat} {pc : Nat} {lv : List (Option Value)} {st : List Value} {σ : Heap → Prop} {x y : Int32} {off : Int} {tgt : Nat} (hc : gX g own cc nL ret d) (hd : decode cc pc = .ok (.if_icmp .eq off, 3)) (ht : (pc : Int) + off = (tgt : Int)) (kt : x = y → gW g nL Z nc ns A tgt lv st σ) (kf : ¬ x = y → gW g nL Z nc ns A (pc + 3) lv st σ) : gW g nL Z nc ns A pc lv (.int y :: .int x :: st) σ := by
  obtain ⟨p, l, e, R, s, m, args, below, meth, c, D, dA, ad⟩ := g
  obtain ⟨hx, hb, hml, hr, hlk, hown, hts, hK, hD, hR, hN⟩ := hc
  intro H locs ls hP hS hl
  exact lv_icmp_eq hx hb hd ht (fun h => kt h H locs ls hP hS hl) (fun h => kf h H locs ls hP hS hl)
theorem gt_icmp_ne {g : Gx} {A : Nat → Prop} {own : String} {cc : ByteArray} {nL : Nat} {ret : Option FieldType} {d : Nat} {Z : State → Prop} {nc ns : Nat} {pc : Nat} {lv : List (Option Value)} {st : List Value} {σ : Heap → Prop} {x y : Int32} {off : Int} {tgt : Nat} (hc : gX g own cc nL ret d) (hd : decode cc pc = .ok (.if_icmp .ne off, 3)) (ht : (pc : Int) + off = (tgt : Int)) (kt : ¬ x = y → gW g nL Z nc ns A tgt lv st σ) (kf : x = y → gW g nL Z nc ns A (pc + 3) lv st σ) : gW g nL Z nc ns A pc lv (.int y :: .int x :: st) σ := by
  obtain ⟨p, l, e, R, s, m, args, below, meth, c, D, dA, ad⟩ := g
  obtain ⟨hx, hb, hml, hr, hlk, hown, hts, hK, hD, hR, hN⟩ := hc
  intro H locs ls hP hS hl
  exact lv_icmp_ne hx hb hd ht (fun h => kt h H locs ls hP hS hl) (fun h => kf (by simpa using h) H locs ls hP hS hl)
theorem gt_icmp_lt {g : Gx} {A : Nat → Prop} {own : String} {cc : ByteArray} {nL : Nat} {ret : Option FieldType} {d : Nat} {Z : State → Prop} {nc ns : Nat} {pc : Nat} {lv : List (Option Value)} {st : List Value} {σ : Heap → Prop} {x y : Int32} {off : Int} {tgt : Nat} (hc : gX g own cc nL ret d) (hd : decode cc pc = .ok (.if_icmp .lt off, 3)) (ht : (pc : Int) + off = (tgt : Int)) (kt : x < y → gW g nL Z nc ns A tgt lv st σ) (kf : ¬ x < y → gW g nL Z nc ns A (pc + 3) lv st σ) : gW g nL Z nc ns A pc lv (.int y :: .int x :: st) σ := by
  obtain ⟨p, l, e, R, s, m, args, below, meth, c, D, dA, ad⟩ := g
  obtain ⟨hx, hb, hml, hr, hlk, hown, hts, hK, hD, hR, hN⟩ := hc
  intro H locs ls hP hS hl
  exact lv_icmp_lt hx hb hd ht (fun h => kt h H locs ls hP hS hl) (fun h => kf h H locs ls hP hS hl)
theorem gt_icmp_ge {g : Gx} {A : Nat → Prop} {own : String} {cc : ByteArray} {nL : Nat} {ret : Option FieldType} {d : Nat} {Z : State → Prop} {nc ns : Nat} {pc : Nat} {lv : List (Option Value)} {st : List Value} {σ : Heap → Prop} {x y : Int32} {off : Int} {tgt : Nat} (hc : gX g own cc nL ret d) (hd : decode cc pc = .ok (.if_icmp .ge off, 3)) (ht : (pc : Int) + off = (tgt : Int)) (kt : y ≤ x → gW g nL Z nc ns A tgt lv st σ) (kf : ¬ y ≤ x → gW g nL Z nc ns A (pc + 3) lv st σ) : gW g nL Z nc ns A pc lv (.int y :: .int x :: st) σ := by
  obtain ⟨p, l, e, R, s, m, args, below, meth, c, D, dA, ad⟩ := g
  obtain ⟨hx, hb, hml, hr, hlk, hown, hts, hK, hD, hR, hN⟩ := hc
  intro H locs ls hP hS hl
  exact lv_icmp_ge hx hb hd ht (fun h => kt h H locs ls hP hS hl) (fun h => kf h H locs ls hP hS hl)
theorem gt_icmp_gt {g : Gx} {A : Nat → Prop} {own : String} {cc : ByteArray} {nL : Nat} {ret : Option FieldType} {d : Nat} {Z : State → Prop} {nc ns : Nat} {pc : Nat} {lv : List (Option Value)} {st : List Value} {σ : Heap → Prop} {x y : Int32} {off : Int} {tgt : Nat} (hc : gX g own cc nL ret d) (hd : decode cc pc = .ok (.if_icmp .gt off, 3)) (ht : (pc : Int) + off = (tgt : Int)) (kt : y < x → gW g nL Z nc ns A tgt lv st σ) (kf : ¬ y < x → gW g nL Z nc ns A (pc + 3) lv st σ) : gW g nL Z nc ns A pc lv (.int y :: .int x :: st) σ := by
  obtain ⟨p, l, e, R, s, m, args, below, meth, c, D, dA, ad⟩ := g
  obtain ⟨hx, hb, hml, hr, hlk, hown, hts, hK, hD, hR, hN⟩ := hc
  intro H locs ls hP hS hl
  exact lv_icmp_gt hx hb hd ht (fun h => kt h H locs ls hP hS hl) (fun h => kf h H locs ls hP hS hl)
theorem gt_icmp_le {g : Gx} {A : Nat → Prop} {own : String} {cc : ByteArray} {nL : Nat} {ret : Option FieldType} {d : Nat} {Z : State → Prop} {nc ns : Nat} {pc : Nat} {lv : List (Option Value)} {st : List Value} {σ : Heap → Prop} {x y : Int32} {off : Int} {tgt : Nat} (hc : gX g own cc nL ret d) (hd : decode cc pc = .ok (.if_icmp .le off, 3)) (ht : (pc : Int) + off = (tgt : Int)) (kt : x ≤ y → gW g nL Z nc ns A tgt lv st σ) (kf : ¬ x ≤ y → gW g nL Z nc ns A (pc + 3) lv st σ) : gW g nL Z nc ns A pc lv (.int y :: .int x :: st) σ := by
  obtain ⟨p, l, e, R, s, m, args, below, meth, c, D, dA, ad⟩ := g
  obtain ⟨hx, hb, hml, hr, hlk, hown, hts, hK, hD, hR, hN⟩ := hc
  intro H locs ls hP hS hl
  exact lv_icmp_le hx hb hd ht (fun h => kt h H locs ls hP hS hl) (fun h => kf h H locs ls hP hS hl)
theorem gt_goto {g : Gx} {A : Nat → Prop} {own : String} {cc : ByteArray} {nL : Nat} {ret : Option FieldType} {d : Nat} {Z : State → Prop} {nc ns : Nat} {pc : Nat} {lv : List (Option Value)} {st : List Value} {σ : Heap → Prop} {off : Int} {tgt : Nat} (hc : gX g own cc nL ret d) (hd : decode cc pc = .ok (.goto off, 3)) (ht : (pc : Int) + off = (tgt : Int)) (k : gW g nL Z nc ns A (tgt) lv st σ) : gW g nL Z nc ns A pc lv st σ := by
  obtain ⟨p, l, e, R, s, m, args, below, meth, c, D, dA, ad⟩ := g
  obtain ⟨hx, hb, hml, hr, hlk, hown, hts, hK, hD, hR, hN⟩ := hc
  intro H locs ls hP hS hl
  exact lv_goto hx hb hd ht (k H locs ls hP hS hl)
theorem gt_tableIn {g : Gx} {A : Nat → Prop} {own : String} {cc : ByteArray} {nL : Nat} {ret : Option FieldType} {d : Nat} {Z : State → Prop} {nc ns : Nat} {pc : Nat} {lv : List (Option Value)} {st : List Value} {σ : Heap → Prop} {df lo hi : Int} {offs : Array Int} {ln : Nat} {x : Int32} {off : Int} {tgt : Nat} (hc : gX g own cc nL ret d) (hd : decode cc pc = .ok (.tableswitch df lo hi offs, ln)) (h1 : ¬ x.toInt < lo) (h2 : ¬ hi < x.toInt) (ho : offs[(x.toInt - lo).toNat]? = some off) (ht : (pc : Int) + off = (tgt : Int)) (k : gW g nL Z nc ns A (tgt) lv st σ) : gW g nL Z nc ns A pc lv (.int x :: st) σ := by
  obtain ⟨p, l, e, R, s, m, args, below, meth, c, D, dA, ad⟩ := g
  obtain ⟨hx, hb, hml, hr, hlk, hown, hts, hK, hD, hR, hN⟩ := hc
  intro H locs ls hP hS hl
  exact lv_tableIn hx hb hd h1 h2 ho ht (k H locs ls hP hS hl)
theorem gt_tableOut {g : Gx} {A : Nat → Prop} {own : String} {cc : ByteArray} {nL : Nat} {ret : Option FieldType} {d : Nat} {Z : State → Prop} {nc ns : Nat} {pc : Nat} {lv : List (Option Value)} {st : List Value} {σ : Heap → Prop} {df lo hi : Int} {offs : Array Int} {ln : Nat} {x : Int32} {tgt : Nat} (hc : gX g own cc nL ret d) (hd : decode cc pc = .ok (.tableswitch df lo hi offs, ln)) (h : x.toInt < lo ∨ hi < x.toInt) (ht : (pc : Int) + df = (tgt : Int)) (k : gW g nL Z nc ns A (tgt) lv st σ) : gW g nL Z nc ns A pc lv (.int x :: st) σ := by
  obtain ⟨p, l, e, R, s, m, args, below, meth, c, D, dA, ad⟩ := g
  obtain ⟨hx, hb, hml, hr, hlk, hown, hts, hK, hD, hR, hN⟩ := hc
  intro H locs ls hP hS hl
  exact lv_tableOut hx hb hd h ht (k H locs ls hP hS hl)
theorem cvv_id (v : Value) : cvv (fun k => k) v = v := by cases v <;> rfl
theorem cvv_idm : ∀ vs : List Value, vs.map (cvv (fun k => k)) = vs := by
  intro vs
  induction vs with
  | nil => rfl
  | cons v vs ih => rw [List.map_cons, ih, cvv_id]
def gD (g : Gx) : va_G := match g with
  | (_, _, _, _, _, _, _, _, _, _, D, _, _) => D
def gdA (g : Gx) : Nat → ClassId := match g with
  | (_, _, _, _, _, _, _, _, _, _, _, dA, _) => dA
def gR (g : Gx) : Room := match g with
  | (_, _, _, R, _, _, _, _, _, _, _, _, _) => R
def gI (g : Gx) : Prop := match g with
  | (_, _, _, _, _, _, _, _, meth, _, _, _, _) => meth.name = "<init>"
def gAO (g : Gx) : Prop := match g with
  | (_, _, _, _, s, _, _, _, _, _, _, _, _) => va_AO "PegCourt$Shelf" s
/-- the cells made: from the address a on, one behind another -/
def nWs (a : Nat) : List va_E → va_W
  | [] => []
  | e :: es => (a, e) :: nWs (a + 1) es
theorem nWs_get : ∀ (cs : List va_E) (a k : Nat), (nWs a cs)[k]? = (cs[k]?).map (fun e => (a + k, e)) := by
  intro cs
  induction cs with
  | nil => intro a k; simp [nWs]
  | cons e es ih =>
    intro a k
    cases k with
    | zero => simp [nWs]
    | succ k => simp only [nWs, List.getElem?_cons_succ]; rw [ih (a + 1) k]; congr 1; funext f; simp [Nat.add_assoc, Nat.add_comm 1]
theorem nWs_app : ∀ (cs ds : List va_E) (a : Nat), nWs a (cs ++ ds) = nWs a cs ++ nWs (a + cs.length) ds := by
  intro cs
  induction cs with
  | nil => intro ds a; simp [nWs]
  | cons e es ih => intro ds a; simp only [List.cons_append, nWs, List.length_cons]; rw [ih ds (a + 1)]; simp [Nat.add_assoc, Nat.add_comm 1]
theorem nWs_len : ∀ (cs : List va_E) (a : Nat), (nWs a cs).length = cs.length := by
  intro cs
  induction cs with
  | nil => intro a; rfl
  | cons e es ih => intro a; simp [nWs, ih]
theorem nWs_set : ∀ (cs : List va_E) (a k : Nat) (e : va_E), (nWs a cs).set k (a + k, e) = nWs a (cs.set k e) := by
  intro cs a k e
  apply List.ext_getElem?
  intro n
  rw [List.getElem?_set, nWs_len, nWs_get, nWs_get, List.getElem?_set]
  by_cases h : k = n
  · subst h
    simp only [if_true]
    by_cases h2 : k < cs.length
    · simp [h2]
    · simp [h2]
  · simp [h]
theorem nWs_D (a : Nat) (cs : List va_E) : va_D (fun q => a ≤ q) (nWs a cs) := by
  constructor
  · intro i j p q hp hq e
    rw [nWs_get] at hp hq
    obtain ⟨x, -, rfl⟩ := Option.map_eq_some_iff.mp hp
    obtain ⟨y, -, rfl⟩ := Option.map_eq_some_iff.mp hq
    simp only at e
    omega
  · intro k q hq
    rw [nWs_get] at hq
    obtain ⟨x, -, rfl⟩ := Option.map_eq_some_iff.mp hq
    exact Nat.le_add_right a k
theorem nWs_at {a k : Nat} {cs : List va_E} {e : va_E} (h : cs[k]? = some e) : (nWs a cs)[k]? = some (a + k, e) := by
  rw [nWs_get, h]; rfl
/-- the world of a constructor: the object at a, and what was made behind it -/
def nP (D : va_G) (a : Nat) (cs : List va_E) : Heap → Prop := fun H => va_P D vwCl (nWs a cs) H ∧ H.size = a + cs.length
theorem nP.push {D : va_G} {a : Nat} {cs : List va_E} {H H1 : Heap} {e : va_E} (h : nP D a cs H) (he : va_at D vwCl (H.size, e) H1) (z1 : H1.size = H.size + 1) (o1 : ∀ q, q < H.size → H1[q]? = H[q]?) : nP D a (cs ++ [e]) H1 := by
  constructor
  · rw [nWs_app]
    refine (h.1.kept (fun k x hx => o1 x.1 ((h.1 k x hx).lt))).app ?_
    intro k x hx
    cases k with
    | zero => cases hx; rw [← h.2]; exact he
    | succ k => simp [nWs] at hx
  · rw [z1, h.2, List.length_append]; rfl
theorem va_S.push {A : Nat → Prop} {H0 H H1 : Heap} {locs : List Loc} (h : va_S A H0 H locs) (z1 : H1.size = H.size + 1) (o1 : ∀ q, q < H.size → H1[q]? = H[q]?) : va_S A H0 H1 locs := ⟨Nat.le_trans h.1 (by omega), fun x h1 h2 => (o1 x (Nat.lt_of_lt_of_le h1 h.1)).trans (h.2.1 x h1 h2), h.2.2⟩
theorem nt_obj {g : Gx} {A : Nat → Prop} {own : String} {cc : ByteArray} {nL : Nat} {ret : Option FieldType} {d : Nat} {Z : State → Prop} {nc ns : Nat} {pc : Nat} {lv : List (Option Value)} {σ : Heap → Prop} {idx x : Nat} (hc : gX g own cc nL ret d) (hd1 : 1 ≤ d) (hd : decode cc pc = .ok (.invokespecial idx, 3)) (h1 : Cond.methodLink own idx Lib.objectInit ∈ gw) (h2 : Cond.instanceMethod Lib.objectInit ∈ gw) (h3 : Cond.code Lib.objectInit ⟨#[0xb1]⟩ 1 none ∈ gw) (k : gW g nL Z nc ns A (pc + 3) lv [] σ) : gW g nL Z nc ns A pc lv [.ref x] σ := by
  obtain ⟨p, l, e, R, s, m, args, below, meth, c, D, dA, ad⟩ := g
  obtain ⟨hx, hb, hml, hr, hlk, hown, hts, hK, hD, hR, hN⟩ := hc
  intro H locs ls hP hS hl
  refine W.objInit hx hb hown (hts _ h1) (hts _ h2) (hts _ h3) (g := F0 m pc ls [.ref (ad x)]) rfl (hl.1.trans hml.symm) (a := ad x) (rest := []) rfl hd (by omega) (by show 2 * 0 + 0 + 12 ≤ R.locals; omega) ?_
  exact k H locs ls hP hS hl
theorem nt_new {g : Gx} {a : Nat} {own : String} {cc : ByteArray} {nL : Nat} {ret : Option FieldType} {d : Nat} {Z : State → Prop} {nc ns : Nat} {pc : Nat} {lv : List (Option Value)} {st : List Value} {cs : List va_E} {idx b ci N : Nat} {C : String} {T : u_T} {fs : List Value} (hc : gX g own cc nL ret d) (hcl : nc + 1 ≤ (gR g).cells ∧ ns + N ≤ (gR g).slots) (hv : vwCl[ci]? = some (C, T, N)) (hin : ∀ w ∈ u_ws C T N, w ∈ gw) (ty0 : Nat → FieldType) (hty : ∀ k, k < N → parseFieldDescriptor (T k).2.2.1 = some (ty0 k)) (h1 : Cond.classLink own idx C ∈ gw) (h2 : Cond.instantiable C N ∈ gw) (h3 : Cond.initialized C ∈ gw) (hfs : ∀ j, j < N → defaultValue (ty0 j) = vp_V fs j) (hd : decode cc pc = .ok (.new idx, 3)) (hbe : b = a + cs.length)
    (k : gW g nL Z (nc + 1) (ns + N) (fun q => a ≤ q) (pc + 3) lv (.ref b :: st) (nP (gD g) a (cs ++ [.inr (ci, fs)]))) : gW g nL Z nc ns (fun q => a ≤ q) pc lv st (nP (gD g) a cs) := by
  obtain ⟨p, l, e, R, s, m, args, below, meth, c, D, dA, ad⟩ := g
  obtain ⟨hx, hb, hml, hr, hlk, hown, hts, hK, hD, hR, hN⟩ := hc
  subst hD
  intro H locs ls hP hS hl
  have hKn := hK.1 ci _ hv
  refine W.newcK hx hb hown (hts _ h1) (hts _ h2) (hts _ h3) rfl hd hcl.1 hcl.2 hKn.2.1 rfl fun H1 kC hkC e1 z1 o1 => ?_
  have hh := k H1 locs ls (hP.push (e := .inr (ci, fs)) ⟨_, hv, (u_born ty0 hts hin hKn hkC e1 hty).to hfs⟩ z1 o1) (hS.push z1 o1) hl
  rw [hbe, ← hP.2] at hh
  exact hh
theorem nt_newa {g : Gx} {a : Nat} {own : String} {cc : ByteArray} {nL : Nat} {ret : Option FieldType} {d : Nat} {Z : State → Prop} {nc ns : Nat} {pc : Nat} {lv : List (Option Value)} {st : List Value} {cs : List va_E} {b t N : Nat} {n : Int32} {atype : ArrayType} {a0 : vp_A} (hc : gX g own cc nL ret d) (hcl : nc + 1 ≤ (gR g).cells ∧ ns + N ≤ (gR g).slots) (h1 : Cond.arrayClass (newarray.typeOf atype) ∈ gw) (ht : ∀ dA : Nat → ClassId, (tyl dA)[t]? = some (dA t, newarray.typeOf atype)) (hra : ∀ (U : State) (cA : ClassId), va_RA U cA (newarray.typeOf atype) → U.vm.findClass ("[" ++ (newarray.typeOf atype).toString) = some cA) (ha : ∀ cA : ClassId, vp_cell cA a0 = arrV cA N (fun _ => defaultValue (newarray.typeOf atype))) (hn : ¬ n < 0) (hN : n.toNatClampNeg = N) (hby : N * componentBytes (newarray.typeOf atype) ≤ 536870912) (hd : decode cc pc = .ok (.newarray atype, 2)) (hbe : b = a + cs.length)
    (k : gW g nL Z (nc + 1) (ns + N) (fun q => a ≤ q) (pc + 2) lv (.ref b :: st) (nP (gD g) a (cs ++ [.inl (gdA g t, a0)]))) : gW g nL Z nc ns (fun q => a ≤ q) pc lv (.int n :: st) (nP (gD g) a cs) := by
  obtain ⟨p, l, e, R, s, m, args, below, meth, c, D, dA, ad⟩ := g
  obtain ⟨hx, hb, hml, hr, hlk, hown, hts, hK, hD, hR, hNk⟩ := hc
  subst hD
  intro H locs ls hP hS hl
  refine va_newaK hx hb (hts _ h1) rfl hd rfl hn hN hby hcl.1 hcl.2 rfl fun H1 cA e1 z1 o1 hAr hNm => ?_
  have hcA : cA = dA t := Option.some.inj (hNm.symm.trans (hra s _ (hK.2 t _ (ht dA)).2))
  subst hcA
  have hh := k H1 locs ls (hP.push (e := .inl (dA t, a0)) (by show H1[H.size]? = some (vp_cell _ _); rw [ha]; exact e1) z1 o1) (hS.push z1 o1) hl
  rw [hbe, ← hP.2] at hh
  exact hh
theorem nt_putF {g : Gx} {a : Nat} {own : String} {cc : ByteArray} {nL : Nat} {ret : Option FieldType} {d : Nat} {Z : State → Prop} {nc ns : Nat} {pc : Nat} {lv : List (Option Value)} {st : List Value} {cs : List va_E} {idx x i j ci N : Nat} {T : u_T} {fs : List Value} {ty : FieldType} {v : Value} (hc : gX g own cc nL ret d) (hI : gI g) (hv : vwCl[ci]? = some (own, T, N)) (hin : ∀ w ∈ u_ws own T N, w ∈ gw) (ty0 : Nat → FieldType) (hty : ∀ k, k < N → parseFieldDescriptor (T k).2.2.1 = some (ty0 k)) (hnm : ∀ a, a < N → ∀ b, b < N → a ≠ b → (T a).2.1 ≠ (T b).2.1) (hj : j < N) (h1 : Cond.fieldLink own idx (T j).1 (T j).2.1 (T j).2.2.1 ∈ gw) (hfin : (T j).2.2.2 = true) (hdc : (T j).1 = own) (hty2 : parseFieldDescriptor (T j).2.2.1 = some ty) (hn : narrow ty v = v) (hfit : fits ty v = true) (hcs : cs[i]? = some (.inr (ci, fs))) (hxe : x = a + i) (hlj : j < fs.length) (hd : decode cc pc = .ok (.putfield idx, 3))
    (k : gW g nL Z nc ns (fun q => a ≤ q) (pc + 3) lv st (nP (gD g) a (cs.set i (.inr (ci, fs.set j v))))) : gW g nL Z nc ns (fun q => a ≤ q) pc lv (v :: .ref x :: st) (nP (gD g) a cs) := by
  obtain ⟨p, l, e, R, s, m, args, below, meth, c, D, dA, ad⟩ := g
  obtain ⟨hx, hb, hml, hr, hlk, hown, hts, hK, hD, hR, hNk⟩ := hc
  subst hD
  subst hxe
  intro H locs ls hP hS0 hl
  show W p l e R s m args below meth c H locs nc ns Z (F0 m pc ls (cvv (fun k => k) v :: .ref (a + i) :: st.map (cvv (fun k => k))))
  rw [cvv_id]
  have hap := va_apart (own := own) hts hin ty0 hty hnm hK hv
  obtain ⟨r, hr1, cell, q1, q2, q3, q4⟩ := hP.1 i _ (nWs_at hcs)
  have hr2 : r = (own, T, N) := Option.some.inj (hr1.symm.trans hv)
  subst hr2
  obtain ⟨hS, hfc, kC, hkC, hkind⟩ := hK.1 ci _ hv
  obtain ⟨cf, kf, fi, f, hi, hsl⟩ := hS j hj
  have hlay := hts _ (hin _ (u_in_lay hj))
  unfold u_lay at hlay
  rw [if_pos hfin] at hlay
  have hst := (u_facts hfc hkC (u_lays hts hin hj) hi).1
  have hcf : m.cls = cf := by
    obtain ⟨_, _, c', _, _, _, -, -, hf', -, -, -, hown2, -⟩ := Cond.laysFinal_spec hlay
    have e1 : c' = cf := by have := hi.symm.trans hf'; simp at this; exact this.1.symm
    rw [hdc] at hown2
    rw [← e1]; exact Option.some.inj (hown.symm.trans hown2)
  have h6 := u_fits hfc hkC hkind (Or.inr hlay) hi hty2 hn hfit
  refine W.putFinK hx hb hown (hts _ h1) hi hst hcf hI (by rw [q2]; exact h6) q1 q3 (by rw [hsl]; exact k2_hasslot (q4 j hj)) rfl rfl hd fun H' e1 e2 e3 => ?_
  rw [hsl] at e1 ⊢
  have hP1 := hP.1.set (nWs_D a cs) (nWs_at hcs) (e := .inr (ci, fs.set j v)) (H1 := H') ⟨_, hv, t_OB.to (V := updV (vp_V fs) j v) ⟨_, e1, q2, q3, t_set q4 hap hj v⟩ (fun j' _ => vp_updV_set hlj v j')⟩ e3
  rw [nWs_set] at hP1
  exact k H' _ ls ⟨hP1, by rw [e2, hP.2, List.length_set]⟩ (hS0.put e2 e3 (Nat.le_add_right a i)) hl
theorem nt_put {g : Gx} {a : Nat} {own : String} {cc : ByteArray} {nL : Nat} {ret : Option FieldType} {d : Nat} {Z : State → Prop} {nc ns : Nat} {pc : Nat} {lv : List (Option Value)} {st : List Value} {cs : List va_E} {idx x i j ci N : Nat} {T : u_T} {fs : List Value} {ty : FieldType} {v : Value} (hc : gX g own cc nL ret d) (hv : vwCl[ci]? = some (own, T, N)) (hin : ∀ w ∈ u_ws own T N, w ∈ gw) (ty0 : Nat → FieldType) (hty : ∀ k, k < N → parseFieldDescriptor (T k).2.2.1 = some (ty0 k)) (hnm : ∀ a, a < N → ∀ b, b < N → a ≠ b → (T a).2.1 ≠ (T b).2.1) (hj : j < N) (h1 : Cond.fieldLink own idx (T j).1 (T j).2.1 (T j).2.2.1 ∈ gw) (hfin : (T j).2.2.2 = false) (hty2 : parseFieldDescriptor (T j).2.2.1 = some ty) (hn : narrow ty v = v) (hfit : fits ty v = true) (hcs : cs[i]? = some (.inr (ci, fs))) (hxe : x = a + i) (hlj : j < fs.length) (hd : decode cc pc = .ok (.putfield idx, 3))
    (k : gW g nL Z nc ns (fun q => a ≤ q) (pc + 3) lv st (nP (gD g) a (cs.set i (.inr (ci, fs.set j v))))) : gW g nL Z nc ns (fun q => a ≤ q) pc lv (v :: .ref x :: st) (nP (gD g) a cs) := by
  obtain ⟨p, l, e, R, s, m, args, below, meth, c, D, dA, ad⟩ := g
  obtain ⟨hx, hb, hml, hr, hlk, hown, hts, hK, hD, hR, hNk⟩ := hc
  subst hD
  subst hxe
  intro H locs ls hP hS0 hl
  show W p l e R s m args below meth c H locs nc ns Z (F0 m pc ls (cvv (fun k => k) v :: .ref (a + i) :: st.map (cvv (fun k => k))))
  rw [cvv_id]
  have hap := va_apart (own := own) hts hin ty0 hty hnm hK hv
  obtain ⟨r, hr1, cell, q1, q2, q3, q4⟩ := hP.1 i _ (nWs_at hcs)
  have hr2 : r = (own, T, N) := Option.some.inj (hr1.symm.trans hv)
  subst hr2
  obtain ⟨hS, hfc, kC, hkC, hkind⟩ := hK.1 ci _ hv
  obtain ⟨cf, kf, fi, f, hi, hsl⟩ := hS j hj
  have hlay := hts _ (hin _ (u_in_lay hj))
  unfold u_lay at hlay
  rw [if_neg (by rw [hfin]; decide)] at hlay
  have hst := (u_facts hfc hkC (u_lays hts hin hj) hi).1
  have h6 := u_store hfc hkC hkind hlay hi hty2 hn hfit
  refine W.putK hx hb (f := f) ⟨hown, hts _ h1, ⟨_, _, _, hi⟩, hst⟩ (by rw [q2]; exact h6) q1 q3 (by rw [hsl]; exact k2_hasslot (q4 j hj)) rfl rfl hd fun H' e1 e2 e3 => ?_
  rw [hsl] at e1 ⊢
  have hP1 := hP.1.set (nWs_D a cs) (nWs_at hcs) (e := .inr (ci, fs.set j v)) (H1 := H') ⟨_, hv, t_OB.to (V := updV (vp_V fs) j v) ⟨_, e1, q2, q3, t_set q4 hap hj v⟩ (fun j' _ => vp_updV_set hlj v j')⟩ e3
  rw [nWs_set] at hP1
  exact k H' _ ls ⟨hP1, by rw [e2, hP.2, List.length_set]⟩ (hS0.put e2 e3 (Nat.le_add_right a i)) hl
theorem nt_get {g : Gx} {a : Nat} {A : Nat → Prop} {own : String} {cc : ByteArray} {nL : Nat} {ret : Option FieldType} {d : Nat} {Z : State → Prop} {nc ns : Nat} {pc : Nat} {lv : List (Option Value)} {st : List Value} {cs : List va_E} {idx x i j ci N : Nat} {T : u_T} {fs : List Value} {v : Value} (hc : gX g own cc nL ret d) (hv : vwCl[ci]? = some (own, T, N)) (hin : ∀ w ∈ u_ws own T N, w ∈ gw) (hj : j < N) (h1 : Cond.fieldLink own idx (T j).1 (T j).2.1 (T j).2.2.1 ∈ gw) (hcs : cs[i]? = some (.inr (ci, fs))) (hxe : x = a + i) (hfv : fs[j]? = some v) (hd : decode cc pc = .ok (.getfield idx, 3))
    (k : gW g nL Z nc ns A (pc + 3) lv (v :: st) (nP (gD g) a cs)) : gW g nL Z nc ns A pc lv (.ref x :: st) (nP (gD g) a cs) := by
  obtain ⟨p, l, e, R, s, m, args, below, meth, c, D, dA, ad⟩ := g
  obtain ⟨hx, hb, hml, hr, hlk, hown, hts, hK, hD, hR, hNk⟩ := hc
  subst hD
  subst hxe
  intro H locs ls hP hS hl
  have hh := k H locs ls hP hS hl
  rw [List.map_cons, cvv_id] at hh
  exact va_get hx hb hts hin hown hK hP.1 i (nWs_at hcs) hv j hj (hts _ h1) (fun _ h => h) hfv hd hh
theorem nt_iast {g : Gx} {a : Nat} {own : String} {cc : ByteArray} {nL : Nat} {ret : Option FieldType} {d : Nat} {Z : State → Prop} {nc ns : Nat} {pc : Nat} {lv : List (Option Value)} {st : List Value} {cs : List va_E} {x i n : Nat} {f : Nat → Int32} {j y : Int32} (hc : gX g own cc nL ret d) (hcs : cs[i]? = some (.inl (gdA g 0, n, .inl f))) (hxe : x = a + i) (hin : vp_in j n) (hd : decode cc pc = .ok (.iastore, 1))
    (k : gW g nL Z nc ns (fun q => a ≤ q) (pc + 1) lv st (nP (gD g) a (cs.set i (.inl (gdA g 0, n, .inl (upd f j.toNatClampNeg y)))))) : gW g nL Z nc ns (fun q => a ≤ q) pc lv (.int y :: .int j :: .ref x :: st) (nP (gD g) a cs) := by
  obtain ⟨p, l, e, R, s, m, args, below, meth, c, D, dA, ad⟩ := g
  obtain ⟨hx, hb, hml, hr, hlk, hown, hts, hK, hD, hR, hNk⟩ := hc
  subst hD
  subst hxe
  intro H locs ls hP hS hl
  refine W.iast hx hb (hP.1 i _ (nWs_at hcs)) ((hK.2 0 _ rfl).1 n (fun j => .int (f j))) (fun q => by cases q) (by show ¬ (j < 0 ∨ (arrV _ _ _).slots.size ≤ _); rw [arrV_size]; exact hin) rfl rfl hd fun H1 e1 z oq => ?_
  have hP1 := hP.1.set (nWs_D a cs) (nWs_at hcs) (e := .inl (dA 0, n, .inl (upd f j.toNatClampNeg y))) (H1 := H1) (by
    show H1[a + i]? = some (vp_cell _ _)
    rw [e1]
    rw [vp_cell_i, vp_cell_i, arrV_store]
    congr 2
    funext q
    by_cases hq : q = j.toNatClampNeg
    · subst hq
      simp [updV, upd]
    · simp [updV, upd, hq]) oq
  rw [nWs_set] at hP1
  exact k H1 _ ls ⟨hP1, by rw [z, hP.2, List.length_set]⟩ (hS.put z oq (Nat.le_add_right a i)) hl
theorem nt_aast {g : Gx} {a : Nat} {own : String} {cc : ByteArray} {nL : Nat} {ret : Option FieldType} {d : Nat} {Z : State → Prop} {nc ns : Nat} {pc : Nat} {lv : List (Option Value)} {st : List Value} {cs : List va_E} {x y i i2 n : Nat} {T : u_T} {N : Nat} {f : Nat → Option Nat} {vs : List Value} {j : Int32} (hc : gX g own cc nL ret d) (hcs : cs[i]? = some (.inl (gdA g 3, n, .inr (.inr (.inr (.inr f)))))) (hxe : x = a + i) (hcs2 : cs[i2]? = some (.inr (7, vs))) (hye : y = a + i2) (hv : vwCl[7]? = some ("PegCourt$Shelf", T, N)) (hin : vp_in j n) (hd : decode cc pc = .ok (.aastore, 1))
    (k : gW g nL Z nc ns (fun q => a ≤ q) (pc + 1) lv st (nP (gD g) a (cs.set i (.inl (gdA g 3, n, .inr (.inr (.inr (.inr (va_up f j.toNatClampNeg (some y)))))))))) : gW g nL Z nc ns (fun q => a ≤ q) pc lv (.ref y :: .int j :: .ref x :: st) (nP (gD g) a cs) := by
  obtain ⟨p, l, e, R, s, m, args, below, meth, c, D, dA, ad⟩ := g
  obtain ⟨hx, hb, hml, hr, hlk, hown, hts, hK, hD, hR, hNk⟩ := hc
  subst hD
  subst hxe
  subst hye
  intro H locs ls hP hS hl
  have hlt : j.toNatClampNeg < n := Nat.not_le.mp fun q => hin (Or.inr q)
  have h0 : ¬ j < 0 := fun q => hin (Or.inl q)
  obtain ⟨r', hr', cellV, g1, g2, g3, -⟩ := hP.1 i2 _ (nWs_at hcs2)
  have hcls := (hK.1 7 _ hv).2
  obtain ⟨kA, comp, k1, k2, k3, -⟩ := (hK.2 3 _ rfl).2
  have hcomp : comp = D.1 7 := Option.some.inj (k3.symm.trans hcls.1)
  subst hcomp
  obtain ⟨kC, hkC, -⟩ := hcls.2
  refine W.aast hx hb (hP.1 i _ (nWs_at hcs)) (fun q h => by cases h) (fun h => by cases h) k1 k2 rfl hkC ⟨h0, by show _ < (arrV _ _ _).slots.size; rw [arrV_size]; exact hlt⟩ g1 (fun q h => by rw [g3] at h; cases h) (by rw [g2]; exact hkC) (by rw [g2]; exact va_assign hcls) rfl rfl hd fun H1 e1 z oq => ?_
  have hP1 := hP.1.set (nWs_D a cs) (nWs_at hcs) (e := .inl (dA 3, n, .inr (.inr (.inr (.inr (va_up f j.toNatClampNeg (some (a + i2)))))))) (H1 := H1) (by
    show H1[a + i]? = some (vp_cell _ _)
    rw [e1]
    rw [vp_cell_q, vp_cell_q, arrV_store]
    congr 2
    funext q
    by_cases hq : q = j.toNatClampNeg
    · subst hq
      simp [updV, va_up, va_rf]
    · simp [updV, va_up, hq]) oq
  rw [nWs_set] at hP1
  exact k H1 _ ls ⟨hP1, by rw [z, hP.2, List.length_set]⟩ (hS.put z oq (Nat.le_add_right a i)) hl
theorem nt_anew {g : Gx} {a : Nat} {own : String} {cc : ByteArray} {nL : Nat} {ret : Option FieldType} {d : Nat} {Z : State → Prop} {nc ns : Nat} {pc : Nat} {lv : List (Option Value)} {st : List Value} {cs : List va_E} {idx b N : Nat} {n : Int32} (hc : gX g own cc nL ret d) (hcl : nc + 1 ≤ (gR g).cells ∧ ns + N ≤ (gR g).slots) (h1 : Cond.classLink own idx "PegCourt$Shelf" ∈ gw) (h2 : gAO g) (hn : ¬ n < 0) (hN : n.toNatClampNeg = N) (hby : N * 4 ≤ 536870912) (hd : decode cc pc = .ok (.anewarray idx, 3)) (hbe : b = a + cs.length)
    (k : gW g nL Z (nc + 1) (ns + N) (fun q => a ≤ q) (pc + 3) lv (.ref b :: st) (nP (gD g) a (cs ++ [.inl (gdA g 3, N, .inr (.inr (.inr (.inr (fun _ => none)))))]))) : gW g nL Z nc ns (fun q => a ≤ q) pc lv (.int n :: st) (nP (gD g) a cs) := by
  obtain ⟨p, l, e, R, s, m, args, below, meth, c, D, dA, ad⟩ := g
  obtain ⟨hx, hb, hml, hr, hlk, hown, hts, hK, hD, hR, hNk⟩ := hc
  subst hD
  intro H locs ls hP hS hl
  subst hN
  refine W.anew hx hb hown (hts _ h1) (va_AO.use h2) rfl hd rfl hn hby hcl.1 hcl.2 fun cA kA comp f1 f2 f3 f4 => ?_
  obtain ⟨kB, comB, -, -, -, k4⟩ := (hK.2 3 _ rfl).2
  have hcA : cA = dA 3 := Option.some.inj (f1.symm.trans k4)
  subst hcA
  generalize hH1 : H.push ({ cls := dA 3, slots := Array.replicate n.toNatClampNeg .null, vm := .none } : Cell) = H1
  have z1 : H1.size = H.size + 1 := by rw [← hH1, Array.size_push]
  have e1 : H1[H.size]? = some (arrV (dA 3) n.toNatClampNeg (fun _ => .null)) := by rw [← hH1, Array.getElem?_push_size, ← arrV_new]
  have o1 : ∀ q : Nat, q < H.size → H1[q]? = H[q]? := fun q hq => by rw [← hH1, Array.getElem?_push, if_neg (Nat.ne_of_lt hq)]
  have hh := k H1 locs ls (hP.push (e := .inl (dA 3, n.toNatClampNeg, .inr (.inr (.inr (.inr (fun _ => none)))))) (by show H1[H.size]? = some (vp_cell _ _); rw [vp_cell_q]; exact e1) z1 o1) (hS.push z1 o1) hl
  rw [hbe, ← hP.2] at hh
  exact hh
/-! contracts of constructors -/
def nPre (D : va_G) (dA : Nat → ClassId) (a ci : Nat) (fs0 As : List Value) : Array Value → State → Prop := fun v U => v = (Value.ref a :: As).toArray ∧ nP D a [.inr (ci, fs0)] U.heap ∧ va_K D vwCl (tyl dA) U ∧ nK U
def nQt (D : va_G) (a : Nat) (cs : List va_E) : Array Value → State → Outcome → State → Prop := fun _ st o t => o = .returned none ∧ nP D a cs t.heap ∧ va_F (fun q => a ≤ q) st t
def nMq (md : Md) (ci : Nat) (fs0 : List Value) (d mc ms : Nat) (As : List Value) (Q : va_G → (Nat → ClassId) → Nat → Array Value → State → Outcome → State → Prop) : Prop :=
  ∀ (l : Launch) (D : va_G) (dA : Nat → ClassId) (a : Nat), Met l md.1 (.code md.1 md.2.1 md.2.2.1 md.2.2.2 :: gw) (rmE d mc ms) (nPre D dA a ci fs0 As) (Q D dA a) mc ms (fun q => a ≤ q)
def nMt (md : Md) (ci : Nat) (fs0 : List Value) (d mc ms : Nat) (As : List Value) (cs : (Nat → ClassId) → Nat → List va_E) : Prop := nMq md ci fs0 d mc ms As (fun D dA a => nQt D a (cs dA a))
theorem nPre_blind {D : va_G} {dA : Nat → ClassId} {a ci : Nat} {fs0 As : List Value} : FrameBlind (nPre D dA a ci fs0 As) := fun v U g mk q => by
  obtain ⟨q1, q2, q3, q5⟩ := q
  exact ⟨q1, q2, va_K.moved (u := U) (U := U.calling g mk v) (Vm.Alike.refl U.vm) q3, nK.same (s := U) (U := U.calling g mk v) rfl q5⟩
def gZ (g : Gx) (Q : Array Value → State → Outcome → State → Prop) (mc ms : Nat) (A : Nat → Prop) : State → Prop := match g with
  | (_, _, _, _, s, _, args, below, _, _, _, _, _) => MQ below Q args s mc ms A
theorem nMq.ofG {md : Md} {ci : Nat} {fs0 : List Value} {d mc ms : Nat} {As : List Value} {Q : va_G → (Nat → ClassId) → Nat → Array Value → State → Outcome → State → Prop} (lv0 : Nat → List (Option Value)) (hy : plainName md.1.cls = true) (hnm : md.1.name = "<init>") (hlen : ∀ a : Nat, (lg_sl (.ref a :: As)).length ≤ md.2.2.1) (hlv : ∀ a : Nat, lvl (fun k => k) 0 (lv0 a) = lv_args 0 (.ref a :: As))
    (body : ∀ (g : Gx) (a : Nat), gX g md.1.cls md.2.1 md.2.2.1 md.2.2.2 d → gI g → ((gR g).cells = mc ∧ (gR g).slots = ms) → gW g md.2.2.1 (gZ g (Q (gD g) (gdA g) a) mc ms (fun q => a ≤ q)) 0 0 (fun q => a ≤ q) 0 (lv0 a) [] (nP (gD g) a [.inr (ci, fs0)])) : nMq md ci fs0 d mc ms As Q := by
  intro l D dA a
  refine Met.ofW (cc := md.2.1) (maxL := md.2.2.1) (ret := md.2.2.2) hy rfl ?_
  intro p e s m args below meth c s₁ B hml hv
  obtain ⟨rfl, hP, hK, hN⟩ := hv
  have hx := B.exec
  have hb := B.bytes
  have hr := B.returns
  have hts := atoms_spec (ws := Cond.code md.1 md.2.1 md.2.2.1 md.2.2.2 :: gw) B.pre
  have hown : s.vm.findClass md.1.cls = some m.cls := findClass_of_methodNamed B.named
  have hlocks := B.notSynchronized
  have hI : meth.name = "<init>" := (name_of_methodNamed B.named B.method).1.trans hnm
  have hS : va_S (fun q => a ≤ q) s.heap s.heap [] := va_S.rf
  have hl := lv_entry (.ref a :: As) (n := md.2.2.1) (hlen a)
  rw [lg_entry_eq]
  rw [← hlv a] at hl
  exact body (p, l, e, rmE d mc ms, s, m, (.ref a :: As).toArray, below, meth, c, D, dA, fun k => k) a ⟨hx, hb, hml, hr, hlocks, hown, fun w hw => hts w (List.mem_cons_of_mem _ hw), hK, rfl, ⟨Nat.le_refl _, Nat.le_refl _⟩, hN⟩ hI ⟨rfl, rfl⟩ s.heap [] _ hP hS hl
/-- .. of a court: it makes a row of shelves -/
def nMa (md : Md) (ci : Nat) (fs0 : List Value) (d mc ms : Nat) (As : List Value) (Q : va_G → (Nat → ClassId) → Nat → Array Value → State → Outcome → State → Prop) : Prop :=
  ∀ (l : Launch) (D : va_G) (dA : Nat → ClassId) (a : Nat), Met l md.1 (.code md.1 md.2.1 md.2.2.1 md.2.2.2 :: gw) (rmE d mc ms) (fun v U => nPre D dA a ci fs0 As v U ∧ va_AO "PegCourt$Shelf" U) (Q D dA a) mc ms (fun q => a ≤ q)
theorem nMa.ofG {md : Md} {ci : Nat} {fs0 : List Value} {d mc ms : Nat} {As : List Value} {Q : va_G → (Nat → ClassId) → Nat → Array Value → State → Outcome → State → Prop} (lv0 : Nat → List (Option Value)) (hy : plainName md.1.cls = true) (hnm : md.1.name = "<init>") (hlen : ∀ a : Nat, (lg_sl (.ref a :: As)).length ≤ md.2.2.1) (hlv : ∀ a : Nat, lvl (fun k => k) 0 (lv0 a) = lv_args 0 (.ref a :: As))
    (body : ∀ (g : Gx) (a : Nat), gX g md.1.cls md.2.1 md.2.2.1 md.2.2.2 d → gI g → gAO g → ((gR g).cells = mc ∧ (gR g).slots = ms) → gW g md.2.2.1 (gZ g (Q (gD g) (gdA g) a) mc ms (fun q => a ≤ q)) 0 0 (fun q => a ≤ q) 0 (lv0 a) [] (nP (gD g) a [.inr (ci, fs0)])) : nMa md ci fs0 d mc ms As Q := by
  intro l D dA a
  refine Met.ofW (cc := md.2.1) (maxL := md.2.2.1) (ret := md.2.2.2) hy rfl ?_
  intro p e s m args below meth c s₁ B hml hv
  obtain ⟨⟨rfl, hP, hK, hN⟩, hAO⟩ := hv
  have hx := B.exec
  have hb := B.bytes
  have hr := B.returns
  have hts := atoms_spec (ws := Cond.code md.1 md.2.1 md.2.2.1 md.2.2.2 :: gw) B.pre
  have hown : s.vm.findClass md.1.cls = some m.cls := findClass_of_methodNamed B.named
  have hlocks := B.notSynchronized
  have hI : meth.name = "<init>" := (name_of_methodNamed B.named B.method).1.trans hnm
  have hS : va_S (fun q => a ≤ q) s.heap s.heap [] := va_S.rf
  have hl := lv_entry (.ref a :: As) (n := md.2.2.1) (hlen a)
  rw [lg_entry_eq]
  rw [← hlv a] at hl
  exact body (p, l, e, rmE d mc ms, s, m, (.ref a :: As).toArray, below, meth, c, D, dA, fun k => k) a ⟨hx, hb, hml, hr, hlocks, hown, fun w hw => hts w (List.mem_cons_of_mem _ hw), hK, rfl, ⟨Nat.le_refl _, Nat.le_refl _⟩, hN⟩ hI hAO ⟨rfl, rfl⟩ s.heap [] _ hP hS hl
theorem nMt.ofG {md : Md} {ci : Nat} {fs0 : List Value} {d mc ms : Nat} {As : List Value} {cs : (Nat → ClassId) → Nat → List va_E} (lv0 : Nat → List (Option Value)) (hy : plainName md.1.cls = true) (hnm : md.1.name = "<init>") (hlen : ∀ a : Nat, (lg_sl (.ref a :: As)).length ≤ md.2.2.1) (hlv : ∀ a : Nat, lvl (fun k => k) 0 (lv0 a) = lv_args 0 (.ref a :: As))
    (body : ∀ (g : Gx) (a : Nat), gX g md.1.cls md.2.1 md.2.2.1 md.2.2.2 d → gI g → ((gR g).cells = mc ∧ (gR g).slots = ms) → gW g md.2.2.1 (gZ g (nQt (gD g) a (cs (gdA g) a)) mc ms (fun q => a ≤ q)) 0 0 (fun q => a ≤ q) 0 (lv0 a) [] (nP (gD g) a [.inr (ci, fs0)])) : nMt md ci fs0 d mc ms As cs := nMq.ofG lv0 hy hnm hlen hlv body
theorem nt_ret {g : Gx} {a : Nat} {own : String} {cc : ByteArray} {nL : Nat} {ret : Option FieldType} {d : Nat} {mc ms nc ns : Nat} {pc : Nat} {lv : List (Option Value)} {cs cs' : List va_E} (hc : gX g own cc nL ret d) (hd : decode cc pc = .ok (.return_, 1)) (hrt : ret = none) (h1 : nc = mc) (h2 : ns = ms) (hcs : cs = cs') : gW g nL (gZ g (nQt (gD g) a cs') mc ms (fun q => a ≤ q)) nc ns (fun q => a ≤ q) pc lv [] (nP (gD g) a cs) := by
  obtain ⟨p, l, e, R, s, m, args, below, meth, c, D, dA, ad⟩ := g
  obtain ⟨hx, hb, hml, hr, hlk, hown, hts, hK, hD, hR, hN⟩ := hc
  subst h1; subst h2; subst hcs
  intro H locs ls hP hS hl
  exact W.vret hx hb (hr.trans hrt) (fun t ht hW => ⟨rfl, by rw [ht]; exact hP, hS.F ht⟩) hS.2.2 hd hlk
/-- a constructor that entry idx of own's pool names -/
def MLi (own : String) (idx : Nat) (md : Md) (n : Nat) : Prop := Cond.code md.1 md.2.1 md.2.2.1 md.2.2.2 ∈ gw ∧ Cond.initialized md.1.cls ∈ gw ∧ Cond.instanceMethod md.1 ∈ gw ∧ md.2.2.1 ≤ 45 ∧ md.2.2.2 = none ∧ md.1.name = "<init>" ∧ (md.1.cls ≠ "java/lang/invoke/MethodHandle" ∧ md.1.cls ≠ "java/lang/invoke/VarHandle" ∧ (parseMethodDescriptor md.1.desc).map (fun d => d.parameters.length) = some n) ∧ (Cond.methodLink own idx md.1 ∈ gw ∨ ∃ host : String, Cond.methodLinkNest own idx md.1 host ∈ lw_tbl)
theorem nt_call {g : Gx} {a : Nat} {own : String} {cc : ByteArray} {nL : Nat} {ret : Option FieldType} {d : Nat} {Z : State → Prop} {nc ns : Nat} {pc : Nat} {lv : List (Option Value)} {cs0 : List va_E} {idx b ci d' mc ms n : Nat} {md : Md} {fs0 As rest st0 : List Value} {cs : (Nat → ClassId) → Nat → List va_E} (hc : gX g own cc nL ret d) (hM : nMt md ci fs0 d' mc ms As cs) (hL : MLi own idx md n) (hcl : nc + mc ≤ (gR g).cells ∧ ns + ms ≤ (gR g).slots) (hdd : d' + 1 ≤ d) (hn : As.length = n) (hbe : b = a + cs0.length) (hst : st0 = As.reverse ++ .ref b :: rest) (hw : (rest.map fun v => v.category).sum ≤ 8) (hd : decode cc pc = .ok (.invokespecial idx, 3))
    (kk : gW g nL Z (nc + mc) (ns + ms) (fun q => a ≤ q) (pc + 3) lv rest (nP (gD g) a (cs0 ++ cs (gdA g) b))) : gW g nL Z nc ns (fun q => a ≤ q) pc lv st0 (nP (gD g) a (cs0 ++ [.inr (ci, fs0)])) := by
  obtain ⟨y0, bc, mL, rt⟩ := md
  have h10 : rt = none := hL.2.2.2.2.1
  subst h10
  obtain ⟨p, l, e, R, s, m, args, below, meth, c, D, dA, ad⟩ := g
  obtain ⟨hx, hb, hml, hr, hlk, hown, hts, hK, hD, hR, hN⟩ := id hc
  subst hD
  subst hbe
  intro H locs ls hP hS hl
  obtain ⟨h2, h3, h4, h6, -, h11, h7, h8⟩ := hL
  have hP2 := hP.1
  rw [nWs_app] at hP2
  have hz : H.size = a + cs0.length + 1 := by rw [hP.2, List.length_append]; rfl
  have hpn : nP D (a + cs0.length) [.inr (ci, fs0)] H := ⟨hP2.by (fun k => (nWs a cs0).length + k) (fun k q hq => by rw [List.getElem?_append_right (by omega), Nat.add_sub_cancel_left]; exact hq), hz⟩
  have hp0 : va_P D vwCl (nWs a cs0) H := hP2.by (fun k => k) (fun k q hq => by rw [List.getElem?_append_left (List.getElem?_eq_some_iff.mp hq).1]; exact hq)
  have hpre : PreS s H (nPre D dA (a + cs0.length) ci fs0 As) (.ref (a + cs0.length) :: As) := ⟨nPre_blind, fun U hU hW => ⟨rfl, by rw [hU]; exact hpn, va_K.moved hW.alike hK, hN.warm hW⟩⟩
  have hst' : st0.map (cvv (fun k => k)) = As.reverse ++ .ref (a + cs0.length) :: rest := by rw [cvv_idm]; exact hst
  have hGd : GoodIn gw (Cond.code y0 bc mL none :: gw) := gw_good (fun w hw => by rcases List.mem_cons.mp hw with rfl | hw; exact h2; exact hw)
  have hRr : (rmE d' mc ms).frames + 1 ≤ R.frames ∧ 8 + (mL + 11) + (rmE d' mc ms).locals ≤ R.locals := by obtain ⟨r1, r2⟩ := hR; have h6 : mL ≤ 45 := h6; simp only [rmE]; omega
  have key : ∀ {Qa}, va_Run p l e R s m args below meth c H locs nc ns mc ms (F0 m pc ls (st0.map (cvv (fun k => k)))) rest Qa (fun q => a + cs0.length ≤ q) → (∀ st v t, Qa st (.returned v) t → nQt D (a + cs0.length) (cs dA (a + cs0.length)) #[] st (.returned v) t) → W p l e R s m args below meth c H locs nc ns Z (F0 m pc ls (st0.map (cvv (fun k => k)))) := by
    intro Qa hr hQ T hT X
    obtain ⟨v, st₀, t, T', L, h0, X', hL, e1, e2, hq, stp⟩ := hr T hT X
    obtain ⟨hv, hpt, hz2, hk2⟩ := hQ _ _ _ hq
    cases hv
    rw [h0] at hz2 hk2
    have hP3 : nP D a (cs0 ++ cs dA (a + cs0.length)) T'.heap := by
      constructor
      · rw [nWs_app, e1]
        refine (hp0.kept (fun k x hx => ?_)).app hpt.1
        have hlt : x.1 < a + cs0.length := by
          rw [nWs_get] at hx
          obtain ⟨y, hy, rfl⟩ := Option.map_eq_some_iff.mp hx
          have := (List.getElem?_eq_some_iff.mp hy).1
          simp only; omega
        exact hk2 x.1 (by omega) (by omega)
      · rw [e1, hpt.2, List.length_append]; omega
    have hS' : va_S (fun q => a ≤ q) s.heap T'.heap (locs ++ L) := ⟨Nat.le_trans hS.1 (by rw [e1]; exact hz2), fun q h1 h2 => by rw [e1, hk2 q (Nat.lt_of_lt_of_le h1 hS.1) (by omega)]; exact hS.2.1 q h1 h2, fun q hq => by
      rcases List.mem_append.mp hq with h | h
      · exact hS.2.2 q h
      · exact Nat.le_trans (Nat.le_add_right a _) (hL q h)⟩
    obtain ⟨t2, a1, b1⟩ := kk T'.heap (locs ++ L) ls hP3 hS' hl T' rfl X'
    refine ⟨t2, stp t2 ?_, b1⟩
    rw [cvv_idm] at a1
    exact a1
  rcases h8 with h8 | ⟨host, h8⟩
  · refine key (va_runI (As := As) ⟨hx, hb, hml, hown, hts⟩ (hM l D dA (a + cs0.length)) ⟨callB_of n hts hGd rfl rfl rfl (hts _ h3) (hts _ h8) h7 hRr, h11, hts _ h4⟩ hpre rfl hn hl.1 hst' (lv_room hw) hd hcl) (fun _ _ _ h => h)
  · refine key (va_runIN (As := As) ⟨hx, hb, hml, hown, hts⟩ (hM l D dA (a + cs0.length)) ⟨va_cnB n hts hGd rfl rfl rfl (hN _ h8 rfl) (hts _ h3) h7 hRr, h11, hts _ h4⟩ hpre rfl hn hl.1 hst' (lv_room hw) hd hcl) (fun _ _ _ h => h)
theorem gW_cs {g : Gx} {a : Nat} {A : Nat → Prop} {nL : Nat} {Z : State → Prop} {nc ns : Nat} {pc : Nat} {lv : List (Option Value)} {st : List Value} {cs cs' : List va_E} (h : cs = cs') (k : gW g nL Z nc ns A pc lv st (nP (gD g) a cs')) : gW g nL Z nc ns A pc lv st (nP (gD g) a cs) := h ▸ k
