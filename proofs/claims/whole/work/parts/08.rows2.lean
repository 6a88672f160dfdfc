/-! rows by a natural index -/
theorem st_inc {g : Gx} {Y : List Sh} {own : String} {cc : ByteArray} {nL : Nat} {ret : Option FieldType} {d : Nat} {Q : Option Value → St → Prop} {pc : Nat} {lv : List (Option Value)} {st : List Value} {σ : St} {i : Nat} {x : Int32} (hc : cX g Y own cc nL ret d) (hd : decode cc pc = .ok (.iinc i 1, 3)) (hv : lv[i]? = some (some (.int x))) (hn : i < nL) (hok : lvok lv i = true) (k : aW g Y nL Q (pc + 3) (lv.set i (some (.int (x + 1)))) st σ) : aW g Y nL Q pc lv st σ := st_iinc hc hd hv rfl hn hok k
theorem st_dec {g : Gx} {Y : List Sh} {own : String} {cc : ByteArray} {nL : Nat} {ret : Option FieldType} {d : Nat} {Q : Option Value → St → Prop} {pc : Nat} {lv : List (Option Value)} {st : List Value} {σ : St} {i : Nat} {x : Int32} (hc : cX g Y own cc nL ret d) (hd : decode cc pc = .ok (.iinc i (-1), 3)) (hv : lv[i]? = some (some (.int x))) (hn : i < nL) (hok : lvok lv i = true) (k : aW g Y nL Q (pc + 3) (lv.set i (some (.int (x - 1)))) st σ) : aW g Y nL Q pc lv st σ := st_iinc hc hd hv (by rw [Int32.sub_eq_add_neg]; rfl) hn hok k
theorem st_ialdN {g : Gx} {Y : List Sh} {own : String} {cc : ByteArray} {nL : Nat} {ret : Option FieldType} {d : Nat} {Q : Option Value → St → Prop} {pc : Nat} {lv : List (Option Value)} {st : List Value} {σ : St} {a n : Nat} {rs : List Nat} {i : Int32} {k : Nat} (hc : cX g Y own cc nL ret d) (hd : decode cc pc = .ok (.iaload, 1)) (hy : Y[a]? = some (.inl (0, n, rs))) (hi : i = nI k) (hk : k < n) (hn : n < 2 ^ 31) {v : Int32} (he : σ a k = v) (kk : aW g Y nL Q (pc + 1) lv (.int v :: st) σ) : aW g Y nL Q pc lv (.int i :: .ref a :: st) σ := by
  subst hi
  refine st_iald hc hd hy (vp_in_nI hk hn) ?_
  rw [nI_clamp (Nat.lt_trans hk hn), he]
  exact kk
theorem st_zaldN {g : Gx} {Y : List Sh} {own : String} {cc : ByteArray} {nL : Nat} {ret : Option FieldType} {d : Nat} {Q : Option Value → St → Prop} {pc : Nat} {lv : List (Option Value)} {st : List Value} {σ : St} {a n : Nat} {rs : List Nat} {i : Int32} {k : Nat} (hc : cX g Y own cc nL ret d) (hd : decode cc pc = .ok (.baload, 1)) (hy : Y[a]? = some (.inl (1, n, rs))) (hi : i = nI k) (hk : k < n) (hn : n < 2 ^ 31) {v : Int32} (he : σ a k = v) (kk : aW g Y nL Q (pc + 1) lv (.int v :: st) σ) : aW g Y nL Q pc lv (.int i :: .ref a :: st) σ := by
  subst hi
  refine st_zald hc hd hy (vp_in_nI hk hn) ?_
  rw [nI_clamp (Nat.lt_trans hk hn), he]
  exact kk
theorem st_laldN {g : Gx} {Y : List Sh} {own : String} {cc : ByteArray} {nL : Nat} {ret : Option FieldType} {d : Nat} {Q : Option Value → St → Prop} {pc : Nat} {lv : List (Option Value)} {st : List Value} {σ : St} {a n : Nat} {rs : List Nat} {i : Int32} {k : Nat} (hc : cX g Y own cc nL ret d) (hd : decode cc pc = .ok (.laload, 1)) (hy : Y[a]? = some (.inl (2, n, rs))) (hi : i = nI k) (hk : k < n) (hn : n < 2 ^ 31) (kk : aW g Y nL Q (pc + 1) lv (.long (jn (σ a (2 * k)) (σ a (2 * k + 1))) :: st) σ) : aW g Y nL Q pc lv (.int i :: .ref a :: st) σ := by
  subst hi
  refine st_lald hc hd hy (vp_in_nI hk hn) ?_
  rw [nI_clamp (Nat.lt_trans hk hn)]
  exact kk
theorem st_aaldN {g : Gx} {Y : List Sh} {own : String} {cc : ByteArray} {nL : Nat} {ret : Option FieldType} {d : Nat} {Q : Option Value → St → Prop} {pc : Nat} {lv : List (Option Value)} {st : List Value} {σ : St} {a n : Nat} {rs : List Nat} {i : Int32} {k q : Nat} (hc : cX g Y own cc nL ret d) (hd : decode cc pc = .ok (.aaload, 1)) (hy : Y[a]? = some (.inl (3, n, rs))) (hi : i = nI k) (hk : k < n) (hn : n < 2 ^ 31) (hq : rs[k]? = some q) (kk : aW g Y nL Q (pc + 1) lv (.ref q :: st) σ) : aW g Y nL Q pc lv (.int i :: .ref a :: st) σ := by
  subst hi
  refine st_aald hc hd hy (vp_in_nI hk hn) ?_ kk
  rw [nI_clamp (Nat.lt_trans hk hn)]
  exact hq
theorem st_iastN {g : Gx} {Y : List Sh} {own : String} {cc : ByteArray} {nL : Nat} {ret : Option FieldType} {d : Nat} {Q : Option Value → St → Prop} {pc : Nat} {lv : List (Option Value)} {st : List Value} {σ : St} {a n : Nat} {rs : List Nat} {i : Int32} {k : Nat} {x : Int32} (hc : cX g Y own cc nL ret d) (hd : decode cc pc = .ok (.iastore, 1)) (hy : Y[a]? = some (.inl (0, n, rs))) (hi : i = nI k) (hk : k < n) (hn : n < 2 ^ 31)  (kk : aW g Y nL Q (pc + 1) lv st (up σ a k x)) : aW g Y nL Q pc lv (.int x :: .int i :: .ref a :: st) σ := by
  subst hi
  refine st_iast hc hd hy (vp_in_nI hk hn)  ?_
  rw [nI_clamp (Nat.lt_trans hk hn)]
  exact kk
theorem st_zastN {g : Gx} {Y : List Sh} {own : String} {cc : ByteArray} {nL : Nat} {ret : Option FieldType} {d : Nat} {Q : Option Value → St → Prop} {pc : Nat} {lv : List (Option Value)} {st : List Value} {σ : St} {a n : Nat} {rs : List Nat} {i : Int32} {k : Nat} {x : Int32} (hc : cX g Y own cc nL ret d) (hd : decode cc pc = .ok (.bastore, 1)) (hy : Y[a]? = some (.inl (1, n, rs))) (hi : i = nI k) (hk : k < n) (hn : n < 2 ^ 31) (hz : x = 0 ∨ x = 1) (kk : aW g Y nL Q (pc + 1) lv st (up σ a k x)) : aW g Y nL Q pc lv (.int x :: .int i :: .ref a :: st) σ := by
  subst hi
  refine st_zast hc hd hy (vp_in_nI hk hn) hz ?_
  rw [nI_clamp (Nat.lt_trans hk hn)]
  exact kk
theorem st_lastN {g : Gx} {Y : List Sh} {own : String} {cc : ByteArray} {nL : Nat} {ret : Option FieldType} {d : Nat} {Q : Option Value → St → Prop} {pc : Nat} {lv : List (Option Value)} {st : List Value} {σ : St} {a n : Nat} {rs : List Nat} {i : Int32} {k : Nat} {x : Int64} (hc : cX g Y own cc nL ret d) (hd : decode cc pc = .ok (.lastore, 1)) (hy : Y[a]? = some (.inl (2, n, rs))) (hi : i = nI k) (hk : k < n) (hn : n < 2 ^ 31)  (kk : aW g Y nL Q (pc + 1) lv st (upL σ a k x)) : aW g Y nL Q pc lv (.long x :: .int i :: .ref a :: st) σ := by
  subst hi
  refine st_last hc hd hy (vp_in_nI hk hn)  ?_
  rw [nI_clamp (Nat.lt_trans hk hn)]
  exact kk
theorem st_getE {g : Gx} {Y : List Sh} {own : String} {cc : ByteArray} {nL : Nat} {ret : Option FieldType} {d : Nat} {Q : Option Value → St → Prop} {pc : Nat} {lv : List (Option Value)} {st : List Value} {σ : St} {idx a ci j : Nat} {fs : List (Option Nat)} {v : Int32} (hc : cX g Y own cc nL ret d) (hd : decode cc pc = .ok (.getfield idx, 3)) (hf : FL own idx ci j) (hy : Y[a]? = some (.inr (ci, fs))) (hk : fs[j]? = some none) (he : σ a j = v) (k : aW g Y nL Q (pc + 3) lv (.int v :: st) σ) : aW g Y nL Q pc lv (.ref a :: st) σ := st_get hc hd hf hy hk (he ▸ k)
theorem st_t_if_eq {g : Gx} {Y : List Sh} {own : String} {cc : ByteArray} {nL : Nat} {ret : Option FieldType} {d : Nat} {Q : Option Value → St → Prop} {pc : Nat} {lv : List (Option Value)} {st : List Value} {σ : St} {x : Int32} {n1 n2 : Int} {a b : Int32} (hc : cX g Y own cc nL ret d) (hd : decode cc pc = .ok (.ifCond .eq 7, 3)) (hd1 : decode cc (pc + 3) = .ok (.iconst n1, 1)) (hd2 : decode cc (pc + 3 + 1) = .ok (.goto 4, 3)) (hd3 : decode cc (pc + 7) = .ok (.iconst n2, 1)) (h1 : Int32.ofInt n1 = a) (h2 : Int32.ofInt n2 = b) (k : aW g Y nL Q (pc + 8) lv (.int (if x = 0 then b else a) :: st) σ) : aW g Y nL Q pc lv (.int x :: st) σ := by
  refine st_if_eq (tgt := pc + 7) hc hd (by omega) (fun h => ?_) (fun h => ?_)
  · refine st_iconst hc hd3 h2 ?_
    rw [if_pos h] at k
    exact k
  · refine st_iconst hc hd1 h1 ?_
    refine st_goto (tgt := pc + 8) hc hd2 (by omega) ?_
    rw [if_neg h] at k
    exact k
theorem st_t_icmp_eq {g : Gx} {Y : List Sh} {own : String} {cc : ByteArray} {nL : Nat} {ret : Option FieldType} {d : Nat} {Q : Option Value → St → Prop} {pc : Nat} {lv : List (Option Value)} {st : List Value} {σ : St} {x y : Int32} {n1 n2 : Int} {a b : Int32} (hc : cX g Y own cc nL ret d) (hd : decode cc pc = .ok (.if_icmp .eq 7, 3)) (hd1 : decode cc (pc + 3) = .ok (.iconst n1, 1)) (hd2 : decode cc (pc + 3 + 1) = .ok (.goto 4, 3)) (hd3 : decode cc (pc + 7) = .ok (.iconst n2, 1)) (h1 : Int32.ofInt n1 = a) (h2 : Int32.ofInt n2 = b) (k : aW g Y nL Q (pc + 8) lv (.int (if x = y then b else a) :: st) σ) : aW g Y nL Q pc lv (.int y :: .int x :: st) σ := by
  refine st_icmp_eq (tgt := pc + 7) hc hd (by omega) (fun h => ?_) (fun h => ?_)
  · refine st_iconst hc hd3 h2 ?_
    rw [if_pos h] at k
    exact k
  · refine st_iconst hc hd1 h1 ?_
    refine st_goto (tgt := pc + 8) hc hd2 (by omega) ?_
    rw [if_neg h] at k
    exact k
theorem st_t_if_ne {g : Gx} {Y : List Sh} {own : String} {cc : ByteArray} {nL : Nat} {ret : Option FieldType} {d : Nat} {Q : Option Value → St → Prop} {pc : Nat} {lv : List (Option Value)} {st : List Value} {σ : St} {x : Int32} {n1 n2 : Int} {a b : Int32} (hc : cX g Y own cc nL ret d) (hd : decode cc pc = .ok (.ifCond .ne 7, 3)) (hd1 : decode cc (pc + 3) = .ok (.iconst n1, 1)) (hd2 : decode cc (pc + 3 + 1) = .ok (.goto 4, 3)) (hd3 : decode cc (pc + 7) = .ok (.iconst n2, 1)) (h1 : Int32.ofInt n1 = a) (h2 : Int32.ofInt n2 = b) (k : aW g Y nL Q (pc + 8) lv (.int (if x = 0 then a else b) :: st) σ) : aW g Y nL Q pc lv (.int x :: st) σ := by
  refine st_if_ne (tgt := pc + 7) hc hd (by omega) (fun h => ?_) (fun h => ?_)
  · refine st_iconst hc hd3 h2 ?_
    rw [if_neg h] at k
    exact k
  · refine st_iconst hc hd1 h1 ?_
    refine st_goto (tgt := pc + 8) hc hd2 (by omega) ?_
    rw [if_pos h] at k
    exact k
theorem st_t_icmp_ne {g : Gx} {Y : List Sh} {own : String} {cc : ByteArray} {nL : Nat} {ret : Option FieldType} {d : Nat} {Q : Option Value → St → Prop} {pc : Nat} {lv : List (Option Value)} {st : List Value} {σ : St} {x y : Int32} {n1 n2 : Int} {a b : Int32} (hc : cX g Y own cc nL ret d) (hd : decode cc pc = .ok (.if_icmp .ne 7, 3)) (hd1 : decode cc (pc + 3) = .ok (.iconst n1, 1)) (hd2 : decode cc (pc + 3 + 1) = .ok (.goto 4, 3)) (hd3 : decode cc (pc + 7) = .ok (.iconst n2, 1)) (h1 : Int32.ofInt n1 = a) (h2 : Int32.ofInt n2 = b) (k : aW g Y nL Q (pc + 8) lv (.int (if x = y then a else b) :: st) σ) : aW g Y nL Q pc lv (.int y :: .int x :: st) σ := by
  refine st_icmp_ne (tgt := pc + 7) hc hd (by omega) (fun h => ?_) (fun h => ?_)
  · refine st_iconst hc hd3 h2 ?_
    rw [if_neg h] at k
    exact k
  · refine st_iconst hc hd1 h1 ?_
    refine st_goto (tgt := pc + 8) hc hd2 (by omega) ?_
    rw [if_pos h] at k
    exact k
theorem st_t_if_lt {g : Gx} {Y : List Sh} {own : String} {cc : ByteArray} {nL : Nat} {ret : Option FieldType} {d : Nat} {Q : Option Value → St → Prop} {pc : Nat} {lv : List (Option Value)} {st : List Value} {σ : St} {x : Int32} {n1 n2 : Int} {a b : Int32} (hc : cX g Y own cc nL ret d) (hd : decode cc pc = .ok (.ifCond .lt 7, 3)) (hd1 : decode cc (pc + 3) = .ok (.iconst n1, 1)) (hd2 : decode cc (pc + 3 + 1) = .ok (.goto 4, 3)) (hd3 : decode cc (pc + 7) = .ok (.iconst n2, 1)) (h1 : Int32.ofInt n1 = a) (h2 : Int32.ofInt n2 = b) (k : aW g Y nL Q (pc + 8) lv (.int (if x < 0 then b else a) :: st) σ) : aW g Y nL Q pc lv (.int x :: st) σ := by
  refine st_if_lt (tgt := pc + 7) hc hd (by omega) (fun h => ?_) (fun h => ?_)
  · refine st_iconst hc hd3 h2 ?_
    rw [if_pos h] at k
    exact k
  · refine st_iconst hc hd1 h1 ?_
    refine st_goto (tgt := pc + 8) hc hd2 (by omega) ?_
    rw [if_neg h] at k
    exact k
theorem st_t_icmp_lt {g : Gx} {Y : List Sh} {own : String} {cc : ByteArray} {nL : Nat} {ret : Option FieldType} {d : Nat} {Q : Option Value → St → Prop} {pc : Nat} {lv : List (Option Value)} {st : List Value} {σ : St} {x y : Int32} {n1 n2 : Int} {a b : Int32} (hc : cX g Y own cc nL ret d) (hd : decode cc pc = .ok (.if_icmp .lt 7, 3)) (hd1 : decode cc (pc + 3) = .ok (.iconst n1, 1)) (hd2 : decode cc (pc + 3 + 1) = .ok (.goto 4, 3)) (hd3 : decode cc (pc + 7) = .ok (.iconst n2, 1)) (h1 : Int32.ofInt n1 = a) (h2 : Int32.ofInt n2 = b) (k : aW g Y nL Q (pc + 8) lv (.int (if x < y then b else a) :: st) σ) : aW g Y nL Q pc lv (.int y :: .int x :: st) σ := by
  refine st_icmp_lt (tgt := pc + 7) hc hd (by omega) (fun h => ?_) (fun h => ?_)
  · refine st_iconst hc hd3 h2 ?_
    rw [if_pos h] at k
    exact k
  · refine st_iconst hc hd1 h1 ?_
    refine st_goto (tgt := pc + 8) hc hd2 (by omega) ?_
    rw [if_neg h] at k
    exact k
theorem st_t_if_ge {g : Gx} {Y : List Sh} {own : String} {cc : ByteArray} {nL : Nat} {ret : Option FieldType} {d : Nat} {Q : Option Value → St → Prop} {pc : Nat} {lv : List (Option Value)} {st : List Value} {σ : St} {x : Int32} {n1 n2 : Int} {a b : Int32} (hc : cX g Y own cc nL ret d) (hd : decode cc pc = .ok (.ifCond .ge 7, 3)) (hd1 : decode cc (pc + 3) = .ok (.iconst n1, 1)) (hd2 : decode cc (pc + 3 + 1) = .ok (.goto 4, 3)) (hd3 : decode cc (pc + 7) = .ok (.iconst n2, 1)) (h1 : Int32.ofInt n1 = a) (h2 : Int32.ofInt n2 = b) (k : aW g Y nL Q (pc + 8) lv (.int (if 0 ≤ x then b else a) :: st) σ) : aW g Y nL Q pc lv (.int x :: st) σ := by
  refine st_if_ge (tgt := pc + 7) hc hd (by omega) (fun h => ?_) (fun h => ?_)
  · refine st_iconst hc hd3 h2 ?_
    rw [if_pos h] at k
    exact k
  · refine st_iconst hc hd1 h1 ?_
    refine st_goto (tgt := pc + 8) hc hd2 (by omega) ?_
    rw [if_neg h] at k
    exact k
theorem st_t_icmp_ge {g : Gx} {Y : List Sh} {own : String} {cc : ByteArray} {nL : Nat} {ret : Option FieldType} {d : Nat} {Q : Option Value → St → Prop} {pc : Nat} {lv : List (Option Value)} {st : List Value} {σ : St} {x y : Int32} {n1 n2 : Int} {a b : Int32} (hc : cX g Y own cc nL ret d) (hd : decode cc pc = .ok (.if_icmp .ge 7, 3)) (hd1 : decode cc (pc + 3) = .ok (.iconst n1, 1)) (hd2 : decode cc (pc + 3 + 1) = .ok (.goto 4, 3)) (hd3 : decode cc (pc + 7) = .ok (.iconst n2, 1)) (h1 : Int32.ofInt n1 = a) (h2 : Int32.ofInt n2 = b) (k : aW g Y nL Q (pc + 8) lv (.int (if y ≤ x then b else a) :: st) σ) : aW g Y nL Q pc lv (.int y :: .int x :: st) σ := by
  refine st_icmp_ge (tgt := pc + 7) hc hd (by omega) (fun h => ?_) (fun h => ?_)
  · refine st_iconst hc hd3 h2 ?_
    rw [if_pos h] at k
    exact k
  · refine st_iconst hc hd1 h1 ?_
    refine st_goto (tgt := pc + 8) hc hd2 (by omega) ?_
    rw [if_neg h] at k
    exact k
theorem st_t_if_gt {g : Gx} {Y : List Sh} {own : String} {cc : ByteArray} {nL : Nat} {ret : Option FieldType} {d : Nat} {Q : Option Value → St → Prop} {pc : Nat} {lv : List (Option Value)} {st : List Value} {σ : St} {x : Int32} {n1 n2 : Int} {a b : Int32} (hc : cX g Y own cc nL ret d) (hd : decode cc pc = .ok (.ifCond .gt 7, 3)) (hd1 : decode cc (pc + 3) = .ok (.iconst n1, 1)) (hd2 : decode cc (pc + 3 + 1) = .ok (.goto 4, 3)) (hd3 : decode cc (pc + 7) = .ok (.iconst n2, 1)) (h1 : Int32.ofInt n1 = a) (h2 : Int32.ofInt n2 = b) (k : aW g Y nL Q (pc + 8) lv (.int (if 0 < x then b else a) :: st) σ) : aW g Y nL Q pc lv (.int x :: st) σ := by
  refine st_if_gt (tgt := pc + 7) hc hd (by omega) (fun h => ?_) (fun h => ?_)
  · refine st_iconst hc hd3 h2 ?_
    rw [if_pos h] at k
    exact k
  · refine st_iconst hc hd1 h1 ?_
    refine st_goto (tgt := pc + 8) hc hd2 (by omega) ?_
    rw [if_neg h] at k
    exact k
theorem st_t_icmp_gt {g : Gx} {Y : List Sh} {own : String} {cc : ByteArray} {nL : Nat} {ret : Option FieldType} {d : Nat} {Q : Option Value → St → Prop} {pc : Nat} {lv : List (Option Value)} {st : List Value} {σ : St} {x y : Int32} {n1 n2 : Int} {a b : Int32} (hc : cX g Y own cc nL ret d) (hd : decode cc pc = .ok (.if_icmp .gt 7, 3)) (hd1 : decode cc (pc + 3) = .ok (.iconst n1, 1)) (hd2 : decode cc (pc + 3 + 1) = .ok (.goto 4, 3)) (hd3 : decode cc (pc + 7) = .ok (.iconst n2, 1)) (h1 : Int32.ofInt n1 = a) (h2 : Int32.ofInt n2 = b) (k : aW g Y nL Q (pc + 8) lv (.int (if y < x then b else a) :: st) σ) : aW g Y nL Q pc lv (.int y :: .int x :: st) σ := by
  refine st_icmp_gt (tgt := pc + 7) hc hd (by omega) (fun h => ?_) (fun h => ?_)
  · refine st_iconst hc hd3 h2 ?_
    rw [if_pos h] at k
    exact k
  · refine st_iconst hc hd1 h1 ?_
    refine st_goto (tgt := pc + 8) hc hd2 (by omega) ?_
    rw [if_neg h] at k
    exact k
theorem st_t_if_le {g : Gx} {Y : List Sh} {own : String} {cc : ByteArray} {nL : Nat} {ret : Option FieldType} {d : Nat} {Q : Option Value → St → Prop} {pc : Nat} {lv : List (Option Value)} {st : List Value} {σ : St} {x : Int32} {n1 n2 : Int} {a b : Int32} (hc : cX g Y own cc nL ret d) (hd : decode cc pc = .ok (.ifCond .le 7, 3)) (hd1 : decode cc (pc + 3) = .ok (.iconst n1, 1)) (hd2 : decode cc (pc + 3 + 1) = .ok (.goto 4, 3)) (hd3 : decode cc (pc + 7) = .ok (.iconst n2, 1)) (h1 : Int32.ofInt n1 = a) (h2 : Int32.ofInt n2 = b) (k : aW g Y nL Q (pc + 8) lv (.int (if x ≤ 0 then b else a) :: st) σ) : aW g Y nL Q pc lv (.int x :: st) σ := by
  refine st_if_le (tgt := pc + 7) hc hd (by omega) (fun h => ?_) (fun h => ?_)
  · refine st_iconst hc hd3 h2 ?_
    rw [if_pos h] at k
    exact k
  · refine st_iconst hc hd1 h1 ?_
    refine st_goto (tgt := pc + 8) hc hd2 (by omega) ?_
    rw [if_neg h] at k
    exact k
theorem st_t_icmp_le {g : Gx} {Y : List Sh} {own : String} {cc : ByteArray} {nL : Nat} {ret : Option FieldType} {d : Nat} {Q : Option Value → St → Prop} {pc : Nat} {lv : List (Option Value)} {st : List Value} {σ : St} {x y : Int32} {n1 n2 : Int} {a b : Int32} (hc : cX g Y own cc nL ret d) (hd : decode cc pc = .ok (.if_icmp .le 7, 3)) (hd1 : decode cc (pc + 3) = .ok (.iconst n1, 1)) (hd2 : decode cc (pc + 3 + 1) = .ok (.goto 4, 3)) (hd3 : decode cc (pc + 7) = .ok (.iconst n2, 1)) (h1 : Int32.ofInt n1 = a) (h2 : Int32.ofInt n2 = b) (k : aW g Y nL Q (pc + 8) lv (.int (if x ≤ y then b else a) :: st) σ) : aW g Y nL Q pc lv (.int y :: .int x :: st) σ := by
  refine st_icmp_le (tgt := pc + 7) hc hd (by omega) (fun h => ?_) (fun h => ?_)
  · refine st_iconst hc hd3 h2 ?_
    rw [if_pos h] at k
    exact k
  · refine st_iconst hc hd1 h1 ?_
    refine st_goto (tgt := pc + 8) hc hd2 (by omega) ?_
    rw [if_neg h] at k
    exact k
theorem st_callVp {g : Gx} {Y : List Sh} {own : String} {cc : ByteArray} {nL : Nat} {ret : Option FieldType} {d : Nat} {Q : Option Value → St → Prop} {pc : Nat} {lv : List (Option Value)} {σ : St} {idx ci d' n b : Nat} {md : Md} {As rest st0 : List Value} {fs : List (Option Nat)} {v : Value} (hc : cX g Y own cc nL ret d) (hdg : decode cc pc = .ok (.invokevirtual idx, 3)) (hM : Mt Y md d' (.ref b :: As) σ (fun r τ => r = some v ∧ τ = σ)) (hL : MLv own idx ci md n) (hdd : d' + 1 ≤ d) (hn : As.length = n) (hy : Y[b]? = some (.inr (ci, fs))) (hst : st0 = As.reverse ++ .ref b :: rest) (hw : (rest.map fun v => v.category).sum ≤ 8)
    (kk : aW g Y nL Q (pc + 3) lv (v :: rest) σ) : aW g Y nL Q pc lv st0 σ := st_callV hc hdg hM hL hdd hn hy hst hw (fun r τ h => by rw [h.1, h.2]; exact kk)
theorem st_callSp {g : Gx} {Y : List Sh} {own : String} {cc : ByteArray} {nL : Nat} {ret : Option FieldType} {d : Nat} {Q : Option Value → St → Prop} {pc : Nat} {lv : List (Option Value)} {σ : St} {idx d' n : Nat} {md : Md} {As rest st0 : List Value} {v : Value} (hc : cX g Y own cc nL ret d) (hdg : decode cc pc = .ok (.invokestatic idx, 3)) (hM : Mt Y md d' As σ (fun r τ => r = some v ∧ τ = σ)) (hL : MLs own idx md n) (hdd : d' + 1 ≤ d) (hn : As.length = n) (hst : st0 = As.reverse ++ rest) (hw : (rest.map fun v => v.category).sum ≤ 8)
    (kk : aW g Y nL Q (pc + 3) lv (v :: rest) σ) : aW g Y nL Q pc lv st0 σ := st_callS hc hdg hM hL hdd hn hst hw (fun r τ h => by rw [h.1, h.2]; exact kk)
