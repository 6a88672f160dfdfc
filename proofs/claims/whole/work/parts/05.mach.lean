/-! ===== A light judgement: a store of ints over a fixed layout of cells ===== -/
abbrev St : Type := Nat → Nat → Int32
abbrev Sh : Type := (Nat × Nat × List Nat) ⊕ (Nat × List (Option Nat))
abbrev Md : Type := MethodName × ByteArray × Nat × Option FieldType
def jn (h l : Int32) : Int64 := Int64.ofBitVec (h.toBitVec ++ l.toBitVec)
def jhi (x : Int64) : Int32 := Int32.ofBitVec (x.toBitVec.extractLsb' 32 32)
def jlo (x : Int64) : Int32 := Int32.ofBitVec (x.toBitVec.extractLsb' 0 32)
theorem jn_eq (x : Int64) : jn (jhi x) (jlo x) = x := by
  apply Int64.toBitVec_inj.mp
  show (x.toBitVec.extractLsb' 32 32 ++ x.toBitVec.extractLsb' 0 32) = x.toBitVec
  generalize x.toBitVec = b
  apply BitVec.eq_of_getLsbD_eq
  intro i hi
  rw [BitVec.getLsbD_append, BitVec.getLsbD_extractLsb', BitVec.getLsbD_extractLsb']
  by_cases h : i < 32
  · simp [h]
  · simp only [h, decide_false, cond_false]
    rw [show decide (i - 32 < 32) = true from decide_eq_true (by omega), show 32 + (i - 32) = i by omega]
    rfl
def up (σ : St) (k i : Nat) (x : Int32) : St := va_up σ k (upd (σ k) i x)
def upL (σ : St) (k i : Nat) (x : Int64) : St := va_up σ k (upd (upd (σ k) (2 * i) (jhi x)) (2 * i + 1) (jlo x))
def cvv (ad : Nat → Nat) (v : Value) : Value := match v with
  | .ref k => .ref (ad k)
  | v => v
theorem cvv_cat (ad : Nat → Nat) (v : Value) : (cvv ad v).category = v.category := by cases v <;> rfl
def wF (ad : Nat → Nat) (r : Nat → Int32) : Nat → List (Option Nat) → List Value
  | _, [] => []
  | j, f :: fs => (match f with | none => Value.int (r j) | some q => Value.ref (ad q)) :: wF ad r (j + 1) fs
def wE (dA : Nat → ClassId) (ad : Nat → Nat) (σ : St) (k : Nat) (h : Sh) : va_E := match h with
  | .inl (t, n, rs) => .inl (dA t, n, match t with
      | 2 => .inr (.inl (fun i => jn (σ k (2 * i)) (σ k (2 * i + 1))))
      | 3 => .inr (.inr (.inr (.inr (fun i => (rs[i]?).map ad))))
      | _ => .inl (σ k))
  | .inr (ci, fs) => .inr (ci, wF ad (σ k) 0 fs)
def wW (dA : Nat → ClassId) (ad : Nat → Nat) (σ : St) : Nat → List Sh → va_W
  | _, [] => []
  | k, h :: Y => (ad k, wE dA ad σ k h) :: wW dA ad σ (k + 1) Y
theorem wF_get (ad : Nat → Nat) (r : Nat → Int32) : ∀ (fs : List (Option Nat)) (j k : Nat), (wF ad r j fs)[k]? = (fs[k]?).map (fun f => match f with | none => Value.int (r (j + k)) | some q => Value.ref (ad q)) := by
  intro fs
  induction fs with
  | nil => intro j k; simp [wF]
  | cons f fs ih =>
    intro j k
    cases k with
    | zero => simp [wF]
    | succ k => simp only [wF, List.getElem?_cons_succ]; rw [ih (j + 1) k]; congr 1; funext f; cases f <;> simp [Nat.add_assoc, Nat.add_comm 1]
theorem wF_len (ad : Nat → Nat) (r : Nat → Int32) : ∀ (fs : List (Option Nat)) (j : Nat), (wF ad r j fs).length = fs.length := by
  intro fs
  induction fs with
  | nil => intro j; rfl
  | cons f fs ih => intro j; simp [wF, ih]
theorem wF_set (ad : Nat → Nat) (r : Nat → Int32) (x : Int32) : ∀ (fs : List (Option Nat)) (j k : Nat), fs[k]? = some none → (wF ad r j fs).set k (.int x) = wF ad (upd r (j + k) x) j fs := by
  intro fs j k h
  apply List.ext_getElem?
  intro n
  rw [wF_get, List.getElem?_set, wF_len, wF_get]
  have hk : k < fs.length := (List.getElem?_eq_some_iff.mp h).1
  by_cases e : k = n
  · subst e
    rw [if_pos rfl, if_pos hk, h]
    simp [upd]
  · rw [if_neg e]
    congr 1
    funext f
    cases f with
    | none => simp only; congr 1; unfold upd; rw [if_neg (by omega)]
    | some q => rfl
theorem wW_get (dA : Nat → ClassId) (ad : Nat → Nat) (σ : St) : ∀ (Y : List Sh) (j k : Nat), (wW dA ad σ j Y)[k]? = (Y[k]?).map (fun h => (ad (j + k), wE dA ad σ (j + k) h)) := by
  intro Y
  induction Y with
  | nil => intro j k; simp [wW]
  | cons f fs ih =>
    intro j k
    cases k with
    | zero => simp [wW]
    | succ k => simp only [wW, List.getElem?_cons_succ]; rw [ih (j + 1) k]; congr 1; funext f; simp [Nat.add_assoc, Nat.add_comm 1]
theorem wW_at {dA : Nat → ClassId} {ad : Nat → Nat} {σ : St} {Y : List Sh} {k : Nat} {h : Sh} (hk : Y[k]? = some h) : (wW dA ad σ 0 Y)[k]? = some (ad k, wE dA ad σ k h) := by
  rw [wW_get, hk]; simp
theorem wW_len (dA : Nat → ClassId) (ad : Nat → Nat) (σ : St) : ∀ (Y : List Sh) (j : Nat), (wW dA ad σ j Y).length = Y.length := by
  intro Y
  induction Y with
  | nil => intro j; rfl
  | cons f fs ih => intro j; simp [wW, ih]
theorem wE_same {dA : Nat → ClassId} {ad : Nat → Nat} {σ τ : St} {k : Nat} (h : Sh) (e : σ k = τ k) : wE dA ad σ k h = wE dA ad τ k h := by
  unfold wE; rw [e]
theorem wW_set {dA : Nat → ClassId} {ad : Nat → Nat} {σ τ : St} {Y : List Sh} {k : Nat} {h : Sh} (hk : Y[k]? = some h) {E : va_E} (hE : E = wE dA ad τ k h) (ho : ∀ j, j ≠ k → τ j = σ j) : (wW dA ad σ 0 Y).set k (ad k, E) = wW dA ad τ 0 Y := by
  apply List.ext_getElem?
  intro n
  rw [List.getElem?_set, wW_len]
  have hkl : k < Y.length := (List.getElem?_eq_some_iff.mp hk).1
  by_cases e : k = n
  · subst e
    rw [if_pos rfl, if_pos hkl, wW_at hk, hE]
  · rw [if_neg e, wW_get, wW_get]
    have hh : (fun h => (ad (0 + n), wE dA ad σ (0 + n) h)) = (fun h => (ad (0 + n), wE dA ad τ (0 + n) h)) := by
      funext f
      rw [wE_same f (show σ (0 + n) = τ (0 + n) from (ho (0 + n) (by omega)).symm)]
    rw [hh]
theorem up_o {σ : St} {k i : Nat} {x : Int32} : ∀ j, j ≠ k → up σ k i x j = σ j := fun j h => by unfold up va_up; rw [if_neg h]
theorem upL_o {σ : St} {k i : Nat} {x : Int64} : ∀ j, j ≠ k → upL σ k i x j = σ j := fun j h => by unfold upL va_up; rw [if_neg h]
theorem up_k {σ : St} {k i : Nat} {x : Int32} : up σ k i x k = upd (σ k) i x := by unfold up va_up; rw [if_pos rfl]
theorem upL_k {σ : St} {k i : Nat} {x : Int64} : upL σ k i x k = upd (upd (σ k) (2 * i) (jhi x)) (2 * i + 1) (jlo x) := by unfold upL va_up; rw [if_pos rfl]
/-- the addresses of a layout -/
def cA (ad : Nat → Nat) (Y : List Sh) : Nat → Prop := fun q => ∃ k, k < Y.length ∧ q = ad k
/-- the addresses are apart -/
def cD (ad : Nat → Nat) (Y : List Sh) : Prop := ∀ i j, i < Y.length → j < Y.length → ad i = ad j → i = j
theorem cD.D {ad : Nat → Nat} {Y : List Sh} (h : cD ad Y) (dA : Nat → ClassId) (σ : St) : va_D (cA ad Y) (wW dA ad σ 0 Y) := by
  constructor
  · intro i j p q hp hq e
    rw [wW_get] at hp hq
    obtain ⟨a, ha, rfl⟩ := Option.map_eq_some_iff.mp hp
    obtain ⟨b, hb, rfl⟩ := Option.map_eq_some_iff.mp hq
    simp only [Nat.zero_add] at e
    exact h i j (List.getElem?_eq_some_iff.mp ha).1 (List.getElem?_eq_some_iff.mp hb).1 e
  · intro k q hq
    rw [wW_get] at hq
    obtain ⟨a, ha, rfl⟩ := Option.map_eq_some_iff.mp hq
    exact ⟨k, (List.getElem?_eq_some_iff.mp ha).1, by simp⟩
def tyl (dA : Nat → ClassId) : List (ClassId × FieldType) := [(dA 0, .int), (dA 1, .boolean), (dA 2, .long), (dA 3, .object "PegCourt$Shelf")]
/-- the words of all methods: those of the tables that stay -/
def gw : List Cond := lw_tbl.filter goodWord
def isNest : Cond → Bool
  | .fieldLinkNest .. => true
  | .methodLinkNest .. => true
  | _ => false
/-- the words of nest mates: they ride in the contracts' premise -/
def nK (U : State) : Prop := ∀ w ∈ lw_tbl, isNest w = true → va_Nw w U
theorem nK.warm {s U : State} (hW : s.WarmedH U.vm) (h : nK s) : nK U := by
  intro w hw hn
  have h1 := h w hw hn
  cases w <;> first | (exact va_Nw.warmF hW h1) | (exact va_Nw.warmM hW h1) | (exact absurd hn (by simp [isNest]))
theorem nK.same {s U : State} (hW : s.vm = U.vm) (h : nK s) : nK U := by
  intro w hw hn
  have h1 := h w hw hn
  cases w <;> first | (exact va_Nw.same rfl hW h1) | (exact absurd hn (by simp [isNest]))
theorem gw_good {ws : List Cond} (h : ∀ w ∈ ws, w ∈ gw) : GoodIn gw ws := fun w hw => ⟨h w hw, good_of_word (List.mem_filter.mp (h w hw)).2⟩
theorem gw_in {w : Cond} (h : w ∈ lw_tbl) (hg : goodWord w = true) : w ∈ gw := List.mem_filter.mpr ⟨h, hg⟩
def rmD (d : Nat) : Room := { frames := d, cells := 0, slots := 0, locals := 64 * d }
def cP (D : va_G) (dA : Nat → ClassId) (ad : Nat → Nat) (Y : List Sh) (av : List Value) (σ : St) : Array Value → State → Prop := fun v U => v = (av.map (cvv ad)).toArray ∧ va_P D vwCl (wW dA ad σ 0 Y) U.heap ∧ va_K D vwCl (tyl dA) U ∧ cD ad Y ∧ nK U
def cQ (D : va_G) (dA : Nat → ClassId) (ad : Nat → Nat) (Y : List Sh) (Q : Option Value → St → Prop) : Array Value → State → Outcome → State → Prop := fun _ st o t => (∃ (r : Option Value) (τ : St), o = .returned (r.map (cvv ad)) ∧ Q r τ ∧ va_P D vwCl (wW dA ad τ 0 Y) t.heap) ∧ va_F (cA ad Y) st t
/-- A METHOD's CONTRACT over a layout: at the store σ, called with av, it returns, and answer and store are as Q says; nothing is made, nothing outside the layout changes -/
def Mt (Y : List Sh) (md : Md) (d : Nat) (av : List Value) (σ : St) (Q : Option Value → St → Prop) : Prop :=
  ∀ (l : Launch) (D : va_G) (dA : Nat → ClassId) (ad : Nat → Nat), Met l md.1 (.code md.1 md.2.1 md.2.2.1 md.2.2.2 :: gw) (rmD d) (cP D dA ad Y av σ) (cQ D dA ad Y Q) 0 0 (cA ad Y)
/-! locals: a list, by place -/
def lvl (ad : Nat → Nat) : Nat → List (Option Value) → List (Nat × Value)
  | _, [] => []
  | i, none :: t => lvl ad (i + 1) t
  | i, some v :: t => (i, cvv ad v) :: lvl ad (i + 1) t
theorem lvl_mem {ad : Nat → Nat} : ∀ (lv : List (Option Value)) (j : Nat) (q : Nat × Value), q ∈ lvl ad j lv ↔ ∃ (i : Nat) (v : Value), lv[i]? = some (some v) ∧ q = (j + i, cvv ad v) := by
  intro lv
  induction lv with
  | nil => intro j q; simp [lvl]
  | cons f t ih =>
    intro j q
    cases f with
    | none =>
      simp only [lvl]
      rw [ih]
      constructor
      · rintro ⟨i, v, h, rfl⟩; exact ⟨i + 1, v, by simpa using h, by simp [Nat.add_assoc, Nat.add_comm 1]⟩
      · rintro ⟨i, v, h, rfl⟩
        cases i with
        | zero => simp at h
        | succ i => exact ⟨i, v, by simpa using h, by simp [Nat.add_assoc, Nat.add_comm 1]⟩
    | some w =>
      simp only [lvl, List.mem_cons]
      rw [ih]
      constructor
      · rintro (rfl | ⟨i, v, h, rfl⟩)
        · exact ⟨0, w, by simp, by simp⟩
        · exact ⟨i + 1, v, by simpa using h, by simp [Nat.add_assoc, Nat.add_comm 1]⟩
      · rintro ⟨i, v, h, rfl⟩
        cases i with
        | zero => simp at h; subst h; exact Or.inl (by simp)
        | succ i => exact Or.inr ⟨i, v, by simpa using h, by simp [Nat.add_assoc, Nat.add_comm 1]⟩
theorem lvl_at {ad : Nat → Nat} {lv : List (Option Value)} {ls : Array Slot} {nL i : Nat} {v : Value} (h : lv_has ls nL (lvl ad 0 lv)) (hv : lv[i]? = some (some v)) : ls[i]? = some (.val (cvv ad v)) :=
  h.2.2 (i, cvv ad v) ((lvl_mem lv 0 _).mpr ⟨i, v, hv, by simp⟩)
/-- the place ahead of i holds no long -/
def lvok (lv : List (Option Value)) (i : Nat) : Bool := match i with
  | 0 => true
  | j + 1 => match lv[j]? with
    | some (some (.long _)) => false
    | some (some (.double _)) => false
    | _ => true
theorem lvl_set1 {ad : Nat → Nat} {lv : List (Option Value)} {ls : Array Slot} {nL i : Nat} {v : Value} (hok : lvok lv i = true) (h : lv_has ls nL ((i, cvv ad v) :: (lvl ad 0 lv).filter (fun q => !(q.1 == i) && !(q.1 + 1 == i && q.2.category == 2)))) : lv_has ls nL (lvl ad 0 (lv.set i (some v))) := by
  refine ⟨h.1, h.2.1, fun q hq => h.2.2 q ?_⟩
  obtain ⟨j, w, hj, rfl⟩ := (lvl_mem _ 0 q).mp hq
  simp only [Nat.zero_add]
  rw [List.getElem?_set] at hj
  by_cases e : i = j
  · subst e
    rw [if_pos rfl] at hj
    split at hj
    · cases hj; exact List.mem_cons_self
    · cases hj
  · rw [if_neg e] at hj
    refine List.mem_cons_of_mem _ (List.mem_filter.mpr ⟨(lvl_mem lv 0 _).mpr ⟨j, w, hj, by simp⟩, ?_⟩)
    simp only [Bool.and_eq_true, Bool.not_eq_true', beq_eq_false_iff_ne, ne_eq, Bool.and_eq_false_iff]
    refine ⟨fun q => e q.symm, ?_⟩
    by_cases e2 : j + 1 = i
    · refine Or.inr ?_
      subst e2
      rw [cvv_cat]
      unfold lvok at hok
      simp only at hok
      rw [hj] at hok
      cases w <;> simp_all [Value.category]
    · exact Or.inl e2
theorem lvl_set2 {ad : Nat → Nat} {lv : List (Option Value)} {ls : Array Slot} {nL i : Nat} {v : Value} (hok : lvok lv i = true) (h : lv_has ls nL ((i, cvv ad v) :: (lvl ad 0 lv).filter (fun q => !(q.1 == i) && (!(q.1 == i + 1) && !(q.1 + 1 == i && q.2.category == 2))))) : lv_has ls nL (lvl ad 0 ((lv.set i (some v)).set (i + 1) none)) := by
  refine ⟨h.1, h.2.1, fun q hq => h.2.2 q ?_⟩
  obtain ⟨j, w, hj, rfl⟩ := (lvl_mem _ 0 q).mp hq
  simp only [Nat.zero_add]
  rw [List.getElem?_set, List.getElem?_set] at hj
  by_cases e0 : i + 1 = j
  · subst e0
    simp at hj
  · rw [if_neg e0] at hj
    by_cases e : i = j
    · subst e
      rw [if_pos rfl] at hj
      split at hj
      · cases hj; exact List.mem_cons_self
      · cases hj
    · rw [if_neg e] at hj
      refine List.mem_cons_of_mem _ (List.mem_filter.mpr ⟨(lvl_mem lv 0 _).mpr ⟨j, w, hj, by simp⟩, ?_⟩)
      simp only [Bool.and_eq_true, Bool.not_eq_true', beq_eq_false_iff_ne, ne_eq, Bool.and_eq_false_iff]
      refine ⟨fun q => e q.symm, fun q => e0 q.symm, ?_⟩
      by_cases e2 : j + 1 = i
      · refine Or.inr ?_
        subst e2
        rw [cvv_cat]
        unfold lvok at hok
        simp only at hok
        rw [hj] at hok
        cases w <;> simp_all [Value.category]
      · exact Or.inl e2
/-! ===== the judgement ===== -/
abbrev Gx : Type := Program × Launch × Env × Room × State × MethodId × Array Value × List Frame × Method × Code × va_G × (Nat → ClassId) × (Nat → Nat)
/-- what stands fast in a method's body: own, its bytes, how many locals, its return type, its depth -/
def cX (g : Gx) (Y : List Sh) (own : String) (cc : ByteArray) (nL : Nat) (ret : Option FieldType) (d : Nat) : Prop := match g with
  | (p, _, _, R, s, m, args, _, meth, c, D, dA, ad) => p.tables.exec = Jvm.exec ∧ c.code = cc ∧ c.maxLocals = nL ∧ meth.sig.returnType = ret ∧ meth.locks = false ∧ s.vm.findClass own = some m.cls ∧ (∀ w ∈ gw, w.before args s = true) ∧ va_K D vwCl (tyl dA) s ∧ cD ad Y ∧ R = rmD d ∧ nK s
/-- the machine stands at pc with locals lv, operands st, store σ: it comes to an end with Q -/
def aW (g : Gx) (Y : List Sh) (nL : Nat) (Q : Option Value → St → Prop) (pc : Nat) (lv : List (Option Value)) (st : List Value) (σ : St) : Prop := match g with
  | (p, l, e, R, s, m, args, below, meth, c, D, dA, ad) => ∀ (H : Heap) (locs : List Loc) (ls : Array Slot), va_P D vwCl (wW dA ad σ 0 Y) H → va_S (cA ad Y) s.heap H locs → lv_has ls nL (lvl ad 0 lv) →
      W p l e R s m args below meth c H locs 0 0 (MQ below (cQ D dA ad Y Q) args s 0 0 (cA ad Y)) (F0 m pc ls (st.map (cvv ad)))

theorem st_iconst {g : Gx} {Y : List Sh} {own : String} {cc : ByteArray} {nL : Nat} {ret : Option FieldType} {d : Nat} {Q : Option Value → St → Prop} {pc : Nat} {lv : List (Option Value)} {st : List Value} {σ : St} {n : Int} {v : Int32} (hc : cX g Y own cc nL ret d) (hd : decode cc pc = .ok (.iconst n, 1)) (hv : Int32.ofInt n = v) (k : aW g Y nL Q (pc + 1) lv (.int v :: st) σ) : aW g Y nL Q pc lv st σ := by
  obtain ⟨p, l, e, R, s, m, args, below, meth, c, D, dA, ad⟩ := g
  obtain ⟨hx, hb, hml, hr, hlk, hown, hts, hK, hD, hR, hN⟩ := hc
  intro H locs ls hP hS hl
  exact lv_iconst hx hb hd hv (k H locs ls hP hS hl)
theorem st_bipush {g : Gx} {Y : List Sh} {own : String} {cc : ByteArray} {nL : Nat} {ret : Option FieldType} {d : Nat} {Q : Option Value → St → Prop} {pc : Nat} {lv : List (Option Value)} {st : List Value} {σ : St} {n : Int} {v : Int32} (hc : cX g Y own cc nL ret d) (hd : decode cc pc = .ok (.bipush n, 2)) (hv : (Int8.ofInt n).toInt32 = v) (k : aW g Y nL Q (pc + 2) lv (.int v :: st) σ) : aW g Y nL Q pc lv st σ := by
  obtain ⟨p, l, e, R, s, m, args, below, meth, c, D, dA, ad⟩ := g
  obtain ⟨hx, hb, hml, hr, hlk, hown, hts, hK, hD, hR, hN⟩ := hc
  intro H locs ls hP hS hl
  exact lv_bipush hx hb hd hv (k H locs ls hP hS hl)
theorem st_sipush {g : Gx} {Y : List Sh} {own : String} {cc : ByteArray} {nL : Nat} {ret : Option FieldType} {d : Nat} {Q : Option Value → St → Prop} {pc : Nat} {lv : List (Option Value)} {st : List Value} {σ : St} {n : Int} {v : Int32} (hc : cX g Y own cc nL ret d) (hd : decode cc pc = .ok (.sipush n, 3)) (hv : (Int16.ofInt n).toInt32 = v) (k : aW g Y nL Q (pc + 3) lv (.int v :: st) σ) : aW g Y nL Q pc lv st σ := by
  obtain ⟨p, l, e, R, s, m, args, below, meth, c, D, dA, ad⟩ := g
  obtain ⟨hx, hb, hml, hr, hlk, hown, hts, hK, hD, hR, hN⟩ := hc
  intro H locs ls hP hS hl
  exact lv_sipush hx hb hd hv (k H locs ls hP hS hl)
theorem st_lconst {g : Gx} {Y : List Sh} {own : String} {cc : ByteArray} {nL : Nat} {ret : Option FieldType} {d : Nat} {Q : Option Value → St → Prop} {pc : Nat} {lv : List (Option Value)} {st : List Value} {σ : St} {n : Fin 2} {v : Int64} (hc : cX g Y own cc nL ret d) (hd : decode cc pc = .ok (.lconst n, 1)) (hv : Int64.ofNat (n : Nat) = v) (k : aW g Y nL Q (pc + 1) lv (.long v :: st) σ) : aW g Y nL Q pc lv st σ := by
  obtain ⟨p, l, e, R, s, m, args, below, meth, c, D, dA, ad⟩ := g
  obtain ⟨hx, hb, hml, hr, hlk, hown, hts, hK, hD, hR, hN⟩ := hc
  intro H locs ls hP hS hl
  exact lv_lconst hx hb hd hv (k H locs ls hP hS hl)
theorem st_ldc {g : Gx} {Y : List Sh} {own : String} {cc : ByteArray} {nL : Nat} {ret : Option FieldType} {d : Nat} {Q : Option Value → St → Prop} {pc : Nat} {lv : List (Option Value)} {st : List Value} {σ : St} {i : Nat} {v : Int32} (hc : cX g Y own cc nL ret d) (hd : decode cc pc = .ok (.ldc i, 2)) (hw : Cond.constant own i v ∈ gw) (k : aW g Y nL Q (pc + 2) lv (.int v :: st) σ) : aW g Y nL Q pc lv st σ := by
  obtain ⟨p, l, e, R, s, m, args, below, meth, c, D, dA, ad⟩ := g
  obtain ⟨hx, hb, hml, hr, hlk, hown, hts, hK, hD, hR, hN⟩ := hc
  intro H locs ls hP hS hl
  exact lv_ldc hx hb hown (hts _ hw) hd (k H locs ls hP hS hl)
theorem st_ldc2 {g : Gx} {Y : List Sh} {own : String} {cc : ByteArray} {nL : Nat} {ret : Option FieldType} {d : Nat} {Q : Option Value → St → Prop} {pc : Nat} {lv : List (Option Value)} {st : List Value} {σ : St} {i : Nat} {v : Int64} (hc : cX g Y own cc nL ret d) (hd : decode cc pc = .ok (.ldc2_w i, 3)) (hw : Cond.constantLong own i v ∈ gw) (k : aW g Y nL Q (pc + 3) lv (.long v :: st) σ) : aW g Y nL Q pc lv st σ := by
  obtain ⟨p, l, e, R, s, m, args, below, meth, c, D, dA, ad⟩ := g
  obtain ⟨hx, hb, hml, hr, hlk, hown, hts, hK, hD, hR, hN⟩ := hc
  intro H locs ls hP hS hl
  exact lv_ldc2 hx hb hown (hts _ hw) hd (k H locs ls hP hS hl)
theorem st_iload_n {g : Gx} {Y : List Sh} {own : String} {cc : ByteArray} {nL : Nat} {ret : Option FieldType} {d : Nat} {Q : Option Value → St → Prop} {pc : Nat} {lv : List (Option Value)} {st : List Value} {σ : St} {j : Fin 4} {i : Nat} {x : Int32} (hc : cX g Y own cc nL ret d) (hd : decode cc pc = .ok (.iload_n j, 1)) (hi : (j : Nat) = i) (hv : lv[i]? = some (some (.int x))) (k : aW g Y nL Q (pc + 1) lv (.int x :: st) σ) : aW g Y nL Q pc lv st σ := by
  obtain ⟨p, l, e, R, s, m, args, below, meth, c, D, dA, ad⟩ := g
  obtain ⟨hx, hb, hml, hr, hlk, hown, hts, hK, hD, hR, hN⟩ := hc
  intro H locs ls hP hS hl
  exact lv_iload_n hx hb hd hi (lvl_at hl hv) (k H locs ls hP hS hl)
theorem st_iload {g : Gx} {Y : List Sh} {own : String} {cc : ByteArray} {nL : Nat} {ret : Option FieldType} {d : Nat} {Q : Option Value → St → Prop} {pc : Nat} {lv : List (Option Value)} {st : List Value} {σ : St} {i : Nat} {x : Int32} (hc : cX g Y own cc nL ret d) (hd : decode cc pc = .ok (.iload i, 2)) (hv : lv[i]? = some (some (.int x))) (k : aW g Y nL Q (pc + 2) lv (.int x :: st) σ) : aW g Y nL Q pc lv st σ := by
  obtain ⟨p, l, e, R, s, m, args, below, meth, c, D, dA, ad⟩ := g
  obtain ⟨hx, hb, hml, hr, hlk, hown, hts, hK, hD, hR, hN⟩ := hc
  intro H locs ls hP hS hl
  exact lv_iload hx hb hd (lvl_at hl hv) (k H locs ls hP hS hl)
theorem st_lload_n {g : Gx} {Y : List Sh} {own : String} {cc : ByteArray} {nL : Nat} {ret : Option FieldType} {d : Nat} {Q : Option Value → St → Prop} {pc : Nat} {lv : List (Option Value)} {st : List Value} {σ : St} {j : Fin 4} {i : Nat} {x : Int64} (hc : cX g Y own cc nL ret d) (hd : decode cc pc = .ok (.lload_n j, 1)) (hi : (j : Nat) = i) (hv : lv[i]? = some (some (.long x))) (k : aW g Y nL Q (pc + 1) lv (.long x :: st) σ) : aW g Y nL Q pc lv st σ := by
  obtain ⟨p, l, e, R, s, m, args, below, meth, c, D, dA, ad⟩ := g
  obtain ⟨hx, hb, hml, hr, hlk, hown, hts, hK, hD, hR, hN⟩ := hc
  intro H locs ls hP hS hl
  exact lv_lload_n hx hb hd hi (lvl_at hl hv) (k H locs ls hP hS hl)
theorem st_lload {g : Gx} {Y : List Sh} {own : String} {cc : ByteArray} {nL : Nat} {ret : Option FieldType} {d : Nat} {Q : Option Value → St → Prop} {pc : Nat} {lv : List (Option Value)} {st : List Value} {σ : St} {i : Nat} {x : Int64} (hc : cX g Y own cc nL ret d) (hd : decode cc pc = .ok (.lload i, 2)) (hv : lv[i]? = some (some (.long x))) (k : aW g Y nL Q (pc + 2) lv (.long x :: st) σ) : aW g Y nL Q pc lv st σ := by
  obtain ⟨p, l, e, R, s, m, args, below, meth, c, D, dA, ad⟩ := g
  obtain ⟨hx, hb, hml, hr, hlk, hown, hts, hK, hD, hR, hN⟩ := hc
  intro H locs ls hP hS hl
  exact lv_lload hx hb hd (lvl_at hl hv) (k H locs ls hP hS hl)
theorem st_aload_n {g : Gx} {Y : List Sh} {own : String} {cc : ByteArray} {nL : Nat} {ret : Option FieldType} {d : Nat} {Q : Option Value → St → Prop} {pc : Nat} {lv : List (Option Value)} {st : List Value} {σ : St} {j : Fin 4} {i : Nat} {x : Nat} (hc : cX g Y own cc nL ret d) (hd : decode cc pc = .ok (.aload_n j, 1)) (hi : (j : Nat) = i) (hv : lv[i]? = some (some (.ref x))) (k : aW g Y nL Q (pc + 1) lv (.ref x :: st) σ) : aW g Y nL Q pc lv st σ := by
  obtain ⟨p, l, e, R, s, m, args, below, meth, c, D, dA, ad⟩ := g
  obtain ⟨hx, hb, hml, hr, hlk, hown, hts, hK, hD, hR, hN⟩ := hc
  intro H locs ls hP hS hl
  exact lv_aload_n hx hb hd hi (lvl_at hl hv) (k H locs ls hP hS hl)
theorem st_aload {g : Gx} {Y : List Sh} {own : String} {cc : ByteArray} {nL : Nat} {ret : Option FieldType} {d : Nat} {Q : Option Value → St → Prop} {pc : Nat} {lv : List (Option Value)} {st : List Value} {σ : St} {i : Nat} {x : Nat} (hc : cX g Y own cc nL ret d) (hd : decode cc pc = .ok (.aload i, 2)) (hv : lv[i]? = some (some (.ref x))) (k : aW g Y nL Q (pc + 2) lv (.ref x :: st) σ) : aW g Y nL Q pc lv st σ := by
  obtain ⟨p, l, e, R, s, m, args, below, meth, c, D, dA, ad⟩ := g
  obtain ⟨hx, hb, hml, hr, hlk, hown, hts, hK, hD, hR, hN⟩ := hc
  intro H locs ls hP hS hl
  exact lv_aload hx hb hd (lvl_at hl hv) (k H locs ls hP hS hl)
theorem st_istore_n {g : Gx} {Y : List Sh} {own : String} {cc : ByteArray} {nL : Nat} {ret : Option FieldType} {d : Nat} {Q : Option Value → St → Prop} {pc : Nat} {lv : List (Option Value)} {st : List Value} {σ : St} {j : Fin 4} {i : Nat} {x : Int32} (hc : cX g Y own cc nL ret d) (hd : decode cc pc = .ok (.istore_n j, 1)) (hi : (j : Nat) = i) (hn : i < nL) (hok : lvok lv i = true) (k : aW g Y nL Q (pc + 1) (lv.set i (some (.int x))) st σ) : aW g Y nL Q pc lv (.int x :: st) σ := by
  obtain ⟨p, l, e, R, s, m, args, below, meth, c, D, dA, ad⟩ := g
  obtain ⟨hx, hb, hml, hr, hlk, hown, hts, hK, hD, hR, hN⟩ := hc
  intro H locs ls hP hS hl
  exact lv_istore_n hx hb hd hi hl hn rfl (fun ls hl => k H locs ls hP hS (lvl_set1 hok hl))
theorem st_istore {g : Gx} {Y : List Sh} {own : String} {cc : ByteArray} {nL : Nat} {ret : Option FieldType} {d : Nat} {Q : Option Value → St → Prop} {pc : Nat} {lv : List (Option Value)} {st : List Value} {σ : St} {i : Nat} {x : Int32} (hc : cX g Y own cc nL ret d) (hd : decode cc pc = .ok (.istore i, 2)) (hn : i < nL) (hok : lvok lv i = true) (k : aW g Y nL Q (pc + 2) (lv.set i (some (.int x))) st σ) : aW g Y nL Q pc lv (.int x :: st) σ := by
  obtain ⟨p, l, e, R, s, m, args, below, meth, c, D, dA, ad⟩ := g
  obtain ⟨hx, hb, hml, hr, hlk, hown, hts, hK, hD, hR, hN⟩ := hc
  intro H locs ls hP hS hl
  exact lv_istore hx hb hd hl hn rfl (fun ls hl => k H locs ls hP hS (lvl_set1 hok hl))
theorem st_astore_n {g : Gx} {Y : List Sh} {own : String} {cc : ByteArray} {nL : Nat} {ret : Option FieldType} {d : Nat} {Q : Option Value → St → Prop} {pc : Nat} {lv : List (Option Value)} {st : List Value} {σ : St} {j : Fin 4} {i : Nat} {x : Nat} (hc : cX g Y own cc nL ret d) (hd : decode cc pc = .ok (.astore_n j, 1)) (hi : (j : Nat) = i) (hn : i < nL) (hok : lvok lv i = true) (k : aW g Y nL Q (pc + 1) (lv.set i (some (.ref x))) st σ) : aW g Y nL Q pc lv (.ref x :: st) σ := by
  obtain ⟨p, l, e, R, s, m, args, below, meth, c, D, dA, ad⟩ := g
  obtain ⟨hx, hb, hml, hr, hlk, hown, hts, hK, hD, hR, hN⟩ := hc
  intro H locs ls hP hS hl
  exact lv_astore_n hx hb hd hi hl hn rfl (fun ls hl => k H locs ls hP hS (lvl_set1 hok hl))
theorem st_astore {g : Gx} {Y : List Sh} {own : String} {cc : ByteArray} {nL : Nat} {ret : Option FieldType} {d : Nat} {Q : Option Value → St → Prop} {pc : Nat} {lv : List (Option Value)} {st : List Value} {σ : St} {i : Nat} {x : Nat} (hc : cX g Y own cc nL ret d) (hd : decode cc pc = .ok (.astore i, 2)) (hn : i < nL) (hok : lvok lv i = true) (k : aW g Y nL Q (pc + 2) (lv.set i (some (.ref x))) st σ) : aW g Y nL Q pc lv (.ref x :: st) σ := by
  obtain ⟨p, l, e, R, s, m, args, below, meth, c, D, dA, ad⟩ := g
  obtain ⟨hx, hb, hml, hr, hlk, hown, hts, hK, hD, hR, hN⟩ := hc
  intro H locs ls hP hS hl
  exact lv_astore hx hb hd hl hn rfl (fun ls hl => k H locs ls hP hS (lvl_set1 hok hl))
theorem st_lstore_n {g : Gx} {Y : List Sh} {own : String} {cc : ByteArray} {nL : Nat} {ret : Option FieldType} {d : Nat} {Q : Option Value → St → Prop} {pc : Nat} {lv : List (Option Value)} {st : List Value} {σ : St} {j : Fin 4} {i : Nat} {x : Int64} (hc : cX g Y own cc nL ret d) (hd : decode cc pc = .ok (.lstore_n j, 1)) (hi : (j : Nat) = i) (hn : i + 1 < nL) (hok : lvok lv i = true) (k : aW g Y nL Q (pc + 1) ((lv.set i (some (.long x))).set (i + 1) none) st σ) : aW g Y nL Q pc lv (.long x :: st) σ := by
  obtain ⟨p, l, e, R, s, m, args, below, meth, c, D, dA, ad⟩ := g
  obtain ⟨hx, hb, hml, hr, hlk, hown, hts, hK, hD, hR, hN⟩ := hc
  intro H locs ls hP hS hl
  exact lv_lstore_n hx hb hd hi hl hn rfl (fun ls hl => k H locs ls hP hS (lvl_set2 hok hl))
theorem st_lstore {g : Gx} {Y : List Sh} {own : String} {cc : ByteArray} {nL : Nat} {ret : Option FieldType} {d : Nat} {Q : Option Value → St → Prop} {pc : Nat} {lv : List (Option Value)} {st : List Value} {σ : St} {i : Nat} {x : Int64} (hc : cX g Y own cc nL ret d) (hd : decode cc pc = .ok (.lstore i, 2)) (hn : i + 1 < nL) (hok : lvok lv i = true) (k : aW g Y nL Q (pc + 2) ((lv.set i (some (.long x))).set (i + 1) none) st σ) : aW g Y nL Q pc lv (.long x :: st) σ := by
  obtain ⟨p, l, e, R, s, m, args, below, meth, c, D, dA, ad⟩ := g
  obtain ⟨hx, hb, hml, hr, hlk, hown, hts, hK, hD, hR, hN⟩ := hc
  intro H locs ls hP hS hl
  exact lv_lstore hx hb hd hl hn rfl (fun ls hl => k H locs ls hP hS (lvl_set2 hok hl))
theorem st_iinc {g : Gx} {Y : List Sh} {own : String} {cc : ByteArray} {nL : Nat} {ret : Option FieldType} {d : Nat} {Q : Option Value → St → Prop} {pc : Nat} {lv : List (Option Value)} {st : List Value} {σ : St} {i : Nat} {n : Int} {x v : Int32} (hc : cX g Y own cc nL ret d) (hd : decode cc pc = .ok (.iinc i n, 3)) (hv : lv[i]? = some (some (.int x))) (he : x + Int32.ofInt n = v) (hn : i < nL) (hok : lvok lv i = true) (k : aW g Y nL Q (pc + 3) (lv.set i (some (.int v))) st σ) : aW g Y nL Q pc lv st σ := by
  obtain ⟨p, l, e, R, s, m, args, below, meth, c, D, dA, ad⟩ := g
  obtain ⟨hx, hb, hml, hr, hlk, hown, hts, hK, hD, hR, hN⟩ := hc
  intro H locs ls hP hS hl
  obtain ⟨j, hj⟩ := List.getElem?_of_mem ((lvl_mem (ad := ad) lv 0 (i, .int x)).mpr ⟨i, .int x, hv, by simp [cvv]⟩)
  exact lv_iinc hx hb hd hl hj he hn rfl (fun ls hl => k H locs ls hP hS (lvl_set1 (v := .int v) hok hl))
theorem st_iadd {g : Gx} {Y : List Sh} {own : String} {cc : ByteArray} {nL : Nat} {ret : Option FieldType} {d : Nat} {Q : Option Value → St → Prop} {pc : Nat} {lv : List (Option Value)} {st : List Value} {σ : St} {x y : Int32} (hc : cX g Y own cc nL ret d) (hd : decode cc pc = .ok (.iadd, 1))  (k : aW g Y nL Q (pc + 1) lv (.int (x + y) :: st) σ) : aW g Y nL Q pc lv (.int y :: .int x :: st) σ := by
  obtain ⟨p, l, e, R, s, m, args, below, meth, c, D, dA, ad⟩ := g
  obtain ⟨hx, hb, hml, hr, hlk, hown, hts, hK, hD, hR, hN⟩ := hc
  intro H locs ls hP hS hl
  exact lv_iadd hx hb hd (k H locs ls hP hS hl)
theorem st_isub {g : Gx} {Y : List Sh} {own : String} {cc : ByteArray} {nL : Nat} {ret : Option FieldType} {d : Nat} {Q : Option Value → St → Prop} {pc : Nat} {lv : List (Option Value)} {st : List Value} {σ : St} {x y : Int32} (hc : cX g Y own cc nL ret d) (hd : decode cc pc = .ok (.isub, 1))  (k : aW g Y nL Q (pc + 1) lv (.int (x - y) :: st) σ) : aW g Y nL Q pc lv (.int y :: .int x :: st) σ := by
  obtain ⟨p, l, e, R, s, m, args, below, meth, c, D, dA, ad⟩ := g
  obtain ⟨hx, hb, hml, hr, hlk, hown, hts, hK, hD, hR, hN⟩ := hc
  intro H locs ls hP hS hl
  exact lv_isub hx hb hd (k H locs ls hP hS hl)
theorem st_imul {g : Gx} {Y : List Sh} {own : String} {cc : ByteArray} {nL : Nat} {ret : Option FieldType} {d : Nat} {Q : Option Value → St → Prop} {pc : Nat} {lv : List (Option Value)} {st : List Value} {σ : St} {x y : Int32} (hc : cX g Y own cc nL ret d) (hd : decode cc pc = .ok (.imul, 1))  (k : aW g Y nL Q (pc + 1) lv (.int (x * y) :: st) σ) : aW g Y nL Q pc lv (.int y :: .int x :: st) σ := by
  obtain ⟨p, l, e, R, s, m, args, below, meth, c, D, dA, ad⟩ := g
  obtain ⟨hx, hb, hml, hr, hlk, hown, hts, hK, hD, hR, hN⟩ := hc
  intro H locs ls hP hS hl
  exact lv_imul hx hb hd (k H locs ls hP hS hl)
theorem st_iand {g : Gx} {Y : List Sh} {own : String} {cc : ByteArray} {nL : Nat} {ret : Option FieldType} {d : Nat} {Q : Option Value → St → Prop} {pc : Nat} {lv : List (Option Value)} {st : List Value} {σ : St} {x y : Int32} (hc : cX g Y own cc nL ret d) (hd : decode cc pc = .ok (.iand, 1))  (k : aW g Y nL Q (pc + 1) lv (.int (x &&& y) :: st) σ) : aW g Y nL Q pc lv (.int y :: .int x :: st) σ := by
  obtain ⟨p, l, e, R, s, m, args, below, meth, c, D, dA, ad⟩ := g
  obtain ⟨hx, hb, hml, hr, hlk, hown, hts, hK, hD, hR, hN⟩ := hc
  intro H locs ls hP hS hl
  exact lv_iand hx hb hd (k H locs ls hP hS hl)
theorem st_ior {g : Gx} {Y : List Sh} {own : String} {cc : ByteArray} {nL : Nat} {ret : Option FieldType} {d : Nat} {Q : Option Value → St → Prop} {pc : Nat} {lv : List (Option Value)} {st : List Value} {σ : St} {x y : Int32} (hc : cX g Y own cc nL ret d) (hd : decode cc pc = .ok (.ior, 1))  (k : aW g Y nL Q (pc + 1) lv (.int (x ||| y) :: st) σ) : aW g Y nL Q pc lv (.int y :: .int x :: st) σ := by
  obtain ⟨p, l, e, R, s, m, args, below, meth, c, D, dA, ad⟩ := g
  obtain ⟨hx, hb, hml, hr, hlk, hown, hts, hK, hD, hR, hN⟩ := hc
  intro H locs ls hP hS hl
  exact lv_ior hx hb hd (k H locs ls hP hS hl)
theorem st_ixor {g : Gx} {Y : List Sh} {own : String} {cc : ByteArray} {nL : Nat} {ret : Option FieldType} {d : Nat} {Q : Option Value → St → Prop} {pc : Nat} {lv : List (Option Value)} {st : List Value} {σ : St} {x y : Int32} (hc : cX g Y own cc nL ret d) (hd : decode cc pc = .ok (.ixor, 1))  (k : aW g Y nL Q (pc + 1) lv (.int (x ^^^ y) :: st) σ) : aW g Y nL Q pc lv (.int y :: .int x :: st) σ := by
  obtain ⟨p, l, e, R, s, m, args, below, meth, c, D, dA, ad⟩ := g
  obtain ⟨hx, hb, hml, hr, hlk, hown, hts, hK, hD, hR, hN⟩ := hc
  intro H locs ls hP hS hl
  exact lv_ixor hx hb hd (k H locs ls hP hS hl)
theorem st_ladd {g : Gx} {Y : List Sh} {own : String} {cc : ByteArray} {nL : Nat} {ret : Option FieldType} {d : Nat} {Q : Option Value → St → Prop} {pc : Nat} {lv : List (Option Value)} {st : List Value} {σ : St} {x y : Int64} (hc : cX g Y own cc nL ret d) (hd : decode cc pc = .ok (.ladd, 1))  (k : aW g Y nL Q (pc + 1) lv (.long (x + y) :: st) σ) : aW g Y nL Q pc lv (.long y :: .long x :: st) σ := by
  obtain ⟨p, l, e, R, s, m, args, below, meth, c, D, dA, ad⟩ := g
  obtain ⟨hx, hb, hml, hr, hlk, hown, hts, hK, hD, hR, hN⟩ := hc
  intro H locs ls hP hS hl
  exact lv_ladd hx hb hd (k H locs ls hP hS hl)
theorem st_lsub {g : Gx} {Y : List Sh} {own : String} {cc : ByteArray} {nL : Nat} {ret : Option FieldType} {d : Nat} {Q : Option Value → St → Prop} {pc : Nat} {lv : List (Option Value)} {st : List Value} {σ : St} {x y : Int64} (hc : cX g Y own cc nL ret d) (hd : decode cc pc = .ok (.lsub, 1))  (k : aW g Y nL Q (pc + 1) lv (.long (x - y) :: st) σ) : aW g Y nL Q pc lv (.long y :: .long x :: st) σ := by
  obtain ⟨p, l, e, R, s, m, args, below, meth, c, D, dA, ad⟩ := g
  obtain ⟨hx, hb, hml, hr, hlk, hown, hts, hK, hD, hR, hN⟩ := hc
  intro H locs ls hP hS hl
  exact lv_lsub hx hb hd (k H locs ls hP hS hl)
theorem st_lmul {g : Gx} {Y : List Sh} {own : String} {cc : ByteArray} {nL : Nat} {ret : Option FieldType} {d : Nat} {Q : Option Value → St → Prop} {pc : Nat} {lv : List (Option Value)} {st : List Value} {σ : St} {x y : Int64} (hc : cX g Y own cc nL ret d) (hd : decode cc pc = .ok (.lmul, 1))  (k : aW g Y nL Q (pc + 1) lv (.long (x * y) :: st) σ) : aW g Y nL Q pc lv (.long y :: .long x :: st) σ := by
  obtain ⟨p, l, e, R, s, m, args, below, meth, c, D, dA, ad⟩ := g
  obtain ⟨hx, hb, hml, hr, hlk, hown, hts, hK, hD, hR, hN⟩ := hc
  intro H locs ls hP hS hl
  exact lv_lmul hx hb hd (k H locs ls hP hS hl)
theorem st_land {g : Gx} {Y : List Sh} {own : String} {cc : ByteArray} {nL : Nat} {ret : Option FieldType} {d : Nat} {Q : Option Value → St → Prop} {pc : Nat} {lv : List (Option Value)} {st : List Value} {σ : St} {x y : Int64} (hc : cX g Y own cc nL ret d) (hd : decode cc pc = .ok (.land, 1))  (k : aW g Y nL Q (pc + 1) lv (.long (x &&& y) :: st) σ) : aW g Y nL Q pc lv (.long y :: .long x :: st) σ := by
  obtain ⟨p, l, e, R, s, m, args, below, meth, c, D, dA, ad⟩ := g
  obtain ⟨hx, hb, hml, hr, hlk, hown, hts, hK, hD, hR, hN⟩ := hc
  intro H locs ls hP hS hl
  exact lv_land hx hb hd (k H locs ls hP hS hl)
theorem st_lor {g : Gx} {Y : List Sh} {own : String} {cc : ByteArray} {nL : Nat} {ret : Option FieldType} {d : Nat} {Q : Option Value → St → Prop} {pc : Nat} {lv : List (Option Value)} {st : List Value} {σ : St} {x y : Int64} (hc : cX g Y own cc nL ret d) (hd : decode cc pc = .ok (.lor, 1))  (k : aW g Y nL Q (pc + 1) lv (.long (x ||| y) :: st) σ) : aW g Y nL Q pc lv (.long y :: .long x :: st) σ := by
  obtain ⟨p, l, e, R, s, m, args, below, meth, c, D, dA, ad⟩ := g
  obtain ⟨hx, hb, hml, hr, hlk, hown, hts, hK, hD, hR, hN⟩ := hc
  intro H locs ls hP hS hl
  exact lv_lor hx hb hd (k H locs ls hP hS hl)
theorem st_lxor {g : Gx} {Y : List Sh} {own : String} {cc : ByteArray} {nL : Nat} {ret : Option FieldType} {d : Nat} {Q : Option Value → St → Prop} {pc : Nat} {lv : List (Option Value)} {st : List Value} {σ : St} {x y : Int64} (hc : cX g Y own cc nL ret d) (hd : decode cc pc = .ok (.lxor, 1))  (k : aW g Y nL Q (pc + 1) lv (.long (x ^^^ y) :: st) σ) : aW g Y nL Q pc lv (.long y :: .long x :: st) σ := by
  obtain ⟨p, l, e, R, s, m, args, below, meth, c, D, dA, ad⟩ := g
  obtain ⟨hx, hb, hml, hr, hlk, hown, hts, hK, hD, hR, hN⟩ := hc
  intro H locs ls hP hS hl
  exact lv_lxor hx hb hd (k H locs ls hP hS hl)
theorem st_idiv {g : Gx} {Y : List Sh} {own : String} {cc : ByteArray} {nL : Nat} {ret : Option FieldType} {d : Nat} {Q : Option Value → St → Prop} {pc : Nat} {lv : List (Option Value)} {st : List Value} {σ : St} {x y : Int32} (hc : cX g Y own cc nL ret d) (hd : decode cc pc = .ok (.idiv, 1)) (hne : ¬ y = 0) (k : aW g Y nL Q (pc + 1) lv (.int (x / y) :: st) σ) : aW g Y nL Q pc lv (.int y :: .int x :: st) σ := by
  obtain ⟨p, l, e, R, s, m, args, below, meth, c, D, dA, ad⟩ := g
  obtain ⟨hx, hb, hml, hr, hlk, hown, hts, hK, hD, hR, hN⟩ := hc
  intro H locs ls hP hS hl
  exact lv_idiv hx hb hd hne (k H locs ls hP hS hl)
theorem st_irem {g : Gx} {Y : List Sh} {own : String} {cc : ByteArray} {nL : Nat} {ret : Option FieldType} {d : Nat} {Q : Option Value → St → Prop} {pc : Nat} {lv : List (Option Value)} {st : List Value} {σ : St} {x y : Int32} (hc : cX g Y own cc nL ret d) (hd : decode cc pc = .ok (.irem, 1)) (hne : ¬ y = 0) (k : aW g Y nL Q (pc + 1) lv (.int (x - x / y * y) :: st) σ) : aW g Y nL Q pc lv (.int y :: .int x :: st) σ := by
  obtain ⟨p, l, e, R, s, m, args, below, meth, c, D, dA, ad⟩ := g
  obtain ⟨hx, hb, hml, hr, hlk, hown, hts, hK, hD, hR, hN⟩ := hc
  intro H locs ls hP hS hl
  exact lv_irem hx hb hd hne (k H locs ls hP hS hl)
theorem st_ineg {g : Gx} {Y : List Sh} {own : String} {cc : ByteArray} {nL : Nat} {ret : Option FieldType} {d : Nat} {Q : Option Value → St → Prop} {pc : Nat} {lv : List (Option Value)} {st : List Value} {σ : St} {x : Int32} (hc : cX g Y own cc nL ret d) (hd : decode cc pc = .ok (.ineg, 1))  (k : aW g Y nL Q (pc + 1) lv (.int (-x) :: st) σ) : aW g Y nL Q pc lv (.int x :: st) σ := by
  obtain ⟨p, l, e, R, s, m, args, below, meth, c, D, dA, ad⟩ := g
  obtain ⟨hx, hb, hml, hr, hlk, hown, hts, hK, hD, hR, hN⟩ := hc
  intro H locs ls hP hS hl
  exact lv_ineg hx hb hd (k H locs ls hP hS hl)
theorem st_ishl {g : Gx} {Y : List Sh} {own : String} {cc : ByteArray} {nL : Nat} {ret : Option FieldType} {d : Nat} {Q : Option Value → St → Prop} {pc : Nat} {lv : List (Option Value)} {st : List Value} {σ : St} {x y : Int32} (hc : cX g Y own cc nL ret d) (hd : decode cc pc = .ok (.ishl, 1))  (k : aW g Y nL Q (pc + 1) lv (.int (x <<< (y &&& 31)) :: st) σ) : aW g Y nL Q pc lv (.int y :: .int x :: st) σ := by
  obtain ⟨p, l, e, R, s, m, args, below, meth, c, D, dA, ad⟩ := g
  obtain ⟨hx, hb, hml, hr, hlk, hown, hts, hK, hD, hR, hN⟩ := hc
  intro H locs ls hP hS hl
  exact lv_ishl hx hb hd (k H locs ls hP hS hl)
theorem st_ishr {g : Gx} {Y : List Sh} {own : String} {cc : ByteArray} {nL : Nat} {ret : Option FieldType} {d : Nat} {Q : Option Value → St → Prop} {pc : Nat} {lv : List (Option Value)} {st : List Value} {σ : St} {x y : Int32} (hc : cX g Y own cc nL ret d) (hd : decode cc pc = .ok (.ishr, 1))  (k : aW g Y nL Q (pc + 1) lv (.int (x >>> (y &&& 31)) :: st) σ) : aW g Y nL Q pc lv (.int y :: .int x :: st) σ := by
  obtain ⟨p, l, e, R, s, m, args, below, meth, c, D, dA, ad⟩ := g
  obtain ⟨hx, hb, hml, hr, hlk, hown, hts, hK, hD, hR, hN⟩ := hc
  intro H locs ls hP hS hl
  exact lv_ishr hx hb hd (k H locs ls hP hS hl)
theorem st_iushr {g : Gx} {Y : List Sh} {own : String} {cc : ByteArray} {nL : Nat} {ret : Option FieldType} {d : Nat} {Q : Option Value → St → Prop} {pc : Nat} {lv : List (Option Value)} {st : List Value} {σ : St} {x y : Int32} (hc : cX g Y own cc nL ret d) (hd : decode cc pc = .ok (.iushr, 1))  (k : aW g Y nL Q (pc + 1) lv (.int ((x.toUInt32 >>> (y.toUInt32 &&& Int32.toUInt32 31)).toInt32) :: st) σ) : aW g Y nL Q pc lv (.int y :: .int x :: st) σ := by
  obtain ⟨p, l, e, R, s, m, args, below, meth, c, D, dA, ad⟩ := g
  obtain ⟨hx, hb, hml, hr, hlk, hown, hts, hK, hD, hR, hN⟩ := hc
  intro H locs ls hP hS hl
  exact lv_iushr hx hb hd rfl (k H locs ls hP hS hl)
theorem st_lushr {g : Gx} {Y : List Sh} {own : String} {cc : ByteArray} {nL : Nat} {ret : Option FieldType} {d : Nat} {Q : Option Value → St → Prop} {pc : Nat} {lv : List (Option Value)} {st : List Value} {σ : St} {x : Int64} {y : Int32} (hc : cX g Y own cc nL ret d) (hd : decode cc pc = .ok (.lushr, 1))  (k : aW g Y nL Q (pc + 1) lv (.long ((x.toUInt64 >>> (y.toInt64.toUInt64 &&& Int64.toUInt64 63)).toInt64) :: st) σ) : aW g Y nL Q pc lv (.int y :: .long x :: st) σ := by
  obtain ⟨p, l, e, R, s, m, args, below, meth, c, D, dA, ad⟩ := g
  obtain ⟨hx, hb, hml, hr, hlk, hown, hts, hK, hD, hR, hN⟩ := hc
  intro H locs ls hP hS hl
  exact lv_lushr hx hb hd rfl (k H locs ls hP hS hl)
theorem st_lshl {g : Gx} {Y : List Sh} {own : String} {cc : ByteArray} {nL : Nat} {ret : Option FieldType} {d : Nat} {Q : Option Value → St → Prop} {pc : Nat} {lv : List (Option Value)} {st : List Value} {σ : St} {x : Int64} {y : Int32} (hc : cX g Y own cc nL ret d) (hd : decode cc pc = .ok (.lshl, 1))  (k : aW g Y nL Q (pc + 1) lv (.long (x <<< (y.toInt64 &&& 63)) :: st) σ) : aW g Y nL Q pc lv (.int y :: .long x :: st) σ := by
  obtain ⟨p, l, e, R, s, m, args, below, meth, c, D, dA, ad⟩ := g
  obtain ⟨hx, hb, hml, hr, hlk, hown, hts, hK, hD, hR, hN⟩ := hc
  intro H locs ls hP hS hl
  exact lv_lshl hx hb hd rfl (k H locs ls hP hS hl)
theorem st_i2l {g : Gx} {Y : List Sh} {own : String} {cc : ByteArray} {nL : Nat} {ret : Option FieldType} {d : Nat} {Q : Option Value → St → Prop} {pc : Nat} {lv : List (Option Value)} {st : List Value} {σ : St} {x : Int32} (hc : cX g Y own cc nL ret d) (hd : decode cc pc = .ok (.i2l, 1))  (k : aW g Y nL Q (pc + 1) lv (.long x.toInt64 :: st) σ) : aW g Y nL Q pc lv (.int x :: st) σ := by
  obtain ⟨p, l, e, R, s, m, args, below, meth, c, D, dA, ad⟩ := g
  obtain ⟨hx, hb, hml, hr, hlk, hown, hts, hK, hD, hR, hN⟩ := hc
  intro H locs ls hP hS hl
  exact lv_i2l hx hb hd rfl (k H locs ls hP hS hl)
theorem st_l2i {g : Gx} {Y : List Sh} {own : String} {cc : ByteArray} {nL : Nat} {ret : Option FieldType} {d : Nat} {Q : Option Value → St → Prop} {pc : Nat} {lv : List (Option Value)} {st : List Value} {σ : St} {x : Int64} (hc : cX g Y own cc nL ret d) (hd : decode cc pc = .ok (.l2i, 1))  (k : aW g Y nL Q (pc + 1) lv (.int x.toInt32 :: st) σ) : aW g Y nL Q pc lv (.long x :: st) σ := by
  obtain ⟨p, l, e, R, s, m, args, below, meth, c, D, dA, ad⟩ := g
  obtain ⟨hx, hb, hml, hr, hlk, hown, hts, hK, hD, hR, hN⟩ := hc
  intro H locs ls hP hS hl
  exact lv_l2i hx hb hd rfl (k H locs ls hP hS hl)
theorem st_i2b {g : Gx} {Y : List Sh} {own : String} {cc : ByteArray} {nL : Nat} {ret : Option FieldType} {d : Nat} {Q : Option Value → St → Prop} {pc : Nat} {lv : List (Option Value)} {st : List Value} {σ : St} {x : Int32} (hc : cX g Y own cc nL ret d) (hd : decode cc pc = .ok (.i2b, 1))  (k : aW g Y nL Q (pc + 1) lv (.int x.toInt8.toInt32 :: st) σ) : aW g Y nL Q pc lv (.int x :: st) σ := by
  obtain ⟨p, l, e, R, s, m, args, below, meth, c, D, dA, ad⟩ := g
  obtain ⟨hx, hb, hml, hr, hlk, hown, hts, hK, hD, hR, hN⟩ := hc
  intro H locs ls hP hS hl
  exact lv_i2b hx hb hd rfl (k H locs ls hP hS hl)
theorem st_i2s {g : Gx} {Y : List Sh} {own : String} {cc : ByteArray} {nL : Nat} {ret : Option FieldType} {d : Nat} {Q : Option Value → St → Prop} {pc : Nat} {lv : List (Option Value)} {st : List Value} {σ : St} {x : Int32} (hc : cX g Y own cc nL ret d) (hd : decode cc pc = .ok (.i2s, 1))  (k : aW g Y nL Q (pc + 1) lv (.int x.toInt16.toInt32 :: st) σ) : aW g Y nL Q pc lv (.int x :: st) σ := by
  obtain ⟨p, l, e, R, s, m, args, below, meth, c, D, dA, ad⟩ := g
  obtain ⟨hx, hb, hml, hr, hlk, hown, hts, hK, hD, hR, hN⟩ := hc
  intro H locs ls hP hS hl
  exact lv_i2s hx hb hd rfl (k H locs ls hP hS hl)
theorem st_i2c {g : Gx} {Y : List Sh} {own : String} {cc : ByteArray} {nL : Nat} {ret : Option FieldType} {d : Nat} {Q : Option Value → St → Prop} {pc : Nat} {lv : List (Option Value)} {st : List Value} {σ : St} {x : Int32} (hc : cX g Y own cc nL ret d) (hd : decode cc pc = .ok (.i2c, 1))  (k : aW g Y nL Q (pc + 1) lv (.int (x.toUInt32 % 65536).toInt32 :: st) σ) : aW g Y nL Q pc lv (.int x :: st) σ := by
  obtain ⟨p, l, e, R, s, m, args, below, meth, c, D, dA, ad⟩ := g
  obtain ⟨hx, hb, hml, hr, hlk, hown, hts, hK, hD, hR, hN⟩ := hc
  intro H locs ls hP hS hl
  exact lv_i2c hx hb hd rfl (k H locs ls hP hS hl)
theorem st_lcmp {g : Gx} {Y : List Sh} {own : String} {cc : ByteArray} {nL : Nat} {ret : Option FieldType} {d : Nat} {Q : Option Value → St → Prop} {pc : Nat} {lv : List (Option Value)} {st : List Value} {σ : St} {x y : Int64} (hc : cX g Y own cc nL ret d) (hd : decode cc pc = .ok (.lcmp, 1))  (k : aW g Y nL Q (pc + 1) lv (.int (lg_cmp x y) :: st) σ) : aW g Y nL Q pc lv (.long y :: .long x :: st) σ := by
  obtain ⟨p, l, e, R, s, m, args, below, meth, c, D, dA, ad⟩ := g
  obtain ⟨hx, hb, hml, hr, hlk, hown, hts, hK, hD, hR, hN⟩ := hc
  intro H locs ls hP hS hl
  exact W.lcmp hx hb hd (k H locs ls hP hS hl)
theorem st_dup {g : Gx} {Y : List Sh} {own : String} {cc : ByteArray} {nL : Nat} {ret : Option FieldType} {d : Nat} {Q : Option Value → St → Prop} {pc : Nat} {lv : List (Option Value)} {st : List Value} {σ : St} {a : Value} (hc : cX g Y own cc nL ret d) (hd : decode cc pc = .ok (.dup, 1)) (ha : a.category = 1) (k : aW g Y nL Q (pc + 1) lv (a :: a :: st) σ) : aW g Y nL Q pc lv (a :: st) σ := by
  obtain ⟨p, l, e, R, s, m, args, below, meth, c, D, dA, ad⟩ := g
  obtain ⟨hx, hb, hml, hr, hlk, hown, hts, hK, hD, hR, hN⟩ := hc
  intro H locs ls hP hS hl
  exact lv_dup hx hb hd ((cvv_cat ad a).trans ha) (k H locs ls hP hS hl)
theorem st_pop {g : Gx} {Y : List Sh} {own : String} {cc : ByteArray} {nL : Nat} {ret : Option FieldType} {d : Nat} {Q : Option Value → St → Prop} {pc : Nat} {lv : List (Option Value)} {st : List Value} {σ : St} {a : Value} (hc : cX g Y own cc nL ret d) (hd : decode cc pc = .ok (.pop, 1)) (ha : a.category = 1) (k : aW g Y nL Q (pc + 1) lv st σ) : aW g Y nL Q pc lv (a :: st) σ := by
  obtain ⟨p, l, e, R, s, m, args, below, meth, c, D, dA, ad⟩ := g
  obtain ⟨hx, hb, hml, hr, hlk, hown, hts, hK, hD, hR, hN⟩ := hc
  intro H locs ls hP hS hl
  exact lv_pop hx hb hd ((cvv_cat ad a).trans ha) (k H locs ls hP hS hl)
theorem st_dup_x1 {g : Gx} {Y : List Sh} {own : String} {cc : ByteArray} {nL : Nat} {ret : Option FieldType} {d : Nat} {Q : Option Value → St → Prop} {pc : Nat} {lv : List (Option Value)} {st : List Value} {σ : St} {a b : Value} (hc : cX g Y own cc nL ret d) (hd : decode cc pc = .ok (.dup_x1, 1)) (ha : a.category = 1) (hb2 : b.category = 1) (k : aW g Y nL Q (pc + 1) lv (a :: b :: a :: st) σ) : aW g Y nL Q pc lv (a :: b :: st) σ := by
  obtain ⟨p, l, e, R, s, m, args, below, meth, c, D, dA, ad⟩ := g
  obtain ⟨hx, hb, hml, hr, hlk, hown, hts, hK, hD, hR, hN⟩ := hc
  intro H locs ls hP hS hl
  exact lv_dup_x1 hx hb hd ((cvv_cat ad a).trans ha) ((cvv_cat ad b).trans hb2) (k H locs ls hP hS hl)
theorem st_dup_x2 {g : Gx} {Y : List Sh} {own : String} {cc : ByteArray} {nL : Nat} {ret : Option FieldType} {d : Nat} {Q : Option Value → St → Prop} {pc : Nat} {lv : List (Option Value)} {st : List Value} {σ : St} {a b c2 : Value} (hc : cX g Y own cc nL ret d) (hd : decode cc pc = .ok (.dup_x2, 1)) (ha : a.category = 1) (hb2 : b.category = 1) (hc2 : c2.category = 1) (k : aW g Y nL Q (pc + 1) lv (a :: b :: c2 :: a :: st) σ) : aW g Y nL Q pc lv (a :: b :: c2 :: st) σ := by
  obtain ⟨p, l, e, R, s, m, args, below, meth, c, D, dA, ad⟩ := g
  obtain ⟨hx, hb, hml, hr, hlk, hown, hts, hK, hD, hR, hN⟩ := hc
  intro H locs ls hP hS hl
  exact lv_dup_x2 hx hb hd ((cvv_cat ad a).trans ha) ((cvv_cat ad b).trans hb2) ((cvv_cat ad c2).trans hc2) (k H locs ls hP hS hl)
theorem st_dup2 {g : Gx} {Y : List Sh} {own : String} {cc : ByteArray} {nL : Nat} {ret : Option FieldType} {d : Nat} {Q : Option Value → St → Prop} {pc : Nat} {lv : List (Option Value)} {st : List Value} {σ : St} {a b : Value} (hc : cX g Y own cc nL ret d) (hd : decode cc pc = .ok (.dup2, 1)) (ha : a.category = 1) (hb2 : b.category = 1) (k : aW g Y nL Q (pc + 1) lv (a :: b :: a :: b :: st) σ) : aW g Y nL Q pc lv (a :: b :: st) σ := by
  obtain ⟨p, l, e, R, s, m, args, below, meth, c, D, dA, ad⟩ := g
  obtain ⟨hx, hb, hml, hr, hlk, hown, hts, hK, hD, hR, hN⟩ := hc
  intro H locs ls hP hS hl
  exact lv_dup2_11 hx hb hd ((cvv_cat ad a).trans ha) ((cvv_cat ad b).trans hb2) (k H locs ls hP hS hl)
theorem st_if_eq {g : Gx} {Y : List Sh} {own : String} {cc : ByteArray} {nL : Nat} {ret : Option FieldType} {d : Nat} {Q : Option Value → St → Prop} {pc : Nat} {lv : List (Option Value)} {st : List Value} {σ : St} {x : Int32} {off : Int} {tgt : Nat} (hc : cX g Y own cc nL ret d) (hd : decode cc pc = .ok (.ifCond .eq off, 3)) (ht : (pc : Int) + off = (tgt : Int)) (kt : x = 0 → aW g Y nL Q tgt lv st σ) (kf : ¬ x = 0 → aW g Y nL Q (pc + 3) lv st σ) : aW g Y nL Q pc lv (.int x :: st) σ := by
  obtain ⟨p, l, e, R, s, m, args, below, meth, c, D, dA, ad⟩ := g
  obtain ⟨hx, hb, hml, hr, hlk, hown, hts, hK, hD, hR, hN⟩ := hc
  intro H locs ls hP hS hl
  exact lv_if_eq hx hb hd ht (fun h => kt h H locs ls hP hS hl) (fun h => kf h H locs ls hP hS hl)
theorem st_icmp_eq {g : Gx} {Y : List Sh} {own : String} {cc : ByteArray} {nL : Nat} {ret : Option FieldType} {d : Nat} {Q : Option Value → St → Prop} {pc : Nat} {lv : List (Option Value)} {st : List Value} {σ : St} {x y : Int32} {off : Int} {tgt : Nat} (hc : cX g Y own cc nL ret d) (hd : decode cc pc = .ok (.if_icmp .eq off, 3)) (ht : (pc : Int) + off = (tgt : Int)) (kt : x = y → aW g Y nL Q tgt lv st σ) (kf : ¬ x = y → aW g Y nL Q (pc + 3) lv st σ) : aW g Y nL Q pc lv (.int y :: .int x :: st) σ := by
  obtain ⟨p, l, e, R, s, m, args, below, meth, c, D, dA, ad⟩ := g
  obtain ⟨hx, hb, hml, hr, hlk, hown, hts, hK, hD, hR, hN⟩ := hc
  intro H locs ls hP hS hl
  exact lv_icmp_eq hx hb hd ht (fun h => kt h H locs ls hP hS hl) (fun h => kf h H locs ls hP hS hl)
theorem st_if_ne {g : Gx} {Y : List Sh} {own : String} {cc : ByteArray} {nL : Nat} {ret : Option FieldType} {d : Nat} {Q : Option Value → St → Prop} {pc : Nat} {lv : List (Option Value)} {st : List Value} {σ : St} {x : Int32} {off : Int} {tgt : Nat} (hc : cX g Y own cc nL ret d) (hd : decode cc pc = .ok (.ifCond .ne off, 3)) (ht : (pc : Int) + off = (tgt : Int)) (kt : ¬ x = 0 → aW g Y nL Q tgt lv st σ) (kf : x = 0 → aW g Y nL Q (pc + 3) lv st σ) : aW g Y nL Q pc lv (.int x :: st) σ := by
  obtain ⟨p, l, e, R, s, m, args, below, meth, c, D, dA, ad⟩ := g
  obtain ⟨hx, hb, hml, hr, hlk, hown, hts, hK, hD, hR, hN⟩ := hc
  intro H locs ls hP hS hl
  exact lv_if_ne hx hb hd ht (fun h => kt h H locs ls hP hS hl) (fun h => kf (by simpa using h) H locs ls hP hS hl)
theorem st_icmp_ne {g : Gx} {Y : List Sh} {own : String} {cc : ByteArray} {nL : Nat} {ret : Option FieldType} {d : Nat} {Q : Option Value → St → Prop} {pc : Nat} {lv : List (Option Value)} {st : List Value} {σ : St} {x y : Int32} {off : Int} {tgt : Nat} (hc : cX g Y own cc nL ret d) (hd : decode cc pc = .ok (.if_icmp .ne off, 3)) (ht : (pc : Int) + off = (tgt : Int)) (kt : ¬ x = y → aW g Y nL Q tgt lv st σ) (kf : x = y → aW g Y nL Q (pc + 3) lv st σ) : aW g Y nL Q pc lv (.int y :: .int x :: st) σ := by
  obtain ⟨p, l, e, R, s, m, args, below, meth, c, D, dA, ad⟩ := g
  obtain ⟨hx, hb, hml, hr, hlk, hown, hts, hK, hD, hR, hN⟩ := hc
  intro H locs ls hP hS hl
  exact lv_icmp_ne hx hb hd ht (fun h => kt h H locs ls hP hS hl) (fun h => kf (by simpa using h) H locs ls hP hS hl)
theorem st_if_lt {g : Gx} {Y : List Sh} {own : String} {cc : ByteArray} {nL : Nat} {ret : Option FieldType} {d : Nat} {Q : Option Value → St → Prop} {pc : Nat} {lv : List (Option Value)} {st : List Value} {σ : St} {x : Int32} {off : Int} {tgt : Nat} (hc : cX g Y own cc nL ret d) (hd : decode cc pc = .ok (.ifCond .lt off, 3)) (ht : (pc : Int) + off = (tgt : Int)) (kt : x < 0 → aW g Y nL Q tgt lv st σ) (kf : ¬ x < 0 → aW g Y nL Q (pc + 3) lv st σ) : aW g Y nL Q pc lv (.int x :: st) σ := by
  obtain ⟨p, l, e, R, s, m, args, below, meth, c, D, dA, ad⟩ := g
  obtain ⟨hx, hb, hml, hr, hlk, hown, hts, hK, hD, hR, hN⟩ := hc
  intro H locs ls hP hS hl
  exact lv_if_lt hx hb hd ht (fun h => kt h H locs ls hP hS hl) (fun h => kf h H locs ls hP hS hl)
theorem st_icmp_lt {g : Gx} {Y : List Sh} {own : String} {cc : ByteArray} {nL : Nat} {ret : Option FieldType} {d : Nat} {Q : Option Value → St → Prop} {pc : Nat} {lv : List (Option Value)} {st : List Value} {σ : St} {x y : Int32} {off : Int} {tgt : Nat} (hc : cX g Y own cc nL ret d) (hd : decode cc pc = .ok (.if_icmp .lt off, 3)) (ht : (pc : Int) + off = (tgt : Int)) (kt : x < y → aW g Y nL Q tgt lv st σ) (kf : ¬ x < y → aW g Y nL Q (pc + 3) lv st σ) : aW g Y nL Q pc lv (.int y :: .int x :: st) σ := by
  obtain ⟨p, l, e, R, s, m, args, below, meth, c, D, dA, ad⟩ := g
  obtain ⟨hx, hb, hml, hr, hlk, hown, hts, hK, hD, hR, hN⟩ := hc
  intro H locs ls hP hS hl
  exact lv_icmp_lt hx hb hd ht (fun h => kt h H locs ls hP hS hl) (fun h => kf h H locs ls hP hS hl)
theorem st_if_ge {g : Gx} {Y : List Sh} {own : String} {cc : ByteArray} {nL : Nat} {ret : Option FieldType} {d : Nat} {Q : Option Value → St → Prop} {pc : Nat} {lv : List (Option Value)} {st : List Value} {σ : St} {x : Int32} {off : Int} {tgt : Nat} (hc : cX g Y own cc nL ret d) (hd : decode cc pc = .ok (.ifCond .ge off, 3)) (ht : (pc : Int) + off = (tgt : Int)) (kt : 0 ≤ x → aW g Y nL Q tgt lv st σ) (kf : ¬ 0 ≤ x → aW g Y nL Q (pc + 3) lv st σ) : aW g Y nL Q pc lv (.int x :: st) σ := by
  obtain ⟨p, l, e, R, s, m, args, below, meth, c, D, dA, ad⟩ := g
  obtain ⟨hx, hb, hml, hr, hlk, hown, hts, hK, hD, hR, hN⟩ := hc
  intro H locs ls hP hS hl
  exact lv_if_ge hx hb hd ht (fun h => kt h H locs ls hP hS hl) (fun h => kf h H locs ls hP hS hl)
theorem st_icmp_ge {g : Gx} {Y : List Sh} {own : String} {cc : ByteArray} {nL : Nat} {ret : Option FieldType} {d : Nat} {Q : Option Value → St → Prop} {pc : Nat} {lv : List (Option Value)} {st : List Value} {σ : St} {x y : Int32} {off : Int} {tgt : Nat} (hc : cX g Y own cc nL ret d) (hd : decode cc pc = .ok (.if_icmp .ge off, 3)) (ht : (pc : Int) + off = (tgt : Int)) (kt : y ≤ x → aW g Y nL Q tgt lv st σ) (kf : ¬ y ≤ x → aW g Y nL Q (pc + 3) lv st σ) : aW g Y nL Q pc lv (.int y :: .int x :: st) σ := by
  obtain ⟨p, l, e, R, s, m, args, below, meth, c, D, dA, ad⟩ := g
  obtain ⟨hx, hb, hml, hr, hlk, hown, hts, hK, hD, hR, hN⟩ := hc
  intro H locs ls hP hS hl
  exact lv_icmp_ge hx hb hd ht (fun h => kt h H locs ls hP hS hl) (fun h => kf h H locs ls hP hS hl)
theorem st_if_gt {g : Gx} {Y : List Sh} {own : String} {cc : ByteArray} {nL : Nat} {ret : Option FieldType} {d : Nat} {Q : Option Value → St → Prop} {pc : Nat} {lv : List (Option Value)} {st : List Value} {σ : St} {x : Int32} {off : Int} {tgt : Nat} (hc : cX g Y own cc nL ret d) (hd : decode cc pc = .ok (.ifCond .gt off, 3)) (ht : (pc : Int) + off = (tgt : Int)) (kt : 0 < x → aW g Y nL Q tgt lv st σ) (kf : ¬ 0 < x → aW g Y nL Q (pc + 3) lv st σ) : aW g Y nL Q pc lv (.int x :: st) σ := by
  obtain ⟨p, l, e, R, s, m, args, below, meth, c, D, dA, ad⟩ := g
  obtain ⟨hx, hb, hml, hr, hlk, hown, hts, hK, hD, hR, hN⟩ := hc
  intro H locs ls hP hS hl
  exact lv_if_gt hx hb hd ht (fun h => kt h H locs ls hP hS hl) (fun h => kf h H locs ls hP hS hl)
theorem st_icmp_gt {g : Gx} {Y : List Sh} {own : String} {cc : ByteArray} {nL : Nat} {ret : Option FieldType} {d : Nat} {Q : Option Value → St → Prop} {pc : Nat} {lv : List (Option Value)} {st : List Value} {σ : St} {x y : Int32} {off : Int} {tgt : Nat} (hc : cX g Y own cc nL ret d) (hd : decode cc pc = .ok (.if_icmp .gt off, 3)) (ht : (pc : Int) + off = (tgt : Int)) (kt : y < x → aW g Y nL Q tgt lv st σ) (kf : ¬ y < x → aW g Y nL Q (pc + 3) lv st σ) : aW g Y nL Q pc lv (.int y :: .int x :: st) σ := by
  obtain ⟨p, l, e, R, s, m, args, below, meth, c, D, dA, ad⟩ := g
  obtain ⟨hx, hb, hml, hr, hlk, hown, hts, hK, hD, hR, hN⟩ := hc
  intro H locs ls hP hS hl
  exact lv_icmp_gt hx hb hd ht (fun h => kt h H locs ls hP hS hl) (fun h => kf h H locs ls hP hS hl)
theorem st_if_le {g : Gx} {Y : List Sh} {own : String} {cc : ByteArray} {nL : Nat} {ret : Option FieldType} {d : Nat} {Q : Option Value → St → Prop} {pc : Nat} {lv : List (Option Value)} {st : List Value} {σ : St} {x : Int32} {off : Int} {tgt : Nat} (hc : cX g Y own cc nL ret d) (hd : decode cc pc = .ok (.ifCond .le off, 3)) (ht : (pc : Int) + off = (tgt : Int)) (kt : x ≤ 0 → aW g Y nL Q tgt lv st σ) (kf : ¬ x ≤ 0 → aW g Y nL Q (pc + 3) lv st σ) : aW g Y nL Q pc lv (.int x :: st) σ := by
  obtain ⟨p, l, e, R, s, m, args, below, meth, c, D, dA, ad⟩ := g
  obtain ⟨hx, hb, hml, hr, hlk, hown, hts, hK, hD, hR, hN⟩ := hc
  intro H locs ls hP hS hl
  exact lv_if_le hx hb hd ht (fun h => kt h H locs ls hP hS hl) (fun h => kf h H locs ls hP hS hl)
theorem st_icmp_le {g : Gx} {Y : List Sh} {own : String} {cc : ByteArray} {nL : Nat} {ret : Option FieldType} {d : Nat} {Q : Option Value → St → Prop} {pc : Nat} {lv : List (Option Value)} {st : List Value} {σ : St} {x y : Int32} {off : Int} {tgt : Nat} (hc : cX g Y own cc nL ret d) (hd : decode cc pc = .ok (.if_icmp .le off, 3)) (ht : (pc : Int) + off = (tgt : Int)) (kt : x ≤ y → aW g Y nL Q tgt lv st σ) (kf : ¬ x ≤ y → aW g Y nL Q (pc + 3) lv st σ) : aW g Y nL Q pc lv (.int y :: .int x :: st) σ := by
  obtain ⟨p, l, e, R, s, m, args, below, meth, c, D, dA, ad⟩ := g
  obtain ⟨hx, hb, hml, hr, hlk, hown, hts, hK, hD, hR, hN⟩ := hc
  intro H locs ls hP hS hl
  exact lv_icmp_le hx hb hd ht (fun h => kt h H locs ls hP hS hl) (fun h => kf h H locs ls hP hS hl)
theorem st_goto {g : Gx} {Y : List Sh} {own : String} {cc : ByteArray} {nL : Nat} {ret : Option FieldType} {d : Nat} {Q : Option Value → St → Prop} {pc : Nat} {lv : List (Option Value)} {st : List Value} {σ : St} {off : Int} {tgt : Nat} (hc : cX g Y own cc nL ret d) (hd : decode cc pc = .ok (.goto off, 3)) (ht : (pc : Int) + off = (tgt : Int)) (k : aW g Y nL Q (tgt) lv st σ) : aW g Y nL Q pc lv st σ := by
  obtain ⟨p, l, e, R, s, m, args, below, meth, c, D, dA, ad⟩ := g
  obtain ⟨hx, hb, hml, hr, hlk, hown, hts, hK, hD, hR, hN⟩ := hc
  intro H locs ls hP hS hl
  exact lv_goto hx hb hd ht (k H locs ls hP hS hl)
theorem st_tableIn {g : Gx} {Y : List Sh} {own : String} {cc : ByteArray} {nL : Nat} {ret : Option FieldType} {d : Nat} {Q : Option Value → St → Prop} {pc : Nat} {lv : List (Option Value)} {st : List Value} {σ : St} {df lo hi : Int} {offs : Array Int} {ln : Nat} {x : Int32} {off : Int} {tgt : Nat} (hc : cX g Y own cc nL ret d) (hd : decode cc pc = .ok (.tableswitch df lo hi offs, ln)) (h1 : ¬ x.toInt < lo) (h2 : ¬ hi < x.toInt) (ho : offs[(x.toInt - lo).toNat]? = some off) (ht : (pc : Int) + off = (tgt : Int)) (k : aW g Y nL Q (tgt) lv st σ) : aW g Y nL Q pc lv (.int x :: st) σ := by
  obtain ⟨p, l, e, R, s, m, args, below, meth, c, D, dA, ad⟩ := g
  obtain ⟨hx, hb, hml, hr, hlk, hown, hts, hK, hD, hR, hN⟩ := hc
  intro H locs ls hP hS hl
  exact lv_tableIn hx hb hd h1 h2 ho ht (k H locs ls hP hS hl)
theorem st_tableOut {g : Gx} {Y : List Sh} {own : String} {cc : ByteArray} {nL : Nat} {ret : Option FieldType} {d : Nat} {Q : Option Value → St → Prop} {pc : Nat} {lv : List (Option Value)} {st : List Value} {σ : St} {df lo hi : Int} {offs : Array Int} {ln : Nat} {x : Int32} {tgt : Nat} (hc : cX g Y own cc nL ret d) (hd : decode cc pc = .ok (.tableswitch df lo hi offs, ln)) (h : x.toInt < lo ∨ hi < x.toInt) (ht : (pc : Int) + df = (tgt : Int)) (k : aW g Y nL Q (tgt) lv st σ) : aW g Y nL Q pc lv (.int x :: st) σ := by
  obtain ⟨p, l, e, R, s, m, args, below, meth, c, D, dA, ad⟩ := g
  obtain ⟨hx, hb, hml, hr, hlk, hown, hts, hK, hD, hR, hN⟩ := hc
  intro H locs ls hP hS hl
  exact lv_tableOut hx hb hd h ht (k H locs ls hP hS hl)
theorem st_lookup {g : Gx} {Y : List Sh} {own : String} {cc : ByteArray} {nL : Nat} {ret : Option FieldType} {d : Nat} {Q : Option Value → St → Prop} {pc : Nat} {lv : List (Option Value)} {st : List Value} {σ : St} {df : Int} {ps : Array (Int × Int)} {ln : Nat} {x : Int32} {off : Int} {tgt : Nat} (hc : cX g Y own cc nL ret d) (hd : decode cc pc = .ok (.lookupswitch df ps, ln)) (hp : (ps.toList.zip (ps.toList.drop 1)).all (fun (a, next) => a.1 < next.1) = true) (ho : Op.lookupswitch.offset ps.toList df x.toInt = off) (ht : (pc : Int) + off = (tgt : Int)) (k : aW g Y nL Q (tgt) lv st σ) : aW g Y nL Q pc lv (.int x :: st) σ := by
  obtain ⟨p, l, e, R, s, m, args, below, meth, c, D, dA, ad⟩ := g
  obtain ⟨hx, hb, hml, hr, hlk, hown, hts, hK, hD, hR, hN⟩ := hc
  intro H locs ls hP hS hl
  exact lv_lookup hx hb hd hp ho ht (k H locs ls hP hS hl)
/-- field entry idx of class own's pool is field k of class ci -/
def FL (own : String) (idx ci k : Nat) : Prop := ∃ (C : String) (T : u_T) (N : Nat) (ty0 : Nat → FieldType), vwCl[ci]? = some (C, T, N) ∧ k < N ∧ (∀ w ∈ u_ws C T N, w ∈ gw) ∧ (∀ k, k < N → parseFieldDescriptor (T k).2.2.1 = some (ty0 k)) ∧ (∀ a, a < N → ∀ b, b < N → a ≠ b → (T a).2.1 ≠ (T b).2.1) ∧ (Cond.fieldLink own idx (T k).1 (T k).2.1 (T k).2.2.1 ∈ gw ∨ ∃ host : String, Cond.fieldLinkNest own idx (T k).1 (T k).2.1 (T k).2.2.1 host ∈ lw_tbl)
/-- .. and may be written: an int, or (z) a boolean -/
def FP (own : String) (idx ci k : Nat) (z : Bool) : Prop := FL own idx ci k ∧ ∀ C T N, vwCl[ci]? = some (C, T, N) → (T k).2.2.2 = false ∧ parseFieldDescriptor (T k).2.2.1 = some (if z then .boolean else .int)
theorem st_get {g : Gx} {Y : List Sh} {own : String} {cc : ByteArray} {nL : Nat} {ret : Option FieldType} {d : Nat} {Q : Option Value → St → Prop} {pc : Nat} {lv : List (Option Value)} {st : List Value} {σ : St} {idx a ci j : Nat} {fs : List (Option Nat)} (hc : cX g Y own cc nL ret d) (hd : decode cc pc = .ok (.getfield idx, 3)) (hf : FL own idx ci j) (hy : Y[a]? = some (.inr (ci, fs))) (hk : fs[j]? = some none) (k : aW g Y nL Q (pc + 3) lv (.int (σ a j) :: st) σ) : aW g Y nL Q pc lv (.ref a :: st) σ := by
  obtain ⟨p, l, e, R, s, m, args, below, meth, c, D, dA, ad⟩ := g
  obtain ⟨hx, hb, hml, hr, hlk, hown, hts, hK, hD, hR, hN⟩ := hc
  intro H locs ls hP hS hl
  obtain ⟨C, T, N, ty0, h1, h2, h3, -, -, h4⟩ := hf
  have hv : (wF ad (σ a) 0 fs)[j]? = some (.int (σ a j)) := by rw [wF_get, hk]; simp
  rcases h4 with h4 | ⟨host, h4⟩
  · exact va_get hx hb hts h3 hown hK hP a (wW_at hy) h1 j h2 (hts _ h4) (fun _ h => h) hv hd (k H locs ls hP hS hl)
  · exact va_getN hx hb hts h3 hown hK hP a (wW_at hy) h1 j h2 (va_Nw.use rfl (hN _ h4 rfl)) (fun _ h => h) hv hd (k H locs ls hP hS hl)
theorem st_getr {g : Gx} {Y : List Sh} {own : String} {cc : ByteArray} {nL : Nat} {ret : Option FieldType} {d : Nat} {Q : Option Value → St → Prop} {pc : Nat} {lv : List (Option Value)} {st : List Value} {σ : St} {idx a ci j q : Nat} {fs : List (Option Nat)} (hc : cX g Y own cc nL ret d) (hd : decode cc pc = .ok (.getfield idx, 3)) (hf : FL own idx ci j) (hy : Y[a]? = some (.inr (ci, fs))) (hk : fs[j]? = some (some q)) (k : aW g Y nL Q (pc + 3) lv (.ref q :: st) σ) : aW g Y nL Q pc lv (.ref a :: st) σ := by
  obtain ⟨p, l, e, R, s, m, args, below, meth, c, D, dA, ad⟩ := g
  obtain ⟨hx, hb, hml, hr, hlk, hown, hts, hK, hD, hR, hN⟩ := hc
  intro H locs ls hP hS hl
  obtain ⟨C, T, N, ty0, h1, h2, h3, -, -, h4⟩ := hf
  have hv : (wF ad (σ a) 0 fs)[j]? = some (.ref (ad q)) := by rw [wF_get, hk]; simp
  rcases h4 with h4 | ⟨host, h4⟩
  · exact va_get hx hb hts h3 hown hK hP a (wW_at hy) h1 j h2 (hts _ h4) (fun _ h => h) hv hd (k H locs ls hP hS hl)
  · exact va_getN hx hb hts h3 hown hK hP a (wW_at hy) h1 j h2 (va_Nw.use rfl (hN _ h4 rfl)) (fun _ h => h) hv hd (k H locs ls hP hS hl)
theorem st_put {g : Gx} {Y : List Sh} {own : String} {cc : ByteArray} {nL : Nat} {ret : Option FieldType} {d : Nat} {Q : Option Value → St → Prop} {pc : Nat} {lv : List (Option Value)} {st : List Value} {σ : St} {idx a ci j : Nat} {fs : List (Option Nat)} {x : Int32} (hc : cX g Y own cc nL ret d) (hd : decode cc pc = .ok (.putfield idx, 3)) (hf : FP own idx ci j false) (hy : Y[a]? = some (.inr (ci, fs))) (hk : fs[j]? = some none)  (k : aW g Y nL Q (pc + 3) lv st (up σ a j x)) : aW g Y nL Q pc lv (.int x :: .ref a :: st) σ := by
  obtain ⟨p, l, e, R, s, m, args, below, meth, c, D, dA, ad⟩ := g
  obtain ⟨hx, hb, hml, hr, hlk, hown, hts, hK, hD, hR, hN⟩ := hc
  intro H locs ls hP hS hl
  obtain ⟨⟨C, T, N, ty0, h1, h2, h3, h5, h6, h4⟩, h7⟩ := hf
  obtain ⟨h8, h9⟩ := h7 C T N h1
  have hlen : j < (wF ad (σ a) 0 fs).length := by rw [wF_len]; exact (List.getElem?_eq_some_iff.mp hk).1
  have hset : (wW dA ad σ 0 Y).set a (ad a, .inr (ci, (wF ad (σ a) 0 fs).set j (.int x))) = wW dA ad (up σ a j x) 0 Y := wW_set hy (by rw [wF_set ad (σ a) x fs 0 j hk]; show _ = Sum.inr (ci, wF ad (up σ a j x a) 0 fs); rw [up_k, Nat.zero_add]) up_o
  rcases h4 with h4 | ⟨host, h4⟩
  · exact va_put hx hb hts h3 ty0 h5 h6 hown hK hP (hD.D dA σ) hS a (wW_at hy) h1 j h2 (hts _ h4) (fun _ h => h) h8 h9 rfl rfl hlen hd (fun H1 locs1 hP1 _ hS1 => k H1 locs1 ls (hset ▸ hP1) hS1 hl)
  · exact va_putN hx hb hts h3 ty0 h5 h6 hown hK hP (hD.D dA σ) hS a (wW_at hy) h1 j h2 (va_Nw.use rfl (hN _ h4 rfl)) (fun _ h => h) h8 h9 rfl rfl hlen hd (fun H1 locs1 hP1 _ hS1 => k H1 locs1 ls (hset ▸ hP1) hS1 hl)
theorem st_putz {g : Gx} {Y : List Sh} {own : String} {cc : ByteArray} {nL : Nat} {ret : Option FieldType} {d : Nat} {Q : Option Value → St → Prop} {pc : Nat} {lv : List (Option Value)} {st : List Value} {σ : St} {idx a ci j : Nat} {fs : List (Option Nat)} {x : Int32} (hc : cX g Y own cc nL ret d) (hd : decode cc pc = .ok (.putfield idx, 3)) (hf : FP own idx ci j true) (hy : Y[a]? = some (.inr (ci, fs))) (hk : fs[j]? = some none) (hz : x = 0 ∨ x = 1) (k : aW g Y nL Q (pc + 3) lv st (up σ a j x)) : aW g Y nL Q pc lv (.int x :: .ref a :: st) σ := by
  obtain ⟨p, l, e, R, s, m, args, below, meth, c, D, dA, ad⟩ := g
  obtain ⟨hx, hb, hml, hr, hlk, hown, hts, hK, hD, hR, hN⟩ := hc
  intro H locs ls hP hS hl
  obtain ⟨⟨C, T, N, ty0, h1, h2, h3, h5, h6, h4⟩, h7⟩ := hf
  obtain ⟨h8, h9⟩ := h7 C T N h1
  have hlen : j < (wF ad (σ a) 0 fs).length := by rw [wF_len]; exact (List.getElem?_eq_some_iff.mp hk).1
  have hset : (wW dA ad σ 0 Y).set a (ad a, .inr (ci, (wF ad (σ a) 0 fs).set j (.int x))) = wW dA ad (up σ a j x) 0 Y := wW_set hy (by rw [wF_set ad (σ a) x fs 0 j hk]; show _ = Sum.inr (ci, wF ad (up σ a j x a) 0 fs); rw [up_k, Nat.zero_add]) up_o
  rcases h4 with h4 | ⟨host, h4⟩
  · exact va_put hx hb hts h3 ty0 h5 h6 hown hK hP (hD.D dA σ) hS a (wW_at hy) h1 j h2 (hts _ h4) (fun _ h => h) h8 h9 (by rcases hz with rfl | rfl <;> rfl) (by rcases hz with rfl | rfl <;> rfl) hlen hd (fun H1 locs1 hP1 _ hS1 => k H1 locs1 ls (hset ▸ hP1) hS1 hl)
  · exact va_putN hx hb hts h3 ty0 h5 h6 hown hK hP (hD.D dA σ) hS a (wW_at hy) h1 j h2 (va_Nw.use rfl (hN _ h4 rfl)) (fun _ h => h) h8 h9 (by rcases hz with rfl | rfl <;> rfl) (by rcases hz with rfl | rfl <;> rfl) hlen hd (fun H1 locs1 hP1 _ hS1 => k H1 locs1 ls (hset ▸ hP1) hS1 hl)
theorem st_iald {g : Gx} {Y : List Sh} {own : String} {cc : ByteArray} {nL : Nat} {ret : Option FieldType} {d : Nat} {Q : Option Value → St → Prop} {pc : Nat} {lv : List (Option Value)} {st : List Value} {σ : St} {a n : Nat} {rs : List Nat} {i : Int32} (hc : cX g Y own cc nL ret d) (hd : decode cc pc = .ok (.iaload, 1)) (hy : Y[a]? = some (.inl (0, n, rs))) (hin : vp_in i n) (k : aW g Y nL Q (pc + 1) lv (.int (σ a i.toNatClampNeg) :: st) σ) : aW g Y nL Q pc lv (.int i :: .ref a :: st) σ := by
  obtain ⟨p, l, e, R, s, m, args, below, meth, c, D, dA, ad⟩ := g
  obtain ⟨hx, hb, hml, hr, hlk, hown, hts, hK, hD, hR, hN⟩ := hc
  intro H locs ls hP hS hl
  exact va_iald hx hb hK hP a 0 (wW_at hy) rfl hin hd (k H locs ls hP hS hl)
theorem st_zald {g : Gx} {Y : List Sh} {own : String} {cc : ByteArray} {nL : Nat} {ret : Option FieldType} {d : Nat} {Q : Option Value → St → Prop} {pc : Nat} {lv : List (Option Value)} {st : List Value} {σ : St} {a n : Nat} {rs : List Nat} {i : Int32} (hc : cX g Y own cc nL ret d) (hd : decode cc pc = .ok (.baload, 1)) (hy : Y[a]? = some (.inl (1, n, rs))) (hin : vp_in i n) (k : aW g Y nL Q (pc + 1) lv (.int (σ a i.toNatClampNeg) :: st) σ) : aW g Y nL Q pc lv (.int i :: .ref a :: st) σ := by
  obtain ⟨p, l, e, R, s, m, args, below, meth, c, D, dA, ad⟩ := g
  obtain ⟨hx, hb, hml, hr, hlk, hown, hts, hK, hD, hR, hN⟩ := hc
  intro H locs ls hP hS hl
  exact va_zald hx hb hK hP a 1 (wW_at hy) rfl hin hd (k H locs ls hP hS hl)
theorem st_lald {g : Gx} {Y : List Sh} {own : String} {cc : ByteArray} {nL : Nat} {ret : Option FieldType} {d : Nat} {Q : Option Value → St → Prop} {pc : Nat} {lv : List (Option Value)} {st : List Value} {σ : St} {a n : Nat} {rs : List Nat} {i : Int32} (hc : cX g Y own cc nL ret d) (hd : decode cc pc = .ok (.laload, 1)) (hy : Y[a]? = some (.inl (2, n, rs))) (hin : vp_in i n) (k : aW g Y nL Q (pc + 1) lv (.long (jn (σ a (2 * i.toNatClampNeg)) (σ a (2 * i.toNatClampNeg + 1))) :: st) σ) : aW g Y nL Q pc lv (.int i :: .ref a :: st) σ := by
  obtain ⟨p, l, e, R, s, m, args, below, meth, c, D, dA, ad⟩ := g
  obtain ⟨hx, hb, hml, hr, hlk, hown, hts, hK, hD, hR, hN⟩ := hc
  intro H locs ls hP hS hl
  exact va_lald hx hb hK hP a 2 (wW_at hy) rfl hin hd (k H locs ls hP hS hl)
theorem st_aald {g : Gx} {Y : List Sh} {own : String} {cc : ByteArray} {nL : Nat} {ret : Option FieldType} {d : Nat} {Q : Option Value → St → Prop} {pc : Nat} {lv : List (Option Value)} {st : List Value} {σ : St} {a n q : Nat} {rs : List Nat} {i : Int32} (hc : cX g Y own cc nL ret d) (hd : decode cc pc = .ok (.aaload, 1)) (hy : Y[a]? = some (.inl (3, n, rs))) (hin : vp_in i n) (hq : rs[i.toNatClampNeg]? = some q) (k : aW g Y nL Q (pc + 1) lv (.ref q :: st) σ) : aW g Y nL Q pc lv (.int i :: .ref a :: st) σ := by
  obtain ⟨p, l, e, R, s, m, args, below, meth, c, D, dA, ad⟩ := g
  obtain ⟨hx, hb, hml, hr, hlk, hown, hts, hK, hD, hR, hN⟩ := hc
  intro H locs ls hP hS hl
  refine va_aldq hx hb hK hP a 3 (wW_at hy) rfl hin hd ?_
  have hk := k H locs ls hP hS hl
  show W p l e R s m args below meth c H locs 0 0 _ (F0 m (pc + 1) ls (va_rf ((rs[i.toNatClampNeg]?).map ad) :: _))
  rw [hq]
  exact hk
theorem st_iast {g : Gx} {Y : List Sh} {own : String} {cc : ByteArray} {nL : Nat} {ret : Option FieldType} {d : Nat} {Q : Option Value → St → Prop} {pc : Nat} {lv : List (Option Value)} {st : List Value} {σ : St} {a n : Nat} {rs : List Nat} {i x : Int32} (hc : cX g Y own cc nL ret d) (hd : decode cc pc = .ok (.iastore, 1)) (hy : Y[a]? = some (.inl (0, n, rs))) (hin : vp_in i n) (k : aW g Y nL Q (pc + 1) lv st (up σ a i.toNatClampNeg x)) : aW g Y nL Q pc lv (.int x :: .int i :: .ref a :: st) σ := by
  obtain ⟨p, l, e, R, s, m, args, below, meth, c, D, dA, ad⟩ := g
  obtain ⟨hx, hb, hml, hr, hlk, hown, hts, hK, hD, hR, hN⟩ := hc
  intro H locs ls hP hS hl
  have hset : (wW dA ad σ 0 Y).set a (ad a, .inl (dA 0, n, .inl (upd (σ a) i.toNatClampNeg x))) = wW dA ad (up σ a i.toNatClampNeg x) 0 Y := wW_set hy (by show _ = Sum.inl (dA 0, n, Sum.inl (up σ a i.toNatClampNeg x a)); rw [up_k]) up_o
  exact va_iast hx hb hK hP (hD.D dA σ) hS a 0 (wW_at hy) rfl hin hd (fun H1 locs1 hP1 _ hS1 => k H1 locs1 ls (hset ▸ hP1) hS1 hl)
theorem st_zast {g : Gx} {Y : List Sh} {own : String} {cc : ByteArray} {nL : Nat} {ret : Option FieldType} {d : Nat} {Q : Option Value → St → Prop} {pc : Nat} {lv : List (Option Value)} {st : List Value} {σ : St} {a n : Nat} {rs : List Nat} {i x : Int32} (hc : cX g Y own cc nL ret d) (hd : decode cc pc = .ok (.bastore, 1)) (hy : Y[a]? = some (.inl (1, n, rs))) (hin : vp_in i n) (hz : x = 0 ∨ x = 1) (k : aW g Y nL Q (pc + 1) lv st (up σ a i.toNatClampNeg x)) : aW g Y nL Q pc lv (.int x :: .int i :: .ref a :: st) σ := by
  obtain ⟨p, l, e, R, s, m, args, below, meth, c, D, dA, ad⟩ := g
  obtain ⟨hx, hb, hml, hr, hlk, hown, hts, hK, hD, hR, hN⟩ := hc
  intro H locs ls hP hS hl
  have hz2 : vp_nar .boolean x = x := by rcases hz with rfl | rfl <;> rfl
  have hset : (wW dA ad σ 0 Y).set a (ad a, .inl (dA 1, n, .inl (upd (σ a) i.toNatClampNeg (vp_nar .boolean x)))) = wW dA ad (up σ a i.toNatClampNeg x) 0 Y := wW_set hy (by rw [hz2]; show _ = Sum.inl (dA 1, n, Sum.inl (up σ a i.toNatClampNeg x a)); rw [up_k]) up_o
  exact va_zast hx hb hK hP (hD.D dA σ) hS a 1 (wW_at hy) rfl hin hd (fun H1 locs1 hP1 _ hS1 => k H1 locs1 ls (hset ▸ hP1) hS1 hl)
theorem st_last {g : Gx} {Y : List Sh} {own : String} {cc : ByteArray} {nL : Nat} {ret : Option FieldType} {d : Nat} {Q : Option Value → St → Prop} {pc : Nat} {lv : List (Option Value)} {st : List Value} {σ : St} {a n : Nat} {rs : List Nat} {i : Int32} {x : Int64} (hc : cX g Y own cc nL ret d) (hd : decode cc pc = .ok (.lastore, 1)) (hy : Y[a]? = some (.inl (2, n, rs))) (hin : vp_in i n) (k : aW g Y nL Q (pc + 1) lv st (upL σ a i.toNatClampNeg x)) : aW g Y nL Q pc lv (.long x :: .int i :: .ref a :: st) σ := by
  obtain ⟨p, l, e, R, s, m, args, below, meth, c, D, dA, ad⟩ := g
  obtain ⟨hx, hb, hml, hr, hlk, hown, hts, hK, hD, hR, hN⟩ := hc
  intro H locs ls hP hS hl
  have hset : (wW dA ad σ 0 Y).set a (ad a, .inl (dA 2, n, .inr (.inl (vp_updL (fun j => jn (σ a (2 * j)) (σ a (2 * j + 1))) i.toNatClampNeg x)))) = wW dA ad (upL σ a i.toNatClampNeg x) 0 Y := wW_set hy (by
    show _ = Sum.inl (dA 2, n, Sum.inr (Sum.inl (fun j => jn (upL σ a i.toNatClampNeg x a (2 * j)) (upL σ a i.toNatClampNeg x a (2 * j + 1)))))
    rw [upL_k]
    congr 5
    funext j
    unfold vp_updL upd
    by_cases e : j = i.toNatClampNeg
    · subst e; simp [jn_eq]
    · simp only [if_neg e, if_neg (show ¬ 2 * j = 2 * i.toNatClampNeg + 1 by omega), if_neg (show ¬ 2 * j = 2 * i.toNatClampNeg by omega), if_neg (show ¬ 2 * j + 1 = 2 * i.toNatClampNeg + 1 by omega), if_neg (show ¬ 2 * j + 1 = 2 * i.toNatClampNeg by omega)]) upL_o
  exact va_last hx hb hK hP (hD.D dA σ) hS a 2 (wW_at hy) rfl hin hd (fun H1 locs1 hP1 _ hS1 => k H1 locs1 ls (hset ▸ hP1) hS1 hl)
theorem st_alen {g : Gx} {Y : List Sh} {own : String} {cc : ByteArray} {nL : Nat} {ret : Option FieldType} {d : Nat} {Q : Option Value → St → Prop} {pc : Nat} {lv : List (Option Value)} {st : List Value} {σ : St} {a t n : Nat} {rs : List Nat} {v : Int32} (hc : cX g Y own cc nL ret d) (hd : decode cc pc = .ok (.arraylength, 1)) (hy : Y[a]? = some (.inl (t, n, rs))) (ht : t < 4) (hv : Int32.ofNat n = v) (k : aW g Y nL Q (pc + 1) lv (.int v :: st) σ) : aW g Y nL Q pc lv (.ref a :: st) σ := by
  obtain ⟨p, l, e, R, s, m, args, below, meth, c, D, dA, ad⟩ := g
  obtain ⟨hx, hb, hml, hr, hlk, hown, hts, hK, hD, hR, hN⟩ := hc
  intro H locs ls hP hS hl
  rcases (show t = 0 ∨ t = 1 ∨ t = 2 ∨ t = 3 by omega) with rfl | rfl | rfl | rfl
  · exact va_alen hx hb hK hP a 0 (wW_at hy) rfl hv hd (k H locs ls hP hS hl)
  · exact va_alen hx hb hK hP a 1 (wW_at hy) rfl hv hd (k H locs ls hP hS hl)
  · exact va_alen hx hb hK hP a 2 (wW_at hy) rfl hv hd (k H locs ls hP hS hl)
  · exact va_alen hx hb hK hP a 3 (wW_at hy) rfl hv hd (k H locs ls hP hS hl)
theorem st_iret {g : Gx} {Y : List Sh} {own : String} {cc : ByteArray} {nL : Nat} {ret : Option FieldType} {d : Nat} {Q : Option Value → St → Prop} {pc : Nat} {lv : List (Option Value)} {st : List Value} {σ : St} {x : Int32} (hc : cX g Y own cc nL ret d) (hd : decode cc pc = .ok (.ireturn, 1)) (hrt : ret = some .int) (k : Q (some (.int x)) σ)  : aW g Y nL Q pc lv [.int x] σ := by
  obtain ⟨p, l, e, R, s, m, args, below, meth, c, D, dA, ad⟩ := g
  obtain ⟨hx, hb, hml, hr, hlk, hown, hts, hK, hD, hR, hN⟩ := hc
  intro H locs ls hP hS hl
  exact W.iret hx hb (hr.trans hrt) (fun t ht hW => ⟨⟨some (.int x), σ, rfl, k, by rw [ht]; exact hP⟩, hS.F ht⟩) hS.2.2 hd hlk
theorem st_zret {g : Gx} {Y : List Sh} {own : String} {cc : ByteArray} {nL : Nat} {ret : Option FieldType} {d : Nat} {Q : Option Value → St → Prop} {pc : Nat} {lv : List (Option Value)} {st : List Value} {σ : St} {x : Int32} (hc : cX g Y own cc nL ret d) (hd : decode cc pc = .ok (.ireturn, 1)) (hrt : ret = some .boolean) (hz : x = 0 ∨ x = 1) (k : Q (some (.int x)) σ)  : aW g Y nL Q pc lv [.int x] σ := by
  obtain ⟨p, l, e, R, s, m, args, below, meth, c, D, dA, ad⟩ := g
  obtain ⟨hx, hb, hml, hr, hlk, hown, hts, hK, hD, hR, hN⟩ := hc
  intro H locs ls hP hS hl
  exact W.zret hx hb (hr.trans hrt) (by rcases hz with rfl | rfl <;> rfl) (fun t ht hW => ⟨⟨some (.int x), σ, rfl, k, by rw [ht]; exact hP⟩, hS.F ht⟩) hS.2.2 hd hlk
theorem st_lret {g : Gx} {Y : List Sh} {own : String} {cc : ByteArray} {nL : Nat} {ret : Option FieldType} {d : Nat} {Q : Option Value → St → Prop} {pc : Nat} {lv : List (Option Value)} {st : List Value} {σ : St} {x : Int64} (hc : cX g Y own cc nL ret d) (hd : decode cc pc = .ok (.lreturn, 1)) (hrt : ret = some .long) (k : Q (some (.long x)) σ)  : aW g Y nL Q pc lv [.long x] σ := by
  obtain ⟨p, l, e, R, s, m, args, below, meth, c, D, dA, ad⟩ := g
  obtain ⟨hx, hb, hml, hr, hlk, hown, hts, hK, hD, hR, hN⟩ := hc
  intro H locs ls hP hS hl
  exact W.lret hx hb (hr.trans hrt) (fun t ht hW => ⟨⟨some (.long x), σ, rfl, k, by rw [ht]; exact hP⟩, hS.F ht⟩) hS.2.2 hd hlk
theorem st_vret {g : Gx} {Y : List Sh} {own : String} {cc : ByteArray} {nL : Nat} {ret : Option FieldType} {d : Nat} {Q : Option Value → St → Prop} {pc : Nat} {lv : List (Option Value)} {st : List Value} {σ : St}  (hc : cX g Y own cc nL ret d) (hd : decode cc pc = .ok (.return_, 1)) (hrt : ret = none) (k : Q none σ)  : aW g Y nL Q pc lv [] σ := by
  obtain ⟨p, l, e, R, s, m, args, below, meth, c, D, dA, ad⟩ := g
  obtain ⟨hx, hb, hml, hr, hlk, hown, hts, hK, hD, hR, hN⟩ := hc
  intro H locs ls hP hS hl
  exact W.vret hx hb (hr.trans hrt) (fun t ht hW => ⟨⟨none, σ, rfl, k, by rw [ht]; exact hP⟩, hS.F ht⟩) hS.2.2 hd hlk
theorem st_aret {g : Gx} {Y : List Sh} {own : String} {cc : ByteArray} {nL : Nat} {ret : Option FieldType} {d : Nat} {Q : Option Value → St → Prop} {pc : Nat} {lv : List (Option Value)} {st : List Value} {σ : St} {x : Nat} {C : String} (hc : cX g Y own cc nL ret d) (hd : decode cc pc = .ok (.areturn, 1)) (hrt : ret = some (.object C)) (k : Q (some (.ref x)) σ)  : aW g Y nL Q pc lv [.ref x] σ := by
  obtain ⟨p, l, e, R, s, m, args, below, meth, c, D, dA, ad⟩ := g
  obtain ⟨hx, hb, hml, hr, hlk, hown, hts, hK, hD, hR, hN⟩ := hc
  intro H locs ls hP hS hl
  exact W.aret hx hb (hr.trans hrt) (Or.inl ⟨C, rfl⟩) (Or.inr ⟨_, rfl⟩) (fun t ht hW => ⟨⟨some (.ref x), σ, rfl, k, by rw [ht]; exact hP⟩, hS.F ht⟩) hS.2.2 hd hlk
/-! naming -/
theorem st_topi {g : Gx} {Y : List Sh} {nL : Nat} {Q : Option Value → St → Prop} {pc : Nat} {lv : List (Option Value)} {st : List Value} {σ : St} {x : Int32} (k : ∀ y : Int32, y = x → aW g Y nL Q pc lv (.int y :: st) σ) : aW g Y nL Q pc lv (.int x :: st) σ := k x rfl
theorem st_topl {g : Gx} {Y : List Sh} {nL : Nat} {Q : Option Value → St → Prop} {pc : Nat} {lv : List (Option Value)} {st : List Value} {σ : St} {x : Int64} (k : ∀ y : Int64, y = x → aW g Y nL Q pc lv (.long y :: st) σ) : aW g Y nL Q pc lv (.long x :: st) σ := k x rfl
theorem st_store {g : Gx} {Y : List Sh} {nL : Nat} {Q : Option Value → St → Prop} {pc : Nat} {lv : List (Option Value)} {st : List Value} {σ : St} (k : ∀ τ : St, τ = σ → aW g Y nL Q pc lv st τ) : aW g Y nL Q pc lv st σ := k σ rfl
theorem st_eqs {g : Gx} {Y : List Sh} {nL : Nat} {Q : Option Value → St → Prop} {pc : Nat} {lv : List (Option Value)} {st st' : List Value} {σ : St} (h : st = st') (k : aW g Y nL Q pc lv st' σ) : aW g Y nL Q pc lv st σ := h ▸ k
/-- locals may be forgotten -/
def lvle : List (Option Value) → List (Option Value) → Prop := fun a b => ∀ (i : Nat) (v : Value), b[i]? = some (some v) → a[i]? = some (some v)
theorem st_lv {g : Gx} {Y : List Sh} {nL : Nat} {Q : Option Value → St → Prop} {pc : Nat} {lv lv' : List (Option Value)} {st : List Value} {σ : St} (h : lvle lv lv') (k : aW g Y nL Q pc lv' st σ) : aW g Y nL Q pc lv st σ := by
  obtain ⟨p, l, e, R, s, m, args, below, meth, c, D, dA, ad⟩ := g
  intro H locs ls hP hS hl
  refine k H locs ls hP hS ⟨hl.1, hl.2.1, fun q hq => hl.2.2 q ?_⟩
  obtain ⟨i, v, h1, h2⟩ := (lvl_mem _ 0 q).mp hq
  exact (lvl_mem _ 0 q).mpr ⟨i, v, h i v h1, h2⟩
/-- a contract may say less -/
theorem cP_blind {D : va_G} {dA : Nat → ClassId} {ad : Nat → Nat} {Y : List Sh} {av : List Value} {σ : St} : FrameBlind (cP D dA ad Y av σ) := fun a U g mk q => by
  obtain ⟨q1, q2, q3, q4, q5⟩ := q
  exact ⟨q1, q2, va_K.moved (u := U) (U := U.calling g mk a) (Vm.Alike.refl U.vm) q3, q4, nK.same (s := U) (U := U.calling g mk a) rfl q5⟩
/-- FROM THE BODY TO THE CONTRACT -/
theorem Mt.ofA {Y : List Sh} {md : Md} {d : Nat} {av : List Value} {σ : St} {Q : Option Value → St → Prop} (lv0 : List (Option Value)) (hy : plainName md.1.cls = true) (hlen : ∀ ad : Nat → Nat, (lg_sl (av.map (cvv ad))).length ≤ md.2.2.1) (hlv : ∀ ad : Nat → Nat, lvl ad 0 lv0 = lv_args 0 (av.map (cvv ad)))
    (body : ∀ g : Gx, cX g Y md.1.cls md.2.1 md.2.2.1 md.2.2.2 d → aW g Y md.2.2.1 Q 0 lv0 [] σ) : Mt Y md d av σ Q := by
  intro l D dA ad
  refine Met.ofW (cc := md.2.1) (maxL := md.2.2.1) (ret := md.2.2.2) hy rfl ?_
  intro p e s m args below meth c s₁ B hml hv
  obtain ⟨rfl, hP, hK, hD0, hN⟩ := hv
  have hx := B.exec
  have hb := B.bytes
  have hr := B.returns
  have hts := atoms_spec (ws := Cond.code md.1 md.2.1 md.2.2.1 md.2.2.2 :: gw) B.pre
  have hown : s.vm.findClass md.1.cls = some m.cls := findClass_of_methodNamed B.named
  have hlocks := B.notSynchronized
  have hS : va_S (cA ad Y) s.heap s.heap [] := va_S.rf
  have hl := lv_entry (av.map (cvv ad)) (n := md.2.2.1) (hlen ad)
  rw [lg_entry_eq]
  rw [← hlv ad] at hl
  exact body (p, l, e, rmD d, s, m, (av.map (cvv ad)).toArray, below, meth, c, D, dA, ad) ⟨hx, hb, hml, hr, hlocks, hown, fun w hw => hts w (List.mem_cons_of_mem _ hw), hK, hD0, rfl, hN⟩ s.heap [] _ hP hS hl
theorem aW_run {p : Program} {l : Launch} {e : Env} {R : Room} {s : State} {m : MethodId} {args : Array Value} {below : List Frame} {meth : Method} {c : Code} {D : va_G} {dA : Nat → ClassId} {ad : Nat → Nat} {Y : List Sh} {nL : Nat} {Q P : Option Value → St → Prop} {pc : Nat} {lv : List (Option Value)} {rest : List Value} {H : Heap} {locs : List Loc} {ls : Array Slot} {st0 : List Value} {a : Array Value}
    (hr : va_Run p l e R s m args below meth c H locs 0 0 0 0 (F0 m pc ls st0) (rest.map (cvv ad)) (cQ D dA ad Y P a) (cA ad Y)) (hS : va_S (cA ad Y) s.heap H locs) (hl : lv_has ls nL (lvl ad 0 lv))
    (kk : ∀ (r : Option Value) (τ : St), P r τ → aW (p, l, e, R, s, m, args, below, meth, c, D, dA, ad) Y nL Q (pc + 3) lv (r.toList ++ rest) τ) : W p l e R s m args below meth c H locs 0 0 (MQ below (cQ D dA ad Y Q) args s 0 0 (cA ad Y)) (F0 m pc ls st0) := by
  intro T hT X
  obtain ⟨v, st₀, t, T', L, h0, X', hL, e1, e2, ⟨⟨r, τ, hv, hp, hb⟩, hz, hk⟩, stp⟩ := hr T hT X
  cases hv
  rw [h0] at hz hk
  have hS' : va_S (cA ad Y) s.heap T'.heap (locs ++ L) := ⟨Nat.le_trans hS.1 (by rw [e1]; exact hz), fun q h1 h2 => by rw [e1, hk q (Nat.lt_of_lt_of_le h1 hS.1) h2]; exact hS.2.1 q h1 h2, fun q hq => by
      rcases List.mem_append.mp hq with h | h
      · exact hS.2.2 q h
      · exact hL q h⟩
  obtain ⟨t2, a1, b1⟩ := kk r τ hp T'.heap (locs ++ L) ls (by rw [e1]; exact hb) hS' hl T' rfl X'
  refine ⟨t2, stp t2 ?_, b1⟩
  have he : (r.map (cvv ad)).toList ++ rest.map (cvv ad) = (r.toList ++ rest).map (cvv ad) := by cases r <;> simp
  show Steps p.tables e below (T'.setTop (F0 m (pc + 3) ls ((r.map (cvv ad)).toList ++ rest.map (cvv ad)))) t2
  rw [he]
  exact a1
/-- a method that entry idx of own's pool names: called on an object of class ci -/
def MLv (own : String) (idx ci : Nat) (md : Md) (n : Nat) : Prop := (∃ (T : u_T) (N : Nat), vwCl[ci]? = some (md.1.cls, T, N)) ∧ Cond.code md.1 md.2.1 md.2.2.1 md.2.2.2 ∈ gw ∧ Cond.initialized md.1.cls ∈ gw ∧ Cond.instanceMethod md.1 ∈ gw ∧ Cond.selects md.1.cls md.1 md.1 ∈ gw ∧ md.2.2.1 ≤ 45 ∧ (md.1.cls ≠ "java/lang/invoke/MethodHandle" ∧ md.1.cls ≠ "java/lang/invoke/VarHandle" ∧ (parseMethodDescriptor md.1.desc).map (fun d => d.parameters.length) = some n) ∧ (Cond.methodLink own idx md.1 ∈ gw ∨ ∃ host : String, Cond.methodLinkNest own idx md.1 host ∈ lw_tbl)
/-- .. a static one -/
def MLs (own : String) (idx : Nat) (md : Md) (n : Nat) : Prop := Cond.code md.1 md.2.1 md.2.2.1 md.2.2.2 ∈ gw ∧ Cond.initialized md.1.cls ∈ gw ∧ Cond.static md.1 ∈ gw ∧ md.2.2.1 ≤ 45 ∧ (md.1.cls ≠ "java/lang/invoke/MethodHandle" ∧ md.1.cls ≠ "java/lang/invoke/VarHandle" ∧ (parseMethodDescriptor md.1.desc).map (fun d => d.parameters.length) = some n) ∧ (Cond.methodLink own idx md.1 ∈ gw ∨ ∃ host : String, Cond.methodLinkNest own idx md.1 host ∈ lw_tbl)
theorem st_callV {g : Gx} {Y : List Sh} {own : String} {cc : ByteArray} {nL : Nat} {ret : Option FieldType} {d : Nat} {Q : Option Value → St → Prop} {pc : Nat} {lv : List (Option Value)} {σ : St} {idx ci d' n b : Nat} {md : Md} {As rest st0 : List Value} {fs : List (Option Nat)} {P : Option Value → St → Prop} (hc : cX g Y own cc nL ret d) (hdg : decode cc pc = .ok (.invokevirtual idx, 3)) (hM : Mt Y md d' (.ref b :: As) σ P) (hL : MLv own idx ci md n) (hdd : d' + 1 ≤ d) (hn : As.length = n) (hy : Y[b]? = some (.inr (ci, fs))) (hst : st0 = As.reverse ++ .ref b :: rest) (hw : (rest.map fun v => v.category).sum ≤ 8)
    (kk : ∀ (r : Option Value) (τ : St), P r τ → aW g Y nL Q (pc + 3) lv (r.toList ++ rest) τ) : aW g Y nL Q pc lv st0 σ := by
  obtain ⟨p, l, e, R, s, m, args, below, meth, c, D, dA, ad⟩ := g
  obtain ⟨hx, hb, hml, hr, hlk, hown, hts, hK, hD, hR, hN⟩ := id hc
  intro H locs ls hP hS hl
  obtain ⟨⟨T, N, h1⟩, h2, h3, h4, h5, h6, h7, h8⟩ := hL
  have hpre : PreV s H md.1.cls (ad b) (cP D dA ad Y (.ref b :: As) σ) (As.map (cvv ad)) := ⟨cP_blind, va_recv hK hP h1 (wW_at hy), fun U hU hW => ⟨rfl, by rw [hU]; exact hP, va_K.moved hW.alike hK, hD, hN.warm hW⟩⟩
  have hwr : ((rest.map (cvv ad)).map fun v => v.category).sum ≤ 8 := by
    rw [List.map_map]
    have : ((fun v : Value => v.category) ∘ cvv ad) = (fun v => v.category) := by funext v; exact cvv_cat ad v
    rw [this]; exact hw
  have hst' : st0.map (cvv ad) = (As.map (cvv ad)).reverse ++ .ref (ad b) :: rest.map (cvv ad) := by subst hst; simp [cvv]
  have hGd : GoodIn gw (Cond.code md.1 md.2.1 md.2.2.1 md.2.2.2 :: gw) := gw_good (fun w hw => by rcases List.mem_cons.mp hw with rfl | hw; exact h2; exact hw)
  have hRr : (rmD d').frames + 1 ≤ R.frames ∧ 8 + (md.2.2.1 + 11) + (rmD d').locals ≤ R.locals := by subst hR; simp only [rmD]; omega
  rcases h8 with h8 | ⟨host, h8⟩
  · refine aW_run (va_runV (As := As.map (cvv ad)) ⟨hx, hb, hml, hown, hts⟩ (hM l D dA ad) (cwV n hts (gw_good (fun w hw => ?_)) rfl rfl rfl ⟨rfl, h7⟩ hRr) hpre rfl (by rw [List.length_map]; exact hn) hl.1 hst' (lv_room hwr) hdg ⟨Nat.zero_le _, Nat.zero_le _⟩) hS hl kk
    rcases List.mem_append.mp hw with hw | hw
    · simp only [List.mem_cons, List.not_mem_nil, or_false] at hw
      rcases hw with rfl | rfl | rfl | rfl
      · exact h8
      · exact h4
      · exact h5
      · exact h3
    · exact (hGd w hw).1
  · exact aW_run (va_runVN (As := As.map (cvv ad)) (C := md.1.cls) ⟨hx, hb, hml, hown, hts⟩ (hM l D dA ad) ⟨va_cnB n hts hGd rfl rfl rfl (hN _ h8 rfl) (hts _ h3) h7 hRr, hts _ h4, hts _ h5⟩ hpre rfl (by rw [List.length_map]; exact hn) hl.1 hst' (lv_room hwr) hdg ⟨Nat.zero_le _, Nat.zero_le _⟩) hS hl kk
theorem st_callS {g : Gx} {Y : List Sh} {own : String} {cc : ByteArray} {nL : Nat} {ret : Option FieldType} {d : Nat} {Q : Option Value → St → Prop} {pc : Nat} {lv : List (Option Value)} {σ : St} {idx d' n : Nat} {md : Md} {As rest st0 : List Value} {P : Option Value → St → Prop} (hc : cX g Y own cc nL ret d) (hdg : decode cc pc = .ok (.invokestatic idx, 3)) (hM : Mt Y md d' As σ P) (hL : MLs own idx md n) (hdd : d' + 1 ≤ d) (hn : As.length = n) (hst : st0 = As.reverse ++ rest) (hw : (rest.map fun v => v.category).sum ≤ 8)
    (kk : ∀ (r : Option Value) (τ : St), P r τ → aW g Y nL Q (pc + 3) lv (r.toList ++ rest) τ) : aW g Y nL Q pc lv st0 σ := by
  obtain ⟨p, l, e, R, s, m, args, below, meth, c, D, dA, ad⟩ := g
  obtain ⟨hx, hb, hml, hr, hlk, hown, hts, hK, hD, hR, hN⟩ := id hc
  intro H locs ls hP hS hl
  obtain ⟨h2, h3, h4, h6, h7, h8⟩ := hL
  have hpre : PreS s H (cP D dA ad Y As σ) (As.map (cvv ad)) := ⟨cP_blind, fun U hU hW => ⟨rfl, by rw [hU]; exact hP, va_K.moved hW.alike hK, hD, hN.warm hW⟩⟩
  have hwr : ((rest.map (cvv ad)).map fun v => v.category).sum ≤ 8 := by
    rw [List.map_map]
    have : ((fun v : Value => v.category) ∘ cvv ad) = (fun v => v.category) := by funext v; exact cvv_cat ad v
    rw [this]; exact hw
  have hst' : st0.map (cvv ad) = (As.map (cvv ad)).reverse ++ rest.map (cvv ad) := by subst hst; simp
  have hGd : GoodIn gw (Cond.code md.1 md.2.1 md.2.2.1 md.2.2.2 :: gw) := gw_good (fun w hw => by rcases List.mem_cons.mp hw with rfl | hw; exact h2; exact hw)
  have hRr : (rmD d').frames + 1 ≤ R.frames ∧ 8 + (md.2.2.1 + 11) + (rmD d').locals ≤ R.locals := by subst hR; simp only [rmD]; omega
  rcases h8 with h8 | ⟨host, h8⟩
  · refine aW_run (va_runS (As := As.map (cvv ad)) ⟨hx, hb, hml, hown, hts⟩ (hM l D dA ad) (va_cwS n hts (gw_good (fun w hw => ?_)) rfl rfl rfl h7 hRr) hpre rfl (by rw [List.length_map]; exact hn) hl.1 hst' (lv_room hwr) hdg ⟨Nat.zero_le _, Nat.zero_le _⟩) hS hl kk
    rcases List.mem_append.mp hw with hw | hw
    · simp only [List.mem_cons, List.not_mem_nil, or_false] at hw
      rcases hw with rfl | rfl | rfl
      · exact h8
      · exact h4
      · exact h3
    · exact (hGd w hw).1
  · exact aW_run (va_runSN (As := As.map (cvv ad)) ⟨hx, hb, hml, hown, hts⟩ (hM l D dA ad) ⟨va_cnB n hts hGd rfl rfl rfl (hN _ h8 rfl) (hts _ h3) h7 hRr, hts _ h4, trivial⟩ hpre rfl (by rw [List.length_map]; exact hn) hl.1 hst' (lv_room hwr) hdg ⟨Nat.zero_le _, Nat.zero_le _⟩) hS hl kk

