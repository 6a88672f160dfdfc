/-! ===== calls of what may throw, by a link of nest mates ===== -/
section VXN
variable {p : Program} {l : Launch} {e : Env} {R : Room} {s : State} {m : MethodId} {args : Array Value} {below : List Frame} {meth : Method} {c : Code} {T : State} {H : Heap} {locs : List Loc} {cells slots : Nat}
theorem vn_callV (X : Stand p l e R s m args below meth c T locs cells slots) (hexec : p.tables.exec = Jvm.exec) {own C host : String} {index : Nat} {y : MethodName} {bytes : ByteArray} {maxL : Nat} {ret : Option FieldType}
    (hown : s.vm.findClass own = some m.cls) (hlink : (Cond.methodLinkNest own index y host).before args s = true) (hinst : (Cond.instanceMethod y).before args s = true) (hsel : (Cond.selects C y y).before args s = true)
    (hcode : (Cond.code y bytes maxL ret).before args s = true) (hy : y.cls ≠ "java/lang/invoke/MethodHandle" ∧ y.cls ≠ "java/lang/invoke/VarHandle")
    {W9 : Nat} {Pre : Pt → Array Value → Prop} {Post : Pt → Array Value → Option Value → Pt → Prop} {PostX : Pt → Array Value → Addr → Pt → Prop} (hK : vx_Back l R p e below s args y 3 W9 Pre Post PostX)
    {b : Addr} {cellB : Cell} (hcell : T.heap[b]? = some cellB) (hobj : cellB.vm.isStatics = false) (hcls : s.vm.findClass C = some cellB.cls)
    {g : JFrame} (hg : g.method = m) (hsize : g.locals.size = c.maxLocals) {argsL rest : List Value} (hlen : ∀ sig, parseMethodDescriptor y.desc = some sig → argsL.length = sig.parameters.length)
    (hstack : g.stack = argsL.reverse ++ .ref b :: rest) (hW : 2 * g.monitorRoom + (rest.map fun v => v.category).sum ≤ W9) (hdg : decode c.code g.pc = .ok (.invokevirtual index, 3))
    (hpre : ∀ vm₁, s.WarmedH vm₁ → Pre ⟨T.setVm vm₁, locs, cells, slots⟩ (Value.ref b :: argsL).toArray) :
    (∃ (v : Option Value) (vm₁ : Vm) (B : Pt), s.WarmedH vm₁ ∧ Stand p l e R s m args below meth c B.U B.locs B.cells B.slots ∧ Post ⟨T.setVm vm₁, locs, cells, slots⟩ (Value.ref b :: argsL).toArray v B ∧
      ∀ target, Steps p.tables e below (B.U.setTop { g with pc := g.pc + 3, stack := v.toList ++ rest }) target → Steps p.tables e below (T.setTop g) target) ∨
    (∃ (q : Addr) (vm₁ : Vm) (B : Pt), s.WarmedH vm₁ ∧ Stand p l e R s m args below meth c B.U B.locs B.cells B.slots ∧ PostX ⟨T.setVm vm₁, locs, cells, slots⟩ (Value.ref b :: argsL).toArray q B ∧
      Steps p.tables e below (T.setTop g) ((B.U.setTop { g with stack := rest }).pushFrame (.throwing q))) := by
  obtain ⟨mk, methM, hnamed, hmethM, hstM, habM⟩ := Cond.instanceMethod_spec hinst
  obtain ⟨methM', cM, hmethM', -, -, -, -, -, -, hsigM⟩ := Cond.code_spec hnamed hcode
  cases hmethM.symm.trans hmethM'
  obtain ⟨c2, r2, m2, q1, q2, q3, q4, kP, hkP, hkPi⟩ := Cond.selects_spec hsel
  cases hcls.symm.trans q1
  cases (State.methodFound?_of_named hnamed hy).symm.trans q2
  cases hnamed.symm.trans q3
  have hselP : selectMethod e.platform s.vm cellB.cls mk = .method mk := by rw [Launch.admits_selectMethod X.admits]; exact q4
  obtain ⟨vm₁, X₁, hstep₁⟩ := X.invokevirtualNest hexec hown hlink hnamed hmethM hstM hkP hkPi hy (a := b) (cell := cellB) hcell
    (fun z h => by rw [h] at hobj; cases hobj) hselP hmethM habM hkP hkPi (g := g) hg (argsL := argsL) (rest := rest) (hlen _ hsigM) hstack hdg
  rcases hK m meth c ⟨T.setVm vm₁, locs, cells, slots⟩ { g with stack := rest } (.invokevirtual index) mk (Value.ref b :: argsL).toArray X₁ hg hsize hdg hW (X₁.named hnamed) (hpre vm₁ X₁.warmed) with ⟨v, B, X', hpost, hsteps⟩ | ⟨q, B, X', hpost, hsteps⟩
  · exact Or.inl ⟨v, vm₁, B, X₁.warmed, X', hpost, fun target h => hstep₁ _ fun acts => by rw [doInvoke_state]; exact hsteps.trans h⟩
  · exact Or.inr ⟨q, vm₁, B, X₁.warmed, X', hpost, hstep₁ _ fun acts => by rw [doInvoke_state]; exact hsteps⟩
theorem vn_runV {y : MethodName} {bytes cc : ByteArray} {maxL nL mc ms n index : Nat} {ret : Option FieldType} {ws : List Cond} {rm : Room} {Pc : Array Value → State → Prop} {Qc : Array Value → State → Outcome → State → Prop} {XC : String → State → State → Prop} {free : Addr → Prop} {Ts : List Cond} {own C host : String} {b : Addr} {As rest : List Value} {g : JFrame}
    (S : CallFix p m c cc nL s args Ts own) (hM : vx_Met l y ws rm Pc Qc XC mc ms free) (cw : va_CN R s args own index y host bytes maxL ret ws rm mc ms n ∧ (Cond.instanceMethod y).before args s = true ∧ (Cond.selects C y y).before args s = true) (hp : PreV s H C b Pc As)
    (hg : g.method = m) (hn : As.length = n) (hsize : g.locals.size = nL) (hstack : g.stack = As.reverse ++ .ref b :: rest) (hW : 2 * g.monitorRoom + (rest.map fun v => v.category).sum ≤ 8) (hdg : decode cc g.pc = .ok (.invokevirtual index, 3)) (hf : cells + mc ≤ R.cells ∧ slots + ms ≤ R.slots) :
    vx_Run p l e R s m args below meth c H locs cells slots mc ms g rest (Qc (Value.ref b :: As).toArray) XC free := by
  obtain ⟨⟨⟨hrc, hrs, hfr, hlo, hws, hcw⟩, hcode, hini, hy, hlen, hl⟩, hx1, hx2⟩ := cw
  have hK : vx_Back l R p e below s args y 3 8 (PreOf R mc ms Pc) (PostOf Qc mc ms free) (vx_Post XC mc ms free) := vx_back (bytes := bytes) (maxL := maxL) (ret := ret) hM hp.1 hrc hrs hfr hlo hws hcw (fun a' U hW => word_at hW (Or.inl (by first | rfl | simp [Cond.onTables, Cond.keeps, Cond.steady])) hini)
  obtain ⟨hx, hb, hml, ho, -⟩ := S
  obtain ⟨-, ⟨cellB, hcB, hoB, hclB⟩, hPc⟩ := hp
  intro T hT X
  rcases vn_callV X hx (C := C) (bytes := bytes) (maxL := maxL) (ret := ret) ho hl hx1 hx2 hcode hy hK (by rw [hT]; exact hcB) hoB hclB hg (hsize.trans hml.symm) (argsL := As) (rest := rest) (fun sig h => hn.trans (hlen sig h)) hstack hW (by rw [hb]; exact hdg)
    (fun vm₁ hW₁ => ⟨hf.1, hf.2, hPc (T.setVm vm₁) hT hW₁⟩) with ⟨v, vm₁, ⟨U', l2, c2, s2⟩, hW₁, X', ⟨g', mk, t, L, e1, e2, hq, h1, hL, h2, h3⟩, st⟩ | ⟨q, vm₁, ⟨U', l2, c2, s2⟩, hW₁, X', ⟨g', mk, t, L, E, ce, e1, e2, hq, hce, hcv, hcl, h1, hL, h2, h3⟩, st⟩
  · dsimp only [Pt.U, Pt.locs, Pt.cells, Pt.slots] at X' e1 e2 h1 h2 h3 st
    subst h1; subst h2; subst h3
    exact Or.inl ⟨v, (T.setVm vm₁).calling g' mk (Value.ref b :: As).toArray, t, U', L, hT, X', hL, e1, e2, hq, st⟩
  · dsimp only [Pt.U, Pt.locs, Pt.cells, Pt.slots] at X' e1 e2 h1 h2 h3 st hcl
    subst h1; subst h2; subst h3
    exact Or.inr ⟨q, (T.setVm vm₁).calling g' mk (Value.ref b :: As).toArray, t, U', L, E, ce, hT, X', hL, e1, e2, hq, hce, hcv, vx_cls hW₁ hcl, st⟩
end VXN
/-- where q of the class E is being thrown -/
def bxW (g : Gx) (Y : List Sh) (nL : Nat) (Z : State → Prop) (nc ns : Nat) (pc : Nat) (lv : List (Option Value)) (rest : List Value) (σ : St) (E : String) : Prop := match g with
  | (p, l, e, R, s, m, args, below, meth, c, D, dA, ad) => ∀ (H : Heap) (locs : List Loc) (ls : Array Slot) (ce : Cell) (q : Nat), va_P D vwCl (wW dA ad σ 0 Y) H → va_S (cA ad Y) s.heap H locs → lv_has ls nL (lvl ad 0 lv) → H[q]? = some ce → ce.vm = .none → s.vm.findClass E = some ce.cls →
      vx_W p l e R s m args below meth c H locs nc ns Z (F0 m pc ls (rest.map (cvv ad))) q
def gTl (g : Gx) (Y : List Sh) : Prop := match g with
  | (_, l, _, _, s, _, _, _, _, _, _, _, ad) => l.stackTraces = false ∧ tK ad Y s
theorem tK.warm {ad : Nat → Nat} {Y : List Sh} {s U : State} {H : Heap} {locs : List Loc} (hW : s.WarmedH U.vm) (hU : U.heap = H) (hS : va_S (cA ad Y) s.heap H locs) (h : tK ad Y s) : tK ad Y U := by
  obtain ⟨⟨a1, h1⟩, ⟨a2, h2⟩, ⟨a3, h3⟩, ⟨a4, h4⟩, h5, h6, h7⟩ := h
  exact ⟨⟨a1, h1.warm hW⟩, ⟨a2, h2.warm hW⟩, ⟨a3, h3.warm hW⟩, ⟨a4, h4.warm hW⟩, (h5.moved hW.alike).kept (fun a ha hb => by rw [hU]; exact hS.2.1 a ha hb), (h6.moved hW.alike).kept (fun a ha hb => by rw [hU]; exact hS.2.1 a ha hb), h7.warm hW⟩
theorem tK.same {ad : Nat → Nat} {Y : List Sh} {s U : State} (hv : U.vm = s.vm) (hh : U.heap = s.heap) (h : tK ad Y s) : tK ad Y U := by
  obtain ⟨⟨a1, h1⟩, ⟨a2, h2⟩, ⟨a3, h3⟩, ⟨a4, h4⟩, h5, h6, h7⟩ := h
  have ha : s.vm.Alike U.vm := by rw [hv]; exact Vm.Alike.refl _
  exact ⟨⟨a1, h1.same hv⟩, ⟨a2, h2.same hv⟩, ⟨a3, h3.same hv⟩, ⟨a4, h4.same hv⟩, by rw [hh]; exact h5.moved ha, by rw [hh]; exact h6.moved ha, h7.same hv.symm⟩
theorem tP_blind {D : va_G} {dA : Nat → ClassId} {ad : Nat → Nat} {Y : List Sh} {av : List Value} {σ : St} : FrameBlind (fun v U => cP D dA ad Y av σ v U ∧ tK ad Y U) := fun a U g mk q => ⟨cP_blind a U g mk q.1, tK.same (s := U) (U := U.calling g mk a) rfl rfl q.2⟩
theorem bx_run {p : Program} {l : Launch} {e : Env} {R : Room} {s : State} {m : MethodId} {args : Array Value} {below : List Frame} {meth : Method} {c : Code} {D : va_G} {dA : Nat → ClassId} {ad : Nat → Nat} {Y : List Sh} {nL : Nat} {P : Option Value → St → Prop} {X : String → Prop} {Z : State → Prop} {nc ns mc ms pc : Nat} {lv : List (Option Value)} {rest : List Value} {H : Heap} {locs : List Loc} {ls : Array Slot} {st0 : List Value} {a : Array Value} {σ : St}
    (hr : vx_Run p l e R s m args below meth c H locs nc ns mc ms (F0 m pc ls st0) (rest.map (cvv ad)) (cQ D dA ad Y P a) (xC D dA ad Y σ X) (cA ad Y)) (hS : va_S (cA ad Y) s.heap H locs) (hl : lv_has ls nL (lvl ad 0 lv))
    (kx : ∀ E, X E → bxW (p, l, e, R, s, m, args, below, meth, c, D, dA, ad) Y nL Z (nc + mc) (ns + ms) pc lv rest σ E)
    (kk : ∀ (r : Option Value) (τ : St), P r τ → bW (p, l, e, R, s, m, args, below, meth, c, D, dA, ad) Y nL Z (nc + mc) (ns + ms) (pc + 3) lv (r.toList ++ rest) τ) : W p l e R s m args below meth c H locs nc ns Z (F0 m pc ls st0) := by
  intro T hT X0
  have keep : ∀ {st₀ t T' : State} {L : List Loc}, st₀.heap = H → T'.heap = t.heap → (∀ q ∈ L, cA ad Y q.base) → va_F (cA ad Y) st₀ t → va_S (cA ad Y) s.heap T'.heap (locs ++ L) := by
    intro st₀ t T' L h0 e1 hL hF
    exact (vx_keep h0 e1 hS (fun _ _ h => h) (fun _ h => h) hL hF).2.2
  rcases hr T hT X0 with ⟨v, st₀, t, T', L, h0, X', hL, e1, e2, ⟨⟨r, τ, hv, hp, hb⟩, hF⟩, stp⟩ | ⟨q, st₀, t, T', L, E, ce, h0, X', hL, e1, e2, ⟨hE, hb, hF⟩, hce, hcv, hcl, stp⟩
  · cases hv
    obtain ⟨t2, a1, b1⟩ := kk r τ hp T'.heap (locs ++ L) ls (by rw [e1]; exact hb) (keep h0 e1 hL hF) hl T' rfl X'
    refine ⟨t2, stp t2 ?_, b1⟩
    have he : (r.map (cvv ad)).toList ++ rest.map (cvv ad) = (r.toList ++ rest).map (cvv ad) := by cases r <;> simp
    show Steps p.tables e below (T'.setTop (F0 m (pc + 3) ls ((r.map (cvv ad)).toList ++ rest.map (cvv ad)))) t2
    rw [he]
    exact a1
  · obtain ⟨t2, a1, b1⟩ := kx E hE T'.heap (locs ++ L) ls ce q (by rw [e1]; exact hb) (keep h0 e1 hL hF) hl (by rw [e1]; exact hce) hcv hcl T' rfl X'
    exact ⟨t2, stp.trans a1, b1⟩
theorem bt_vcallV {g : Gx} {Y : List Sh} {own : String} {cc : ByteArray} {nL : Nat} {ret : Option FieldType} {d : Nat} {Z : State → Prop} {nc ns : Nat} {pc : Nat} {lv : List (Option Value)} {σ : St} {idx ci d' mc ms n b : Nat} {md : Md} {As rest st0 : List Value} {fs : List (Option Nat)} {P : Option Value → St → Prop} {X : String → Prop} (hc : bX g Y own cc nL ret d) (hg : gTl g Y) (hcl : nc + mc ≤ g.2.2.2.1.cells ∧ ns + ms ≤ g.2.2.2.1.slots) (hdg : decode cc pc = .ok (.invokevirtual idx, 3)) (hM : vMt Y md d' mc ms (.ref b :: As) σ P X) (hL : MLv own idx ci md n) (hdd : d' + 1 ≤ d) (hn : As.length = n) (hy : Y[b]? = some (.inr (ci, fs))) (hst : st0 = As.reverse ++ .ref b :: rest) (hw : (rest.map fun v => v.category).sum ≤ 8)
    (kx : ∀ E, X E → bxW g Y nL Z (nc + mc) (ns + ms) pc lv rest σ E)
    (kk : ∀ (r : Option Value) (τ : St), P r τ → bW g Y nL Z (nc + mc) (ns + ms) (pc + 3) lv (r.toList ++ rest) τ) : bW g Y nL Z nc ns pc lv st0 σ := by
  obtain ⟨p, l, e, R, s, m, args, below, meth, c, D, dA, ad⟩ := g
  obtain ⟨hx, hb, hml, hr, hlk, hown, hts, hK, hD, hR, hN⟩ := id hc
  intro H locs ls hP hS hl
  obtain ⟨⟨T0, N0, h1⟩, h2, h3, h4, h5, h6, h7, h8⟩ := hL
  obtain ⟨hlt, hTk⟩ := hg
  have hpre : PreV s H md.1.cls (ad b) (fun v U => cP D dA ad Y (.ref b :: As) σ v U ∧ tK ad Y U) (As.map (cvv ad)) := ⟨tP_blind, va_recv hK hP h1 (wW_at hy), fun U hU hW => ⟨⟨rfl, by rw [hU]; exact hP, va_K.moved hW.alike hK, hD, hN.warm hW⟩, tK.warm hW hU hS hTk⟩⟩
  have hwr : ((rest.map (cvv ad)).map fun v => v.category).sum ≤ 8 := by
    rw [List.map_map]
    have : ((fun v : Value => v.category) ∘ cvv ad) = (fun v => v.category) := by funext v; exact cvv_cat ad v
    rw [this]; exact hw
  have hst' : st0.map (cvv ad) = (As.map (cvv ad)).reverse ++ .ref (ad b) :: rest.map (cvv ad) := by subst hst; simp [cvv]
  have hGd : GoodIn gw (Cond.code md.1 md.2.1 md.2.2.1 md.2.2.2 :: gw) := gw_good (fun w hw => by rcases List.mem_cons.mp hw with rfl | hw; exact h2; exact hw)
  have hRr : (rmE d' mc ms).frames + 1 ≤ R.frames ∧ 8 + (md.2.2.1 + 11) + (rmE d' mc ms).locals ≤ R.locals := by obtain ⟨r1, r2⟩ := hR; simp only [rmE]; omega
  rcases h8 with h8 | ⟨host, h8⟩
  · refine bx_run (vx_runV (As := As.map (cvv ad)) ⟨hx, hb, hml, hown, hts⟩ (hM l hlt D dA ad) (cwV n hts (gw_good (fun w hw => ?_)) rfl rfl rfl ⟨rfl, h7⟩ hRr) hpre rfl (by rw [List.length_map]; exact hn) hl.1 hst' (lv_room hwr) hdg hcl) hS hl kx kk
    rcases List.mem_append.mp hw with hw | hw
    · simp only [List.mem_cons, List.not_mem_nil, or_false] at hw
      rcases hw with rfl | rfl | rfl | rfl
      · exact h8
      · exact h4
      · exact h5
      · exact h3
    · exact (hGd w hw).1
  · exact bx_run (vn_runV (As := As.map (cvv ad)) (C := md.1.cls) ⟨hx, hb, hml, hown, hts⟩ (hM l hlt D dA ad) ⟨va_cnB n hts hGd rfl rfl rfl (hN _ h8 rfl) (hts _ h3) h7 hRr, hts _ h4, hts _ h5⟩ hpre rfl (by rw [List.length_map]; exact hn) hl.1 hst' (lv_room hwr) hdg hcl) hS hl kx kk
theorem lvl_keep {ad : Nat → Nat} {lv : List (Option Value)} {ls : Array Slot} {nL i : Nat} {v : Value} (hi : lv.getD i none = none) (hok : lvok lv i = true) (h : lv_has ls nL ((i, v) :: (lvl ad 0 lv).filter (fun q => !(q.1 == i) && !(q.1 + 1 == i && q.2.category == 2)))) : lv_has ls nL (lvl ad 0 lv) := by
  refine ⟨h.1, h.2.1, fun q hq => h.2.2 q (List.mem_cons_of_mem _ (List.mem_filter.mpr ⟨hq, ?_⟩))⟩
  obtain ⟨j, w, hj, rfl⟩ := (lvl_mem _ 0 q).mp hq
  simp only [Nat.zero_add]
  have h1 : ¬ j = i := fun e => by
    subst e
    rw [List.getD_eq_getElem?_getD, hj] at hi
    cases hi
  have h2 : ¬ (j + 1 = i ∧ (cvv ad w).category = 2) := fun e => by
    obtain ⟨e1, e2⟩ := e
    subst e1
    rw [cvv_cat] at e2
    unfold lvok at hok
    simp only [hj] at hok
    cases w <;> simp [Value.category] at e2 hok
  simp only [Bool.and_eq_true, Bool.not_eq_true', beq_eq_false_iff_ne, ne_eq, Bool.and_eq_false_iff]
  refine ⟨h1, ?_⟩
  by_cases q : j + 1 = i
  · exact Or.inr (fun z => h2 ⟨q, z⟩)
  · exact Or.inl q
/-- caught by the row x, and laid aside in a local that nothing else stands in -/
theorem bt_catch {g : Gx} {Y : List Sh} {own : String} {cc : ByteArray} {nL : Nat} {ret : Option FieldType} {d : Nat} {Z : State → Prop} {nc ns : Nat} {pc : Nat} {lv : List (Option Value)} {rest : List Value} {σ : St} {E name : String} {i : Nat} (hc : bX g Y own cc nL ret d) (pre : List ExceptionTableEntry) (x : ExceptionTableEntry) (suf : List ExceptionTableEntry) (hsplit : g.2.2.2.2.2.2.2.2.2.1.exceptionTable.toList = pre ++ x :: suf)
    (hpass : ∀ z ∈ pre, covers z pc = false ∨ (z.catchType ≠ 0 ∧ ∃ nm : String, (Cond.classLink own z.catchType nm) ∈ gw ∧ va_Nc E nm g.2.2.2.2.1)) (hx : covers x pc = true) (h0 : x.catchType ≠ 0)
    (hlink : (Cond.classLink own x.catchType name) ∈ gw) (hcast : (Cond.castable E name) ∈ lw_tbl) (hdk : dK g.2.2.2.2.1) (hd : decode cc x.handlerPc = .ok (.astore i, 2)) (hn : i < nL) (hi : lv.getD i none = none) (hok : lvok lv i = true)
    (k : bW g Y nL Z nc ns (x.handlerPc + 2) lv [] σ) : bxW g Y nL Z nc ns pc lv rest σ E := by
  obtain ⟨p, l, e, R, s, m, args, below, meth, c, D, dA, ad⟩ := g
  obtain ⟨hx1, hb, hml, hr, hlk, hown, hts, hK, hD, hR, hN⟩ := hc
  intro H locs ls ce q hP hS hl hcell hv hcl
  refine vx_catch hown pre x suf hsplit (fun z hz => ?_) hx h0 (hts _ hlink) (hdk.use hts ⟨hcast, rfl⟩) hcell hv hcl ?_
  · rcases hpass z hz with h | ⟨h, nm, h2, h3⟩
    · exact Or.inl h
    · exact Or.inr ⟨h, nm, hts _ h2, h3⟩
  · exact lv_astore hx1 hb hd hl hn rfl (fun ls' hl' => k H locs ls' hP hS (lvl_keep hi hok hl'))
/-- A CONTRACT of a method with handlers, that returns -/
def hMt (Y : List Sh) (md : Md) (hh : List (Nat × Nat × Nat × Nat)) (d mc ms : Nat) (av : List Value) (σ : St) (Q : Option Value → St → Prop) : Prop :=
  ∀ (l : Launch), l.stackTraces = false → ∀ (D : va_G) (dA : Nat → ClassId) (ad : Nat → Nat), vx_Met l md.1 (.codeWith md.1 md.2.1 md.2.2.1 md.2.2.2 hh :: gw) (rmE d mc ms) (fun v U => cP D dA ad Y av σ v U ∧ tK ad Y U) (cQ D dA ad Y Q) (fun _ _ _ => False) mc ms (cA ad Y)
def gTh (g : Gx) (Y : List Sh) (hh : List (Nat × Nat × Nat × Nat)) (mc ms : Nat) : Prop := match g with
  | (_, l, _, R, s, _, _, _, _, c, _, _, ad) => l.stackTraces = false ∧ tK ad Y s ∧ c.exceptionTable.toList = tableOf hh ∧ R.cells = mc ∧ R.slots = ms
theorem hMt.ofB {Y : List Sh} {md : Md} {hh : List (Nat × Nat × Nat × Nat)} {d mc ms : Nat} {av : List Value} {σ : St} {Q : Option Value → St → Prop} (lv0 : List (Option Value)) (hy : plainName md.1.cls = true) (hlen : ∀ ad : Nat → Nat, (lg_sl (av.map (cvv ad))).length ≤ md.2.2.1) (hlv : ∀ ad : Nat → Nat, lvl ad 0 lv0 = lv_args 0 (av.map (cvv ad)))
    (body : ∀ g : Gx, bX g Y md.1.cls md.2.1 md.2.2.1 md.2.2.2 d → gTh g Y hh mc ms → bW g Y md.2.2.1 (vZ g Y Q (fun _ _ _ => False) mc ms) 0 0 0 lv0 [] σ) : hMt Y md hh d mc ms av σ Q := by
  intro l hlt D dA ad
  refine vx_ofWH (cc := md.2.1) (maxL := md.2.2.1) (ret := md.2.2.2) (hh := hh) hy rfl ?_
  intro p e s m args below meth c s₁ B hml hv
  obtain ⟨⟨rfl, hP, hK, hD0, hN⟩, hT⟩ := hv
  have hx := B.exec
  have hb := B.bytes
  have hr := B.returns
  have hts := atoms_spec (ws := Cond.codeWith md.1 md.2.1 md.2.2.1 md.2.2.2 hh :: gw) B.pre
  have htb := vx_table (x := md.1) B (hts _ List.mem_cons_self)
  have hown : s.vm.findClass md.1.cls = some m.cls := findClass_of_methodNamed B.named
  have hlocks := B.notSynchronized
  have hS : va_S (cA ad Y) s.heap s.heap [] := va_S.rf
  have hl := lv_entry (av.map (cvv ad)) (n := md.2.2.1) (hlen ad)
  rw [lg_entry_eq]
  rw [← hlv ad] at hl
  exact body (p, l, e, rmE d mc ms, s, m, (av.map (cvv ad)).toArray, below, meth, c, D, dA, ad) ⟨hx, hb, hml, hr, hlocks, hown, fun w hw => hts w (List.mem_cons_of_mem _ hw), hK, hD0, ⟨Nat.le_refl _, Nat.le_refl _⟩, hN⟩ ⟨hlt, hT, htb, rfl, rfl⟩ s.heap [] _ hP hS hl
