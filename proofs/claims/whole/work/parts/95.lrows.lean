/-! ===== the law: both worlds side by side, and a row of one long ===== -/
def lP (D : va_G) (dA : Nat → ClassId) (a b o : Nat) (σ μ : St) (w : Nat → Int32) : Heap → Prop := fun H => va_P D vwCl (wW dA (adC a) σ 0 YC) H ∧ va_P D vwCl (wW dA (adM b) μ 0 YM) H ∧ va_P D vwCl (wW dA (fun _ => o) (fun _ => w) 0 [.inl (2, 1, [])]) H
def gS (g : Gx) : State := match g with
  | (_, _, _, _, s, _, _, _, _, _, _, _, _) => s
def gl (g : Gx) : Launch := match g with
  | (_, l, _, _, _, _, _, _, _, _, _, _, _) => l
def lA (g : Gx) : Nat → Prop := fun q => (gS g).heap.size ≤ q
def tKs (s : State) : Prop := (∃ sa, vk_R RX7 49 "the failure of a kept guess" sa s) ∧ (∃ sa, vk_R RX11 359 "no such shelf" sa s) ∧ (∃ sa, vk_R RX11 366 "no row is on the shelf" sa s) ∧ (∃ sa, vk_R RX11 369 "the row has no such place" sa s) ∧ vx_Zq Bundle.tN "UNASSIGNED_STACK" Bundle.steD (fun q => s.heap.size ≤ q) s s.heap ∧ vx_Zq Bundle.tN "SUPPRESSED_SENTINEL" Bundle.listD (fun q => s.heap.size ≤ q) s s.heap ∧ dK s
theorem tKs.to {s U : State} {H : Heap} {locs : List Loc} {ad : Nat → Nat} {Y : List Sh} (hW : s.WarmedH U.vm) (hU : U.heap = H) (hS : va_S (fun q => s.heap.size ≤ q) s.heap H locs) (hsub : ∀ q, cA ad Y q → s.heap.size ≤ q) (h : tKs s) : tK ad Y U := by
  obtain ⟨⟨a1, h1⟩, ⟨a2, h2⟩, ⟨a3, h3⟩, ⟨a4, h4⟩, h5, h6, h7⟩ := h
  exact ⟨⟨a1, h1.warm hW⟩, ⟨a2, h2.warm hW⟩, ⟨a3, h3.warm hW⟩, ⟨a4, h4.warm hW⟩, (((h5.moved hW.alike).kept (fun a ha hb => by rw [hU]; exact hS.2.1 a ha hb)).narrow hsub), (((h6.moved hW.alike).kept (fun a ha hb => by rw [hU]; exact hS.2.1 a ha hb)).narrow hsub), h7.warm hW⟩
/-- what the walk of the law stands on -/
def lC (g : Gx) (b0 L : Nat) (xs : Nat → Int32) (a b o : Nat) : Prop := gX g RL cL_law 7 ret 72 ∧ (va_X b0 L xs (gS g) (gS g).heap ∧ b0 < (gS g).heap.size ∧ L ≤ 3072) ∧ ((gS g).heap.size ≤ a ∧ a + 74 ≤ b ∧ b + 39 ≤ o) ∧ gR g = room_1 ∧ (gl g).stackTraces = false ∧ tKs (gS g)
theorem adC_lt {a k : Nat} (h : k < 74) : adC a k < a + 74 := by
  have hd : ∀ i : Fin 74, piC.getD i i < 74 := by decide +kernel
  have := hd ⟨k, h⟩
  unfold adC
  exact Nat.add_lt_add_left this a
theorem cA_C {a q : Nat} (h : cA (adC a) YC q) : a ≤ q ∧ q < a + 74 := by
  obtain ⟨k, hk, rfl⟩ := h
  exact ⟨adC_ge a k, adC_lt hk⟩
theorem cA_M {b q : Nat} (h : cA (adM b) YM q) : b ≤ q ∧ q < b + 39 := by
  obtain ⟨k, hk, rfl⟩ := h
  have hk : k < 39 := hk
  unfold adM
  omega
/-- a world that a call leaves as it was -/
theorem va_P.far {D : va_G} {dA : Nat → ClassId} {ad : Nat → Nat} {σ : St} {Y : List Sh} {H H1 : Heap} {A : Nat → Prop} (h : va_P D vwCl (wW dA ad σ 0 Y) H) (hk : ∀ q, q < H.size → ¬ A q → H1[q]? = H[q]?) (hA : ∀ k, k < Y.length → ¬ A (ad k)) : va_P D vwCl (wW dA ad σ 0 Y) H1 := by
  refine h.kept (fun k x hx => ?_)
  have hlt := (h k x hx).lt
  rw [wW_get] at hx
  obtain ⟨y, hy, rfl⟩ := Option.map_eq_some_iff.mp hx
  rw [Nat.zero_add] at hlt ⊢
  exact hk _ hlt (hA k (List.getElem?_eq_some_iff.mp hy).1)
theorem lt_run {p : Program} {l : Launch} {e : Env} {R : Room} {s : State} {m : MethodId} {args : Array Value} {below : List Frame} {meth : Method} {c : Code} {D : va_G} {dA : Nat → ClassId} {ad : Nat → Nat} {Y : List Sh} {P : Option Value → St → Prop} {Z : State → Prop} {nc ns mc ms pc : Nat} {lv : List (Option Value)} {rest : List Value} {H : Heap} {locs : List Loc} {ls : Array Slot} {st0 : List Value} {av : Array Value} {F : St → Heap → Prop}
    (hr : va_Run p l e R s m args below meth c H locs nc ns mc ms (F0 m pc ls st0) rest (cQ D dA ad Y P av) (cA ad Y)) (hS : va_S (fun q => s.heap.size ≤ q) s.heap H locs) (hsub : ∀ q, cA ad Y q → s.heap.size ≤ q) (hl : lv_has ls 7 (lvl (fun k => k) 0 lv))
    (hF : ∀ (τ : St) (H1 : Heap), va_P D vwCl (wW dA ad τ 0 Y) H1 → (∀ q, q < H.size → ¬ cA ad Y q → H1[q]? = H[q]?) → F τ H1)
    (kk : ∀ (r : Option Value) (τ : St), P r τ → gW (p, l, e, R, s, m, args, below, meth, c, D, dA, fun k => k) 7 Z (nc + mc) (ns + ms) (fun q => s.heap.size ≤ q) (pc + 3) lv ((r.map (cvv ad)).toList ++ rest) (F τ)) : W p l e R s m args below meth c H locs nc ns Z (F0 m pc ls st0) := by
  intro T hT X
  obtain ⟨v, st₀, t, T', L, h0, X', hL, e1, e2, ⟨⟨r, τ, hv, hp, hb⟩, hz, hk⟩, stp⟩ := hr T hT X
  cases hv
  rw [h0] at hz hk
  have hS' : va_S (fun q => s.heap.size ≤ q) s.heap T'.heap (locs ++ L) := ⟨Nat.le_trans hS.1 (by rw [e1]; exact hz), fun q h1 h2 => by rw [e1, hk q (Nat.lt_of_lt_of_le h1 hS.1) (fun z => h2 (hsub q z))]; exact hS.2.1 q h1 h2, fun q hq => by
      rcases List.mem_append.mp hq with h | h
      · exact hS.2.2 q h
      · exact hsub _ (hL q h)⟩
  obtain ⟨t2, a1, b1⟩ := kk r τ hp T'.heap (locs ++ L) ls (by rw [e1]; exact hF τ t.heap hb hk) hS' hl T' rfl X'
  refine ⟨t2, stp t2 ?_, b1⟩
  rw [cvv_idm] at a1
  exact a1
theorem vx_Run.va {p : Program} {l : Launch} {e : Env} {R : Room} {s : State} {m : MethodId} {args : Array Value} {below : List Frame} {meth : Method} {c : Code} {H : Heap} {locs : List Loc} {cells slots mc ms : Nat} {g : JFrame} {rest : List Value} {Qa : State → Outcome → State → Prop} {free : Addr → Prop} (h : vx_Run p l e R s m args below meth c H locs cells slots mc ms g rest Qa (fun _ _ _ => False) free) : va_Run p l e R s m args below meth c H locs cells slots mc ms g rest Qa free := by
  intro T hT X
  rcases h T hT X with h | ⟨q, st₀, t, T', L, E, ce, -, -, -, -, -, hf, -⟩
  · exact h
  · exact hf.elim
theorem lt_C {g : Gx} {b0 L : Nat} {xs : Nat → Int32} {a b o : Nat} {Z : State → Prop} {nc ns pc : Nat} {lv : List (Option Value)} {idx d' n : Nat} {md : Md} {As rest st0 : List Value} {σ μ : St} {w : Nat → Int32} {v : Int32} {RC : St → Prop} (hlc : lC g b0 L xs a b o) (hcl : nc ≤ 601024 ∧ ns ≤ 7293033) (hd : decode cL_law pc = .ok (.invokevirtual idx, 3)) (hM : Mt YC md d' (.ref 0 :: As) σ (fun r τ => r = some (.int v) ∧ RC τ)) (hL : MLv RL idx 11 md n) (hdd : d' + 1 ≤ 72) (hn : As.length = n) (hAs : ∀ f, As.map (cvv f) = As) (hst : st0 = As.reverse ++ .ref a :: rest) (hw : (rest.map fun v => v.category).sum ≤ 8)
    (kk : ∀ τ, RC τ → gW g 7 Z nc ns (lA g) (pc + 3) lv (.int v :: rest) (lP (gD g) (gdA g) a b o τ μ w)) : gW g 7 Z nc ns (lA g) pc lv st0 (lP (gD g) (gdA g) a b o σ μ w) := by
  obtain ⟨p, l, e, R, s, m, args, below, meth, c, D, dA, ad⟩ := g
  obtain ⟨hc, ⟨hX, hb0, hL0⟩, ⟨ha1, ha2, ha3⟩, hRm, hlt, hTk⟩ := hlc
  obtain ⟨hx, hb, hml, hrt, hlk, hown, hts, hK, hD, hR, hN⟩ := id hc
  subst hD
  have hRm : R = room_1 := hRm
  subst hRm
  intro H locs ls hP hS hl
  obtain ⟨hPC, hPM, hPO⟩ := hP
  obtain ⟨⟨T0, N0, h1⟩, h2, h3, h4, h5, h6, h7, h8⟩ := hL
  have hpre : PreV s H md.1.cls a (cP D dA (adC a) YC (.ref 0 :: As) σ) As := ⟨cP_blind, va_recv hK hPC h1 (wW_at (k := 0) (σ := σ) (ad := adC a) (dA := dA) yc0), fun U hU hW => ⟨by rw [List.map_cons, hAs]; rfl, by rw [hU]; exact hPC, va_K.moved hW.alike hK, adC_inj a, hN.warm hW⟩⟩
  have hst' : st0.map (cvv (fun k => k)) = As.reverse ++ .ref a :: rest := by rw [cvv_idm]; exact hst
  have hGd : GoodIn gw (Cond.code md.1 md.2.1 md.2.2.1 md.2.2.2 :: gw) := gw_good (fun w hw => by rcases List.mem_cons.mp hw with rfl | hw; exact h2; exact hw)
  have hRr : (rmD d').frames + 1 ≤ room_1.frames ∧ 8 + (md.2.2.1 + 11) + (rmD d').locals ≤ room_1.locals := by obtain ⟨r1, r2⟩ := hR; simp only [rmD, room_1]; omega
  have hsub : ∀ q, cA (adC a) YC q → s.heap.size ≤ q := fun q hq => Nat.le_trans ha1 (cA_C hq).1
  have fin : ∀ {av : Array Value}, va_Run p l e room_1 s m args below meth c H locs nc ns 0 0 (F0 m pc ls (st0.map (cvv (fun k => k)))) rest (cQ D dA (adC a) YC (fun r τ => r = some (.int v) ∧ RC τ) av) (cA (adC a) YC) → W p l e room_1 s m args below meth c H locs nc ns Z (F0 m pc ls (st0.map (cvv (fun k => k)))) := by
    intro av hr
    refine lt_run (F := fun τ => lP D dA a b o τ μ w) hr hS hsub hl (fun τ H1 hP1 hk => ⟨hP1, hPM.far hk (fun k hk z => ?_), hPO.far hk (fun k hk z => ?_)⟩) (fun r τ hp => ?_)
    · have h9 := cA_C z
      unfold adM at h9
      omega
    · have h9 := cA_C z
      omega
    · obtain ⟨rfl, hp⟩ := hp
      exact kk τ hp
  rcases h8 with h8 | ⟨host, h8⟩
  · refine fin (va_runV (As := As) ⟨hx, hb, hml, hown, hts⟩ (hM l D dA (adC a)) (cwV n hts (gw_good (fun w hw => ?_)) rfl rfl rfl ⟨rfl, h7⟩ hRr) hpre rfl hn hl.1 hst' (lv_room hw) hd ⟨by show nc + 0 ≤ 601024; omega, by show ns + 0 ≤ 7293033; omega⟩)
    rcases List.mem_append.mp hw with hw | hw
    · simp only [List.mem_cons, List.not_mem_nil, or_false] at hw
      rcases hw with rfl | rfl | rfl | rfl
      · exact h8
      · exact h4
      · exact h5
      · exact h3
    · exact (hGd w hw).1
  · exact fin (va_runVN (As := As) (C := md.1.cls) ⟨hx, hb, hml, hown, hts⟩ (hM l D dA (adC a)) ⟨va_cnB n hts hGd rfl rfl rfl (hN _ h8 rfl) (hts _ h3) h7 hRr, hts _ h4, hts _ h5⟩ hpre rfl hn hl.1 hst' (lv_room hw) hd ⟨by show nc + 0 ≤ 601024; omega, by show ns + 0 ≤ 7293033; omega⟩)
theorem lt_M {g : Gx} {b0 L : Nat} {xs : Nat → Int32} {a b o : Nat} {Z : State → Prop} {nc ns pc : Nat} {lv : List (Option Value)} {idx d' n : Nat} {md : Md} {As rest st0 : List Value} {σ μ : St} {w : Nat → Int32} {v : Int32} {RC : St → Prop} (hlc : lC g b0 L xs a b o) (hcl : nc ≤ 601024 ∧ ns ≤ 7293033) (hd : decode cL_law pc = .ok (.invokevirtual idx, 3)) (hM : Mt YM md d' (.ref 0 :: As) μ (fun r τ => r = some (.int v) ∧ RC τ)) (hL : MLv RL idx 12 md n) (hdd : d' + 1 ≤ 72) (hn : As.length = n) (hAs : ∀ f, As.map (cvv f) = As) (hst : st0 = As.reverse ++ .ref b :: rest) (hw : (rest.map fun v => v.category).sum ≤ 8)
    (kk : ∀ τ, RC τ → gW g 7 Z nc ns (lA g) (pc + 3) lv (.int v :: rest) (lP (gD g) (gdA g) a b o σ τ w)) : gW g 7 Z nc ns (lA g) pc lv st0 (lP (gD g) (gdA g) a b o σ μ w) := by
  obtain ⟨p, l, e, R, s, m, args, below, meth, c, D, dA, ad⟩ := g
  obtain ⟨hc, ⟨hX, hb0, hL0⟩, ⟨ha1, ha2, ha3⟩, hRm, hlt, hTk⟩ := hlc
  obtain ⟨hx, hb, hml, hrt, hlk, hown, hts, hK, hD, hR, hN⟩ := id hc
  subst hD
  have hRm : R = room_1 := hRm
  subst hRm
  intro H locs ls hP hS hl
  obtain ⟨hPC, hPM, hPO⟩ := hP
  obtain ⟨⟨T0, N0, h1⟩, h2, h3, h4, h5, h6, h7, h8⟩ := hL
  have hpre : PreV s H md.1.cls b (cP D dA (adM b) YM (.ref 0 :: As) μ) As := ⟨cP_blind, va_recv hK hPM h1 (wW_at (k := 0) (σ := μ) (ad := adM b) (dA := dA) ym0), fun U hU hW => ⟨by rw [List.map_cons, hAs]; rfl, by rw [hU]; exact hPM, va_K.moved hW.alike hK, adM_inj b, hN.warm hW⟩⟩
  have hst' : st0.map (cvv (fun k => k)) = As.reverse ++ .ref b :: rest := by rw [cvv_idm]; exact hst
  have hGd : GoodIn gw (Cond.code md.1 md.2.1 md.2.2.1 md.2.2.2 :: gw) := gw_good (fun w hw => by rcases List.mem_cons.mp hw with rfl | hw; exact h2; exact hw)
  have hRr : (rmD d').frames + 1 ≤ room_1.frames ∧ 8 + (md.2.2.1 + 11) + (rmD d').locals ≤ room_1.locals := by obtain ⟨r1, r2⟩ := hR; simp only [rmD, room_1]; omega
  have hsub : ∀ q, cA (adM b) YM q → s.heap.size ≤ q := fun q hq => by have ha1 : s.heap.size ≤ a := ha1; have := (cA_M hq).1; omega
  have fin : ∀ {av : Array Value}, va_Run p l e room_1 s m args below meth c H locs nc ns 0 0 (F0 m pc ls (st0.map (cvv (fun k => k)))) rest (cQ D dA (adM b) YM (fun r τ => r = some (.int v) ∧ RC τ) av) (cA (adM b) YM) → W p l e room_1 s m args below meth c H locs nc ns Z (F0 m pc ls (st0.map (cvv (fun k => k)))) := by
    intro av hr
    refine lt_run (F := fun τ => lP D dA a b o σ τ w) hr hS hsub hl (fun τ H1 hP1 hk => ⟨hPC.far hk (fun k hk z => ?_), hP1, hPO.far hk (fun k hk z => ?_)⟩) (fun r τ hp => ?_)
    · have h9 := cA_M z
      have := adC_lt (a := a) (show k < 74 from hk)
      omega
    · have h9 := cA_M z
      omega
    · obtain ⟨rfl, hp⟩ := hp
      exact kk τ hp
  rcases h8 with h8 | ⟨host, h8⟩
  · refine fin (va_runV (As := As) ⟨hx, hb, hml, hown, hts⟩ (hM l D dA (adM b)) (cwV n hts (gw_good (fun w hw => ?_)) rfl rfl rfl ⟨rfl, h7⟩ hRr) hpre rfl hn hl.1 hst' (lv_room hw) hd ⟨by show nc + 0 ≤ 601024; omega, by show ns + 0 ≤ 7293033; omega⟩)
    rcases List.mem_append.mp hw with hw | hw
    · simp only [List.mem_cons, List.not_mem_nil, or_false] at hw
      rcases hw with rfl | rfl | rfl | rfl
      · exact h8
      · exact h4
      · exact h5
      · exact h3
    · exact (hGd w hw).1
  · exact fin (va_runVN (As := As) (C := md.1.cls) ⟨hx, hb, hml, hown, hts⟩ (hM l D dA (adM b)) ⟨va_cnB n hts hGd rfl rfl rfl (hN _ h8 rfl) (hts _ h3) h7 hRr, hts _ h4, hts _ h5⟩ hpre rfl hn hl.1 hst' (lv_room hw) hd ⟨by show nc + 0 ≤ 601024; omega, by show ns + 0 ≤ 7293033; omega⟩)
