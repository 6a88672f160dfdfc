theorem gw_tb {ws : List Cond} (h : ∀ w ∈ ws, w ∈ gw) : ∀ w ∈ ws, w ∈ lw_tbl := fun w hw => (List.mem_filter.mp (h w hw)).1
theorem lw_KD {s : State} {args : Array Value} (hts : ∀ w ∈ lw_tbl, w.before args s = true) : ∃ (D : va_G) (dA : Nat → ClassId), va_K D vwCl (tyl dA) s := by
  obtain ⟨c0, i0, k0⟩ := u_known (C := RX0) (T := TX0) (N := 7) (n := 7) hts (gw_tb inG0) (hts _ (tb_in 32 (by decide +kernel)))
  obtain ⟨c1, i1, k1⟩ := u_known (C := RX1) (T := TX1) (N := 15) (n := 15) hts (gw_tb inG1) (hts _ (tb_in 271 (by decide +kernel)))
  obtain ⟨c2, i2, k2⟩ := u_known (C := RX2) (T := TX2) (N := 3) (n := 3) hts (gw_tb inG2) (hts _ (tb_in 38 (by decide +kernel)))
  obtain ⟨c3, i3, k3⟩ := u_known (C := RX3) (T := TX3) (N := 3) (n := 3) hts (gw_tb inG3) (hts _ (tb_in 206 (by decide +kernel)))
  obtain ⟨c4, i4, k4⟩ := u_known (C := RX4) (T := TX4) (N := 11) (n := 11) hts (gw_tb inG4) (hts _ (tb_in 356 (by decide +kernel)))
  obtain ⟨c5, i5, k5⟩ := u_known (C := RX5) (T := TX5) (N := 17) (n := 17) hts (gw_tb inG5) (hts _ (tb_in 100 (by decide +kernel)))
  obtain ⟨c6, i6, k6⟩ := u_known (C := RX6) (T := TX6) (N := 3) (n := 3) hts (gw_tb inG6) (hts _ (tb_in 106 (by decide +kernel)))
  obtain ⟨c7, i7, k7⟩ := u_known (C := RX7) (T := TX7) (N := 4) (n := 4) hts (gw_tb inG7) (hts _ (tb_in 400 (by decide +kernel)))
  obtain ⟨c8, i8, k8⟩ := u_known (C := RX8) (T := TX8) (N := 5) (n := 5) hts (gw_tb inG8) (hts _ (tb_in 226 (by decide +kernel)))
  obtain ⟨c9, i9, k9⟩ := u_known (C := RX9) (T := TX9) (N := 6) (n := 6) hts (gw_tb inG9) (hts _ (tb_in 324 (by decide +kernel)))
  obtain ⟨c10, i10, k10⟩ := u_known (C := RX10) (T := TX10) (N := 4) (n := 4) hts (gw_tb inG10) (hts _ (tb_in 252 (by decide +kernel)))
  obtain ⟨c11, i11, k11⟩ := u_known (C := RX11) (T := TX11) (N := 12) (n := 12) hts (gw_tb inG11) (hts _ (tb_in 24 (by decide +kernel)))
  obtain ⟨c12, i12, k12⟩ := u_known (C := RX12) (T := TX12) (N := 53) (n := 53) hts (gw_tb inG12) (hts _ (tb_in 1126 (by decide +kernel)))
  obtain ⟨a0, x0, y0, p0, q0, r0⟩ := Cond.arrayClass_spec (hts (Cond.arrayClass .int) (tb_in 63 (by decide +kernel)))
  obtain ⟨a1, x1, y1, p1, q1, r1⟩ := Cond.arrayClass_spec (hts (Cond.arrayClass .boolean) (tb_in 121 (by decide +kernel)))
  obtain ⟨a2, x2, y2, p2, q2, r2⟩ := Cond.arrayClass_spec (hts (Cond.arrayClass .long) (tb_in 322 (by decide +kernel)))
  obtain ⟨y3, a3, x3, e3, -, q3, r3, p3⟩ := Cond.arrayOver_spec (hts (Cond.arrayOver (.object "PegCourt$Shelf")) (tb_in 399 (by decide +kernel)))
  refine ⟨(fun k => match k with | 0 => c0 | 1 => c1 | 2 => c2 | 3 => c3 | 4 => c4 | 5 => c5 | 6 => c6 | 7 => c7 | 8 => c8 | 9 => c9 | 10 => c10 | 11 => c11 | _ => c12, fun k => match k with | 0 => i0 | 1 => i1 | 2 => i2 | 3 => i3 | 4 => i4 | 5 => i5 | 6 => i6 | 7 => i7 | 8 => i8 | 9 => i9 | 10 => i10 | 11 => i11 | _ => i12), fun k => match k with | 0 => a0 | 1 => a1 | 2 => a2 | _ => a3, fun k q hq => ?_, fun k q hq => ?_⟩
  · match k, hq with
    | 0, hq => cases hq; exact k0
    | 1, hq => cases hq; exact k1
    | 2, hq => cases hq; exact k2
    | 3, hq => cases hq; exact k3
    | 4, hq => cases hq; exact k4
    | 5, hq => cases hq; exact k5
    | 6, hq => cases hq; exact k6
    | 7, hq => cases hq; exact k7
    | 8, hq => cases hq; exact k8
    | 9, hq => cases hq; exact k9
    | 10, hq => cases hq; exact k10
    | 11, hq => cases hq; exact k11
    | 12, hq => cases hq; exact k12
    | n + 13, hq => simp [vwCl] at hq
  · match k, hq with
    | 0, hq => cases hq; exact ⟨fun n z => ⟨fun k h => (by cases h), x0, q0, y0, r0⟩, p0⟩
    | 1, hq => cases hq; exact ⟨fun n z => ⟨fun k h => (by cases h), x1, q1, y1, r1⟩, p1⟩
    | 2, hq => cases hq; exact ⟨fun n z => ⟨fun k h => (by cases h), x2, q2, y2, r2⟩, p2⟩
    | 3, hq => cases hq; exact ⟨fun n z => ⟨fun k h => (by cases h), x3, q3, y3, r3⟩, x3, y3, q3, r3, e3, p3⟩
    | n + 4, hq => simp [tyl] at hq
theorem mi17 : MLi RL 17 mX11_init 0 := ⟨cwX11_init, gw1 1 (by decide +kernel) rfl, gw1 26 (by decide +kernel) rfl, by decide, rfl, rfl, ⟨by decide, by decide, by decide +kernel⟩, Or.inl (gw1 25 (by decide +kernel) rfl)⟩
theorem mi20 : MLi RL 20 mX12_init 0 := ⟨cwX12_init, gw1 15 (by decide +kernel) rfl, gw1 1128 (by decide +kernel) rfl, by decide, rfl, rfl, ⟨by decide, by decide, by decide +kernel⟩, Or.inl (gw1 1127 (by decide +kernel) rfl)⟩
theorem lw_dK {s : State} {b : Nat} (hts : ∀ w ∈ lw_tbl, w.before #[Value.ref b] s = true) (hgv : (Jvm.Cond.and given_1 narrow_1).before #[Value.ref b] s = true) : nK s ∧ tKs s ∧ va_AO "PegCourt$Shelf" s := by
  have hs := flat_of_before _ hgv
  have hn : nK s := by
    intro w hw h
    have h1 := hts w hw
    cases w <;> first | (exact va_Nw.of rfl h1) | (exact absurd h (by simp [isNest]))
  have hd : dK s := by
    refine ⟨?_, va_Nc.of (args := #[Value.ref b]) (hs _ (by decide +kernel))⟩
    intro w hw h
    have h1 := hts w hw
    cases w <;> first | (exact va_Nw.of rfl h1) | (exact absurd h (by simp [isDC]))
  have str : ∀ (own : String) (i : Nat) (tx : String), Cond.stringRef own i tx ∈ lw_tbl → (Cond.exactly (.string own i) "java/lang/String").before #[Value.ref b] s = true → ∃ sa, vk_R own i tx sa s := by
    intro own i tx h1 h2
    obtain ⟨a, c, cA, kA, q1, -⟩ := Cond.exactly_spec (args := #[Value.ref b]) (first := s) (o := none) (s := s) (idx := []) (t := .string own i) (cls := "java/lang/String") h2
    exact ⟨a, vk_R.of (hts _ h1) q1⟩
  have hA : ∀ a : Nat, a < s.heap.size → ¬ s.heap.size ≤ a := fun a h => by omega
  refine ⟨hn, ⟨?_, ?_, ?_, ?_, ?_, ?_, hd⟩, va_AO.of (hts _ (tb_in 399 (by decide +kernel)))⟩
  · exact str RX7 49 _ (tb_in 1062 (by decide +kernel)) (hs _ (by decide +kernel))
  · exact str RX11 359 _ (tb_in 1115 (by decide +kernel)) (hs _ (by decide +kernel))
  · exact str RX11 366 _ (tb_in 1122 (by decide +kernel)) (hs _ (by decide +kernel))
  · exact str RX11 369 _ (tb_in 1124 (by decide +kernel)) (hs _ (by decide +kernel))
  · exact vx_Zqof (hts _ (tb_in 1049 (by decide +kernel))) (hts _ (tb_in 18 (by decide +kernel))) (hs _ (by decide +kernel)) hA
  · exact vx_Zqof (hts _ (tb_in 1051 (by decide +kernel))) (hts _ (tb_in 18 (by decide +kernel))) (hs _ (by decide +kernel)) hA
/-- the court's constructor, called by the law -/
theorem lt_X11 {g : Gx} {a : Nat} {Z : State → Prop} {nc ns pc : Nat} {lv : List (Option Value)} {rest : List Value} (hc : gX g RL cL_law 7 ret 72) (hAO : gAO g) (hRm : gR g = room_1) (hcl : nc + 73 ≤ 601024 ∧ ns + 74738 ≤ 7293033) (ha : (gS g).heap.size = a) (hw : (rest.map fun v => v.category).sum ≤ 8) (hd : decode cL_law pc = .ok (.invokespecial 17, 3))
    (kk : ∀ τ, stA sg0 3 4 τ → gW g 7 Z (nc + 73) (ns + 74738) (fun q => a ≤ q) (pc + 3) lv rest (fun H => va_P (gD g) vwCl (wW (gdA g) (adC a) τ 0 YC) H)) : gW g 7 Z nc ns (fun q => a ≤ q) pc lv (.ref a :: rest) (nP (gD g) a [.inr (11, f0X11)]) := by
  obtain ⟨p, l, e, R, s, m, args, below, meth, c, D, dA, ad⟩ := g
  obtain ⟨hx, hb, hml, hr, hlk, hown, hts, hK, hD, hR, hN⟩ := id hc
  subst hD
  have hRm : R = room_1 := hRm
  subst hRm
  subst ha
  intro H locs ls hP hS hl
  obtain ⟨h2, h3, h4, h6, -, h11, h7, -⟩ := mi17
  have hpre : PreS s H (fun v U => nPre D dA s.heap.size 11 f0X11 [] v U ∧ va_AO "PegCourt$Shelf" U) [.ref s.heap.size] := ⟨fun v U g mk q => ⟨nPre_blind v U g mk q.1, va_AO.moved (u := U) (U := U.calling g mk v) (Vm.Alike.refl U.vm) q.2⟩, fun U hU hW => ⟨⟨rfl, by rw [hU]; exact hP, va_K.moved hW.alike hK, hN.warm hW⟩, va_AO.moved hW.alike hAO⟩⟩
  have hGd : GoodIn gw (Cond.code yX11_init cX11_init 2 none :: gw) := gw_good (fun w hw => by rcases List.mem_cons.mp hw with rfl | hw; exact h2; exact hw)
  have hst' : (Value.ref s.heap.size :: rest).map (cvv (fun k => k)) = ([] : List Value).reverse ++ .ref s.heap.size :: rest := by rw [cvv_idm]; rfl
  have h8 : Cond.methodLink RL 17 yX11_init ∈ gw := gw1 25 (by decide +kernel) rfl
  · have hrun := va_runI (As := []) (rest := rest) (g := F0 m pc ls ((Value.ref s.heap.size :: rest).map (cvv (fun k => k)))) (locs := locs) (cells := nc) (slots := ns) (below := below) (meth := meth) (e := e) ⟨hx, hb, hml, hown, hts⟩ (C_X11 l D dA s.heap.size) ⟨callB_of (R := room_1) 0 hts hGd rfl rfl rfl (hts _ h3) (hts _ h8) h7 (by simp only [rmE, room_1]; omega), h11, hts _ h4⟩ hpre rfl rfl hl.1 hst' (lv_room hw) hd hcl
    intro T hT X
    obtain ⟨v, st₀, t, T', L, h0, X', hL, e1, e2, ⟨hv, ⟨τ, hτ, hp⟩, hz, hk⟩, stp⟩ := hrun T hT X
    cases hv
    rw [h0] at hz hk
    have hS' : va_S (fun q => s.heap.size ≤ q) s.heap T'.heap (locs ++ L) := ⟨Nat.le_trans hS.1 (by rw [e1]; exact hz), fun q h1 h2 => by rw [e1, hk q (Nat.lt_of_lt_of_le h1 hS.1) h2]; exact hS.2.1 q h1 h2, fun q hq => by
      rcases List.mem_append.mp hq with h | h
      · exact hS.2.2 q h
      · exact hL q h⟩
    obtain ⟨t2, a1, b1⟩ := kk τ hτ T'.heap (locs ++ L) ls (by show va_P D vwCl _ T'.heap; rw [e1]; exact hp) hS' hl T' rfl X'
    refine ⟨t2, stp t2 ?_, b1⟩
    rw [cvv_idm] at a1
    exact a1
/-- a new reference model, beside what stands -/
theorem lt_new2 {g : Gx} {A : Nat → Prop} {Z : State → Prop} {nc ns pc n : Nat} {lv : List (Option Value)} {st : List Value} {σ : Heap → Prop} (hc : gX g RL cL_law 7 ret 72) (hcl : nc + 1 ≤ (gR g).cells ∧ ns + 53 ≤ (gR g).slots) (hst : ∀ H H1 : Heap, σ H → (∀ q, q < H.size → H1[q]? = H[q]?) → σ H1) (hsz : ∀ H, σ H → n ≤ H.size) (hd : decode cL_law pc = .ok (.new 18, 3))
    (k : ∀ b, n ≤ b → gW g 7 Z (nc + 1) (ns + 53) A (pc + 3) lv (.ref b :: st) (fun H => σ H ∧ nP (gD g) b [.inr (12, f0X12)] H)) : gW g 7 Z nc ns A pc lv st σ := by
  obtain ⟨p, l, e, R, s, m, args, below, meth, c, D, dA, ad⟩ := g
  obtain ⟨hx, hb, hml, hr, hlk, hown, hts, hK, hD, hR, hN⟩ := id hc
  subst hD
  intro H locs ls hP hS hl
  have hKn := hK.1 12 (RX12, TX12, 53) rfl
  refine W.newcK (own := RL) (C := RX12) hx hb hown (hts _ (gw1 1125 (by decide +kernel) rfl)) (hts _ (gw1 1126 (by decide +kernel) rfl)) (hts _ (gw1 15 (by decide +kernel) rfl)) rfl hd hcl.1 hcl.2 hKn.2.1 rfl fun H1 kC hkC e1 z1 o1 => ?_
  refine k H.size (hsz H hP) H1 locs ls ⟨hst H H1 hP o1, ?_, z1⟩ (hS.push z1 o1) hl
  intro k x hx
  cases k with
  | zero => cases hx; exact ⟨(RX12, TX12, 53), rfl, (u_born tyX12 hts inG12 hKn hkC e1 tyX12_ok).to dfX12⟩
  | succ k => simp [nWs] at hx
/-- its constructor, called by the law -/
theorem lt_X12 {g : Gx} {b : Nat} {Z : State → Prop} {nc ns pc : Nat} {lv : List (Option Value)} {rest : List Value} {σ : Heap → Prop} (hc : gX g RL cL_law 7 ret 72) (hRm : gR g = room_1) (hcl : nc + 38 ≤ 601024 ∧ ns + 85317 ≤ 7293033) (hb0 : (gS g).heap.size ≤ b) (hst : ∀ H H1 : Heap, σ H → (∀ q, q < b → H1[q]? = H[q]?) → σ H1) (hw : (rest.map fun v => v.category).sum ≤ 8) (hd : decode cL_law pc = .ok (.invokespecial 20, 3))
    (kk : gW g 7 Z (nc + 38) (ns + 85317) (lA g) (pc + 3) lv rest (fun H => σ H ∧ nP (gD g) b (csX12 (gdA g) b) H)) : gW g 7 Z nc ns (lA g) pc lv (.ref b :: rest) (fun H => σ H ∧ nP (gD g) b [.inr (12, f0X12)] H) := by
  obtain ⟨p, l, e, R, s, m, args, below, meth, c, D, dA, ad⟩ := g
  obtain ⟨hx, hb, hml, hr, hlk, hown, hts, hK, hD, hR, hN⟩ := id hc
  subst hD
  have hRm : R = room_1 := hRm
  subst hRm
  have hb0 : s.heap.size ≤ b := hb0
  intro H locs ls hPP hS hl
  obtain ⟨hσ, hP⟩ := hPP
  obtain ⟨h2, h3, h4, h6, -, h11, h7, -⟩ := mi20
  have hpre : PreS s H (nPre D dA b 12 f0X12 []) [.ref b] := ⟨nPre_blind, fun U hU hW => ⟨rfl, by rw [hU]; exact hP, va_K.moved hW.alike hK, hN.warm hW⟩⟩
  have hGd : GoodIn gw (Cond.code yX12_init cX12_init 2 none :: gw) := gw_good (fun w hw => by rcases List.mem_cons.mp hw with rfl | hw; exact h2; exact hw)
  have hst' : (Value.ref b :: rest).map (cvv (fun k => k)) = ([] : List Value).reverse ++ .ref b :: rest := by rw [cvv_idm]; rfl
  have h8 : Cond.methodLink RL 20 yX12_init ∈ gw := gw1 1127 (by decide +kernel) rfl
  · have hrun := va_runI (As := []) (rest := rest) (g := F0 m pc ls ((Value.ref b :: rest).map (cvv (fun k => k)))) (locs := locs) (cells := nc) (slots := ns) (below := below) (meth := meth) (e := e) ⟨hx, hb, hml, hown, hts⟩ (C_X12 l D dA b) ⟨callB_of (R := room_1) 0 hts hGd rfl rfl rfl (hts _ h3) (hts _ h8) h7 (by simp only [rmE, room_1]; omega), h11, hts _ h4⟩ hpre rfl rfl hl.1 hst' (lv_room hw) hd hcl
    intro T hT X
    obtain ⟨v, st₀, t, T', L, h0, X', hL, e1, e2, ⟨hv, hp, hz, hk⟩, stp⟩ := hrun T hT X
    cases hv
    rw [h0] at hz hk
    have hbs : b < H.size := by rw [hP.2]; exact Nat.lt_succ_self b
    have hS' : va_S (fun q => s.heap.size ≤ q) s.heap T'.heap (locs ++ L) := ⟨Nat.le_trans hS.1 (by rw [e1]; exact hz), fun q h1 h2 => by rw [e1, hk q (Nat.lt_of_lt_of_le h1 hS.1) (by omega)]; exact hS.2.1 q h1 h2, fun q hq => by
      rcases List.mem_append.mp hq with h | h
      · exact hS.2.2 q h
      · exact Nat.le_trans hb0 (hL q h)⟩
    obtain ⟨t2, a1, b1⟩ := kk T'.heap (locs ++ L) ls ⟨by rw [e1]; exact hst H _ hσ (fun q hq => hk q (by omega) (by omega)), by rw [e1]; exact hp⟩ hS' hl T' rfl X'
    refine ⟨t2, stp t2 ?_, b1⟩
    rw [cvv_idm] at a1
    exact a1
theorem lt_newl {g : Gx} {A : Nat → Prop} {Z : State → Prop} {nc ns pc n : Nat} {lv : List (Option Value)} {st : List Value} {σ : Heap → Prop} (hc : gX g RL cL_law 7 ret 72) (hcl : nc + 1 ≤ (gR g).cells ∧ ns + 1 ≤ (gR g).slots) (hst : ∀ H H1 : Heap, σ H → (∀ q, q < H.size → H1[q]? = H[q]?) → σ H1) (hsz : ∀ H, σ H → n ≤ H.size) (hd : decode cL_law pc = .ok (.newarray .long, 2))
    (k : ∀ o, n ≤ o → gW g 7 Z (nc + 1) (ns + 1) A (pc + 2) lv (.ref o :: st) (fun H => σ H ∧ va_P (gD g) vwCl (wW (gdA g) (fun _ => o) (fun _ _ => 0) 0 [.inl (2, 1, [])]) H)) : gW g 7 Z nc ns A pc lv (.int 1 :: st) σ := by
  obtain ⟨p, l, e, R, s, m, args, below, meth, c, D, dA, ad⟩ := g
  obtain ⟨hx, hb, hml, hr, hlk, hown, hts, hK, hD, hR, hN⟩ := id hc
  subst hD
  intro H locs ls hP hS hl
  refine va_newaK (atype := .long) (N := 1) hx hb (hts _ ac2) rfl hd rfl (by decide) (by decide) (by decide) hcl.1 hcl.2 rfl fun H1 cA e1 z1 o1 hAr hNm => ?_
  have hcA : cA = dA 2 := Option.some.inj (hNm.symm.trans (hK.2 2 _ rfl).2)
  subst hcA
  refine k H.size (hsz H hP) H1 locs ls ⟨hst H H1 hP o1, ?_⟩ (hS.push z1 o1) hl
  intro k x hx
  cases k with
  | zero =>
    cases hx
    show H1[H.size]? = some (vp_cell (dA 2) (1, .inr (.inl (fun i => jn 0 0))))
    rw [show (fun _ : Nat => jn 0 0) = (fun _ : Nat => (0 : Int64)) from jz]
    exact e1
  | succ k => simp [wW] at hx

