def R_law : String := "PegCourtLaw"
def lw_P (b : Addr) (xs : List Int32) (args : Array Value) (s : State) : Prop := args = #[.ref b] ∧ s.IntsAt b xs ∧ xs.length ≤ 3072 ∧ (Jvm.Cond.and given_1 narrow_1).before args s = true
def lw_Q (_ : Array Value) (s : State) (o : Outcome) (t : State) : Prop := o = .returned (some (.int 1)) ∧ Framed s o t [] 601024 7293033
def lw_Z (below : List Frame) (a : Array Value) (s : State) : State → Prop := fun t => ∃ o, t.status = .running ∧ Ended t below o ∧ lw_Q a s o t
/-- the law's own end, with 1 on the stack, nothing written that was there before, its room as the claim has it -/
theorem lw_ret {p : Program} {l : Launch} {e : Env} {s : State} {m : MethodId} {below : List Frame} {meth : Method} {c : Code} {args : Array Value} (hx : p.tables.exec = Jvm.exec) (hb : c.code = code) (hr : meth.sig.returnType = ret) (hlocks : meth.locks = false) {pc : Nat} {H : Heap} {ls : Array Slot} (hdg : decode code pc = .ok (.ireturn, 1)) : W p l e room_1 s m args below meth c H [] 601024 7293033 (lw_Z below args s) (F0 m pc ls [.int 1]) := by
  intro T hT X
  obtain ⟨fs, hret, hrun, hended, hW, hframe⟩ := X.leave (v := some (.int 1)) (hlocks := hlocks) (fun h => by rw [hr] at h; cases h)
  have hmeth' : T.vm.method? m = some meth := X.method'
  refine ⟨T.setFrames fs, ?_, .returned (some (.int 1)), hrun, hended, rfl, ⟨_, rfl⟩, hW, hframe⟩
  jvm_step X.here [X.here.top, hx, hb, hdg, hmeth', hr, ret, narrow_b1]
  (try refine ⟨rfl, ?_⟩); (try refine ⟨rfl, ?_⟩)
  first | (intro acts; rw [hret _ acts rfl rfl rfl]) | rw [hret _ _ rfl rfl rfl]
  exact Steps.refl _
/-- what holds at the law's entry: the machine, the code, the tables' words (any of lw_tbl by 'hts w (by decide +kernel)'), the script of L ints xs at the cell b, what the Statement gives of the start (any of its parts by flat_of_before) -/
def lw_At (p : Program) (s : State) (m : MethodId) (meth : Method) (c : Code) (b L : Nat) (xs : Nat → Int32) : Prop :=
  p.tables.exec = Jvm.exec ∧ c.code = code ∧ meth.sig.returnType = ret ∧ c.maxLocals = 7 ∧ s.vm.findClass R_law = some m.cls ∧ (∀ w ∈ lw_tbl, w.before #[Value.ref b] s = true) ∧ va_X b L xs s s.heap ∧ b < s.heap.size ∧ meth.locks = false ∧ (Jvm.Cond.and given_1 narrow_1).before #[Value.ref b] s = true
/-! ===== the loop ===== -/
def gZl (g : Gx) : State → Prop := match g with
  | (_, _, _, _, s, _, args, below, _, _, _, _, _) => lw_Z below args s
theorem lt_end {g : Gx} {b0 L : Nat} {xs : Nat → Int32} {a b o : Nat} {nc ns : Nat} {lv : List (Option Value)} {σ : Heap → Prop} (hlc : lC g b0 L xs a b o) (h1 : nc ≤ 601024) (h2 : ns ≤ 7293033) : gW g 7 (gZl g) nc ns (lA g) 1436 lv [.int 1] σ := by
  obtain ⟨p, l, e, R, s, m, args, below, meth, c, D, dA, ad⟩ := g
  obtain ⟨hc, -, -, hRm, -⟩ := hlc
  obtain ⟨hx, hb, hml, hrt, hlk, hown, hts, hK, hD, hR, hN⟩ := id hc
  subst hD
  have hRm : R = room_1 := hRm
  subst hRm
  intro H locs ls hP hS hl
  refine va_forget hS.2.2 ?_
  intro T hT X
  exact lw_ret hx hb hrt hlk dL_law_1436 T hT (stand_widen X h1 h2)
theorem six_le {L j : Nat} (hL : L ≤ 3072) (hj : j ≤ 512) (h : ¬ nI L - 6 < nI (6 * j)) : 6 * j + 6 ≤ L := by
  rcases Nat.lt_or_ge L 6 with q | q
  · exfalso
    apply h
    have h0 : (0 : Int32) ≤ nI (6 * j) := nI_le (a := 0) (by omega) (by omega)
    refine Int32.lt_of_lt_of_le ?_ h0
    rcases (show L = 0 ∨ L = 1 ∨ L = 2 ∨ L = 3 ∨ L = 4 ∨ L = 5 by omega) with rfl | rfl | rfl | rfl | rfl | rfl <;> decide
  · have e : nI L - 6 = nI (L - 6) := nI_sub (b := 6) q
    rw [e] at h
    have := Int32.not_lt.mp h
    have := (nI_leI (a := 6 * j) (b := L - 6) (by omega) (by omega)).mp this
    omega
theorem lw_loop {g : Gx} {b0 L : Nat} {xs : Nat → Int32} {a b o : Nat} (hlc : lC g b0 L xs a b o) : ∀ (n j : Nat) (σ μ : St) (w : Nat → Int32), 512 ≤ j + n → j ≤ 512 → Rel (j + 1) σ μ → gW g 7 (gZl g) (114 + j) (160121 + 6 * j) (lA g) 23 (lvJ b0 a b o (nI (6 * j)) none none) [] (lP (gD g) (gdA g) a b o σ μ w) := by
  have hL := hlc.2.1.2.2
  intro n
  induction n with
  | zero =>
    intro j σ μ w h1 h2 h
    refine gt_iload hlc.1 dL_law_23 rfl ?_
    refine gt_aload_n hlc.1 dL_law_25 rfl rfl ?_
    refine lt_slen hlc dL_law_26 ?_
    refine gt_bipush (v := 6) hlc.1 dL_law_27 (by decide) ?_
    refine gt_isub hlc.1 dL_law_29 ?_
    refine gt_icmp_gt (tgt := 1435) hlc.1 dL_law_30 (by omega) (fun _ => ?_) (fun hq => ?_)
    · refine gt_iconst (v := 1) hlc.1 dL_law_1435 (by decide) ?_
      exact lt_end hlc (by omega) (by omega)
    · exfalso
      have := six_le hL h2 hq
      omega
  | succ n ih =>
    intro j σ μ w h1 h2 h
    refine gt_iload hlc.1 dL_law_23 rfl ?_
    refine gt_aload_n hlc.1 dL_law_25 rfl rfl ?_
    refine lt_slen hlc dL_law_26 ?_
    refine gt_bipush (v := 6) hlc.1 dL_law_27 (by decide) ?_
    refine gt_isub hlc.1 dL_law_29 ?_
    refine gt_icmp_gt (tgt := 1435) hlc.1 dL_law_30 (by omega) (fun _ => ?_) (fun hq => ?_)
    · refine gt_iconst (v := 1) hlc.1 dL_law_1435 (by decide) ?_
      exact lt_end hlc (by omega) (by omega)
    · have hj := six_le hL h2 hq
      have K : lK1 g b0 a b o (gZl g) j := by
        intro τ ν w' hr
        refine gt_iinc (v := nI (6 * (j + 1))) hlc.1 dL_law_1429 rfl (nI_add (6 * j) 6) (by decide) rfl ?_
        refine gt_goto (tgt := 23) hlc.1 dL_law_1432 (by omega) ?_
        exact ih (j + 1) τ ν w' (by omega) (by omega) hr
      refine gt_aload_n hlc.1 dL_law_33 rfl rfl ?_
      refine gt_iload hlc.1 dL_law_34 rfl ?_
      refine lt_sld hlc rfl (show 6 * j < L by omega) dL_law_36 ?_
      refine gt_bipush (v := 63) hlc.1 dL_law_37 (by decide) ?_
      refine gt_iand hlc.1 dL_law_39 ?_
      rcases sw_c 38 (by decide) (xs (6 * j) &&& 63) with hsw | ⟨ksw, hksw, esw⟩
      · refine gt_tableOut (tgt := 1429) hlc.1 dL_law_40 (by rcases hsw with q | q; exact Or.inl (by omega); exact Or.inr (by omega)) (by omega) ?_
        exact gW_wide (by omega) (by omega) (K σ μ w ⟨h.1.up (by omega), h.2⟩)
      · rw [esw]
        match ksw, hksw with
        | 0, _ => exact gt_tableIn (off := 168) (tgt := 208) hlc.1 dL_law_40 (by decide) (by decide) (by decide) (by omega) (lw_c0 hlc hj h K)
        | 1, _ => exact gt_tableIn (off := 205) (tgt := 245) hlc.1 dL_law_40 (by decide) (by decide) (by decide) (by omega) (lw_c1 hlc hj h K)
        | 2, _ => exact gt_tableIn (off := 242) (tgt := 282) hlc.1 dL_law_40 (by decide) (by decide) (by decide) (by omega) (lw_c2 hlc hj h K)
        | 3, _ => exact gt_tableIn (off := 267) (tgt := 307) hlc.1 dL_law_40 (by decide) (by decide) (by decide) (by omega) (lw_c3 hlc hj h K)
        | 4, _ => exact gt_tableIn (off := 292) (tgt := 332) hlc.1 dL_law_40 (by decide) (by decide) (by decide) (by omega) (lw_c4 hlc hj h K)
        | 5, _ => exact gt_tableIn (off := 329) (tgt := 369) hlc.1 dL_law_40 (by decide) (by decide) (by decide) (by omega) (lw_c5 hlc hj h K)
        | 6, _ => exact gt_tableIn (off := 354) (tgt := 394) hlc.1 dL_law_40 (by decide) (by decide) (by decide) (by omega) (lw_c6 hlc hj h K)
        | 7, _ => exact gt_tableIn (off := 379) (tgt := 419) hlc.1 dL_law_40 (by decide) (by decide) (by decide) (by omega) (lw_c7 hlc hj h K)
        | 8, _ => exact gt_tableIn (off := 392) (tgt := 432) hlc.1 dL_law_40 (by decide) (by decide) (by decide) (by omega) (lw_c8 hlc hj h K)
        | 9, _ => exact gt_tableIn (off := 429) (tgt := 469) hlc.1 dL_law_40 (by decide) (by decide) (by decide) (by omega) (lw_c9 hlc hj h K)
        | 10, _ => exact gt_tableIn (off := 454) (tgt := 494) hlc.1 dL_law_40 (by decide) (by decide) (by decide) (by omega) (lw_c10 hlc hj h K)
        | 11, _ => exact gt_tableIn (off := 479) (tgt := 519) hlc.1 dL_law_40 (by decide) (by decide) (by decide) (by omega) (lw_c11 hlc hj h K)
        | 12, _ => exact gt_tableIn (off := 492) (tgt := 532) hlc.1 dL_law_40 (by decide) (by decide) (by decide) (by omega) (lw_c12 hlc hj h K)
        | 13, _ => exact gt_tableIn (off := 517) (tgt := 557) hlc.1 dL_law_40 (by decide) (by decide) (by decide) (by omega) (lw_c13 hlc hj h K)
        | 14, _ => exact gt_tableIn (off := 554) (tgt := 594) hlc.1 dL_law_40 (by decide) (by decide) (by decide) (by omega) (lw_c14 hlc hj h K)
        | 15, _ => exact gt_tableIn (off := 579) (tgt := 619) hlc.1 dL_law_40 (by decide) (by decide) (by decide) (by omega) (lw_c15 hlc hj h K)
        | 16, _ => exact gt_tableIn (off := 604) (tgt := 644) hlc.1 dL_law_40 (by decide) (by decide) (by decide) (by omega) (lw_c16 hlc hj h K)
        | 17, _ => exact gt_tableIn (off := 641) (tgt := 681) hlc.1 dL_law_40 (by decide) (by decide) (by decide) (by omega) (lw_c17 hlc hj h K)
        | 18, _ => exact gt_tableIn (off := 666) (tgt := 706) hlc.1 dL_law_40 (by decide) (by decide) (by decide) (by omega) (lw_c18 hlc hj h K)
        | 19, _ => exact gt_tableIn (off := 703) (tgt := 743) hlc.1 dL_law_40 (by decide) (by decide) (by decide) (by omega) (lw_c19 hlc hj h K)
        | 20, _ => exact gt_tableIn (off := 728) (tgt := 768) hlc.1 dL_law_40 (by decide) (by decide) (by decide) (by omega) (lw_c20 hlc hj h K)
        | 21, _ => exact gt_tableIn (off := 765) (tgt := 805) hlc.1 dL_law_40 (by decide) (by decide) (by decide) (by omega) (lw_c21 hlc hj h K)
        | 22, _ => exact gt_tableIn (off := 814) (tgt := 854) hlc.1 dL_law_40 (by decide) (by decide) (by decide) (by omega) (lw_c22 hlc hj h K)
        | 23, _ => exact gt_tableIn (off := 851) (tgt := 891) hlc.1 dL_law_40 (by decide) (by decide) (by decide) (by omega) (lw_c23 hlc hj h K)
        | 24, _ => exact gt_tableIn (off := 888) (tgt := 928) hlc.1 dL_law_40 (by decide) (by decide) (by decide) (by omega) (lw_c24 hlc hj h K)
        | 25, _ => exact gt_tableIn (off := 937) (tgt := 977) hlc.1 dL_law_40 (by decide) (by decide) (by decide) (by omega) (lw_c25 hlc hj h K)
        | 26, _ => exact gt_tableIn (off := 950) (tgt := 990) hlc.1 dL_law_40 (by decide) (by decide) (by decide) (by omega) (lw_c26 hlc hj h K)
        | 27, _ => exact gt_tableIn (off := 963) (tgt := 1003) hlc.1 dL_law_40 (by decide) (by decide) (by decide) (by omega) (lw_c27 hlc hj h K)
        | 28, _ => exact gt_tableIn (off := 976) (tgt := 1016) hlc.1 dL_law_40 (by decide) (by decide) (by decide) (by omega) (lw_c28 hlc hj h K)
        | 29, _ => exact gt_tableIn (off := 1025) (tgt := 1065) hlc.1 dL_law_40 (by decide) (by decide) (by decide) (by omega) (lw_c29 hlc hj h K)
        | 30, _ => exact gt_tableIn (off := 1050) (tgt := 1090) hlc.1 dL_law_40 (by decide) (by decide) (by decide) (by omega) (lw_c30 hlc hj h K)
        | 31, _ => exact gt_tableIn (off := 1075) (tgt := 1115) hlc.1 dL_law_40 (by decide) (by decide) (by decide) (by omega) (lw_c31 hlc hj h K)
        | 32, _ => exact gt_tableIn (off := 1124) (tgt := 1164) hlc.1 dL_law_40 (by decide) (by decide) (by decide) (by omega) (lw_c32 hlc hj h K)
        | 33, _ => exact gt_tableIn (off := 1192) (tgt := 1232) hlc.1 dL_law_40 (by decide) (by decide) (by decide) (by omega) (lw_c33 hlc hj h K)
        | 34, _ => exact gt_tableIn (off := 1265) (tgt := 1305) hlc.1 dL_law_40 (by decide) (by decide) (by decide) (by omega) (lw_c34 hlc hj h K)
        | 35, _ => exact gt_tableIn (off := 1302) (tgt := 1342) hlc.1 dL_law_40 (by decide) (by decide) (by decide) (by omega) (lw_c35 hlc hj h K)
        | 36, _ => exact gt_tableIn (off := 1339) (tgt := 1379) hlc.1 dL_law_40 (by decide) (by decide) (by decide) (by omega) (lw_c36 hlc hj h K)
        | 37, _ => exact gt_tableIn (off := 1364) (tgt := 1404) hlc.1 dL_law_40 (by decide) (by decide) (by decide) (by omega) (lw_c37 hlc hj h K)
        | n + 38, hh => exact absurd hh (by omega)
