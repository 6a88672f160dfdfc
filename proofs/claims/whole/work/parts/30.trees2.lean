/-! ===== the reference's tables of trees: all guesses, all sets ===== -/
theorem T_d {g : Gx} {dd : Nat} {σ : St} {t : TD} {Q : Option Value → St → Prop} {s gg M : Nat} {pa : Nat → Nat} {w w20 : Nat → Int32} (hc : cX g YM RX12 cX12_trees 10 none dd) (ht : tOK t) (hs : s < 2 ^ tn t) (hg : gg < tN2 t) (hN : tN2 t ≤ 4096) (hcd : cand t gg s = true) (hPI : PI s (tA t gg) (tfu t) (tn t) M pa w w20) (cd : Option (Nat × Nat)) {x1 x5 : Int32}
    (k : ∀ υ, TI σ t υ → TB t υ s → RW υ s cd (fun e => bstO (msC t (ms t) e s) (gg + 1)) → aW g YM 10 Q 408 [some (.ref 0), some (.int x1), some (.int (nI s)), some (.int (nI (ones s))), some (.int (nI gg)), none, none, none, none, none] [] υ) (τ : St) (hTI : TI σ t τ) (hTB : TB t τ s) (hM : τ 0 32 = nI M) (hw : τ 19 = w) (hRW : RW τ s cd (fun e => bstO (msC t (ms t) e s) gg)) :
    aW g YM 10 Q 254 [some (.ref 0), some (.int x1), some (.int (nI s)), some (.int (nI (ones s))), some (.int (nI gg)), some (.int x5), some (.int (nI 0)), none, none, none] [] τ := by
  have h0 : RW τ s cd (pcs t s gg 0) := ⟨hRW.1, fun e he => by rw [pcs_ge (Nat.zero_le _)]; exact hRW.2 e he⟩
  refine lpN (n := 11) (F := fun d => ∀ τ, TI σ t τ → TB t τ s → τ 0 32 = nI M → τ 19 = w → RW τ s cd (pcs t s gg d) → aW g YM 10 Q 254 [some (.ref 0), some (.int x1), some (.int (nI s)), some (.int (nI (ones s))), some (.int (nI gg)), some (.int x5), some (.int (nI d)), none, none, none] [] τ) ?_ (fun d hd ih => ?_) τ hTI hTB hM hw h0
  · intro τ hTI hTB hM hw hRW
    have kk := k τ hTI hTB ⟨hRW.1, fun e he => by have := hRW.2 e he; rw [pcs_lt he] at this; exact this⟩
    refine st_iload hc dX12_trees_254 rfl ?_
    refine st_bipush (v := 11) hc dX12_trees_256 (by decide) ?_
    refine st_icmp_ge (tgt := 408) hc dX12_trees_258 (by decide) (fun h258 => ?_) (fun h258 => ?_)
    · exact st_lvq _ (by simp [lvq]) kk
    · exact absurd (by decide) h258
  · intro τ hTI hTB hM hw hRW
    have hu := T_upd (x1 := x1) (x3 := nI (ones s)) (x5 := x5) (Q := Q) hc ht hs hd hg hN hcd τ hTI hTB cd hM w hw hRW (fun υ a1 a2 a3 a4 a5 => by
      refine st_inc hc dX12_trees_402 rfl (by decide) rfl ?_
      rw [nI_1]
      refine st_goto (tgt := 254) hc dX12_trees_405 (by decide) ?_
      exact ih υ a1 a2 a3 a4 a5
      )
    have hsu := T_sum (x1 := x1) (x5 := x5) hc ht hTB hs hcd (by rw [hw]; exact hPI) hM hd (show ones s ≤ 11 from cnt_le _ _) hu
    refine st_iload hc dX12_trees_254 rfl ?_
    refine st_bipush (v := 11) hc dX12_trees_256 (by decide) ?_
    refine st_icmp_ge (tgt := 408) hc dX12_trees_258 (by decide) (fun h258 => ?_) (fun h258 => ?_)
    · exact absurd h258 (nI_ge (b := 11) hd (by omega))
    · refine st_iload_n hc dX12_trees_261 rfl rfl ?_
      refine st_istore hc dX12_trees_262 (by decide) rfl ?_
      refine st_iconst (v := 0) hc dX12_trees_264 (by decide) ?_
      refine st_istore hc dX12_trees_265 (by decide) rfl ?_
      exact st_lvq _ (by simp [lvq, List.set, nI_0]) hsu
theorem mdC_le {t : TD} (ht : tOK t) {s g v : Nat} (h : mdC t (md t) s g = some v) : v ≤ 12 := by
  unfold mdC at h
  by_cases hc : cand t g s = true
  · rw [if_pos hc, Option.map_eq_some_iff] at h
    obtain ⟨x, h3, rfl⟩ := h
    have h5 := maxO_le (b := 11) 60 x h3 (fun a ha y hy => by
      by_cases hp : pA t g s a = 0
      · rw [if_pos hp] at hy; cases hy; omega
      · rw [if_neg hp, Option.map_eq_some_iff] at hy
        obtain ⟨b, hb, rfl⟩ := hy
        have h1 := md_le ht _ _ b (Nat.le_refl _) (Nat.pos_of_ne_zero hp) (pA_lt _ _ _) hb
        have h2 : ones (pA t g s a) ≤ 11 := cnt_le _ _
        omega)
    omega
  · rw [if_neg hc] at h; cases h
/-- the deepest part, and the depth's row -/
theorem T_dep {g : Gx} {dd : Nat} {σ : St} {t : TD} {Q : Option Value → St → Prop} {s gg M : Nat} {pa : Nat → Nat} {w w20 : Nat → Int32} (hc : cX g YM RX12 cX12_trees 10 none dd) (ht : tOK t) (hs : s < 2 ^ tn t) (hg : gg < tN2 t) (hN : tN2 t ≤ 4096) (hcd : cand t gg s = true) (hPI : PI s (tA t gg) (tfu t) (tn t) M pa w w20) {x1 : Int32}
    (k : ∀ υ, TI σ t υ → TB t υ s → RW υ s (bstO (mdC t (md t) s) (gg + 1)) (fun e => bstO (msC t (ms t) e s) (gg + 1)) → aW g YM 10 Q 408 [some (.ref 0), some (.int x1), some (.int (nI s)), some (.int (nI (ones s))), some (.int (nI gg)), none, none, none, none, none] [] υ) (τ : St) (hTI : TI σ t τ) (hTB : TB t τ s) (hM : τ 0 32 = nI M) (hw : τ 19 = w) (hRW : RW τ s (bstO (mdC t (md t) s) gg) (fun e => bstO (msC t (ms t) e s) gg)) :
    aW g YM 10 Q 168 [some (.ref 0), some (.int x1), some (.int (nI s)), some (.int (nI (ones s))), some (.int (nI gg)), none, none, none, none, none] [] τ := by
  have hn10 := ht.1
  have h10 : 2 ^ tn t ≤ 1024 := Nat.pow_le_pow_right (by decide) ht.1
  have hMn : M ≤ 10 := Nat.le_trans hPI.1 hn10
  have hcost : mdC t (md t) s gg = (maxO (fun a => if pA t gg s a = 0 then some 0 else (md t (pA t gg s a)).map Prod.fst) 60).map (fun x => 1 + x) := by unfold mdC; rw [if_pos hcd]
  rw [← PI_max hPI (fun p => (md t p).map Prod.fst)] at hcost
  generalize hf : (fun m => (fun p => (md t p).map Prod.fst) (pA t gg s (pa m))) = f at hcost
  have hfm : ∀ m, f m = (md t (pA t gg s (pa m))).map Prod.fst := fun m => by rw [← hf]
  have hval : ∀ m y, m < M → f m = some y → y ≤ 11 := fun m y hm hy => by
    rw [hfm, Option.map_eq_some_iff] at hy
    obtain ⟨b, hb, rfl⟩ := hy
    have hpa : ¬ pA t gg s (pa m) = 0 := (PI_any hPI (pa m)).mp ((anyN_iff _ _).mpr ⟨m, hm, by simp⟩)
    have h1 := md_le ht _ _ b (Nat.le_refl _) (Nat.pos_of_ne_zero hpa) (pA_lt _ _ _) hb
    exact Nat.le_trans h1 (cnt_le _ _)
  have hmx : ∀ m x, m ≤ M → maxO f m = some x → x ≤ 11 := fun m x hm hx => maxO_le m x hx (fun i hi y hy => hval i y (by omega) hy)
  obtain ⟨⟨hcur, hcby⟩, hR2⟩ := id hRW
  have hbb : ∀ b, bstO (mdC t (md t) s) gg = some b → b.1 ≤ 12 := fun b hb => mdC_le ht (bstO_val _ _ hb).2
  -- behind the depth's row
  have kno : bstO (mdC t (md t) s) (gg + 1) = bstO (mdC t (md t) s) gg → ∀ x5 : Int32, aW g YM 10 Q 251 [some (.ref 0), some (.int x1), some (.int (nI s)), some (.int (nI (ones s))), some (.int (nI gg)), some (.int x5), none, none, none, none] [] τ := by
    intro e x5
    have hd := T_d (x1 := x1) (x5 := x5) (Q := Q) hc ht hs hg hN hcd hPI (bstO (mdC t (md t) s) (gg + 1)) k τ hTI hTB hM hw (by rw [e]; exact hRW)
    refine st_iconst (v := 0) hc dX12_trees_251 (by decide) ?_
    refine st_istore hc dX12_trees_252 (by decide) rfl ?_
    exact st_lvq _ (by simp [lvq, List.set, nI_0]) hd
  have kyes : ∀ v, bstO (mdC t (md t) s) (gg + 1) = some (v, gg) → ∀ x5 : Int32, aW g YM 10 Q 251 [some (.ref 0), some (.int x1), some (.int (nI s)), some (.int (nI (ones s))), some (.int (nI gg)), some (.int x5), none, none, none, none] [] (up (up τ 14 s (nI v)) 15 s (nI gg)) := by
    intro v e x5
    have hTI' : TI σ t (up (up τ 14 s (nI v)) 15 s (nI gg)) := (hTI.v (k := 14) rfl (by decide) (by decide) (by decide) _).v (k := 15) rfl (by decide) (by decide) (by decide) _
    have hTB' : TB t (up (up τ 14 s (nI v)) 15 s (nI gg)) s := by
      refine hTB.eq (fun p hp => ?_) (fun p hp => ?_) (fun _ _ _ => rfl) (fun _ _ _ => rfl)
      · rw [up_eq, if_neg (fun q => absurd q.1 (by decide)), up_eq, if_neg (fun q => by omega)]
      · rw [up_eq, if_neg (fun q => by omega)]; rfl
    have hRW' : RW (up (up τ 14 s (nI v)) 15 s (nI gg)) s (bstO (mdC t (md t) s) (gg + 1)) (fun e => bstO (msC t (ms t) e s) gg) := by
      rw [e]
      refine ⟨⟨?_, fun b hb => ?_⟩, hR2⟩
      · rw [up_eq, if_neg (fun q => absurd q.1 (by decide)), up_eq, if_pos ⟨rfl, rfl⟩]; rfl
      · cases hb; rw [up_eq, if_pos ⟨rfl, rfl⟩]
    have hd := T_d (x1 := x1) (x5 := x5) (Q := Q) hc ht hs hg hN hcd hPI (bstO (mdC t (md t) s) (gg + 1)) k _ hTI' hTB' hM hw hRW'
    refine st_iconst (v := 0) hc dX12_trees_251 (by decide) ?_
    refine st_istore hc dX12_trees_252 (by decide) rfl ?_
    exact st_lvq _ (by simp [lvq, List.set, nI_0]) hd
  have k220 : aW g YM 10 Q 220 [some (.ref 0), some (.int x1), some (.int (nI s)), some (.int (nI (ones s))), some (.int (nI gg)), some (.int (encX 0 (maxO f M))), none, none, none, none] [] τ := by
    cases ho : maxO f M with
    | none =>
      rw [ho] at hcost
      have e := bst_no (c := mdC t (md t) s) (n := gg) hcost
      have hle : enc (bstO (mdC t (md t) s) gg) ≤ 1 + (1000000000 : Int32) := by
        cases hb : bstO (mdC t (md t) s) gg with
        | none => exact (by decide : (1000000000 : Int32) ≤ 1 + 1000000000)
        | some b => exact nI_le (b := 1000000001) (by have := hbb b hb; omega) (by decide)
      refine st_iconst (v := 1) hc dX12_trees_220 (by decide) ?_
      refine st_iload hc dX12_trees_221 rfl ?_
      refine st_iadd hc dX12_trees_223 ?_
      refine st_aload_n hc dX12_trees_224 rfl rfl ?_
      refine st_getr hc dX12_trees_225 flX12_63 rfl rfl ?_
      refine st_iload_n hc dX12_trees_228 rfl rfl ?_
      refine st_ialdN (k := s) hc dX12_trees_229 rfl (rfl) (by omega) (by first | decide | omega) (hcur) ?_
      refine st_icmp_ge (tgt := 251) hc dX12_trees_230 (by decide) (fun h230 => ?_) (fun h230 => ?_)
      · exact st_lvq _ (by simp [lvq]) (kno e (encX 0 none))
      · exact absurd hle h230
    | some x =>
      rw [ho] at hcost
      have hcost : mdC t (md t) s gg = some (1 + x) := hcost
      have e := bst_some (c := mdC t (md t) s) (n := gg) hcost
      have hx := hmx M x (Nat.le_refl _) ho
      have e1 : (1 : Int32) + nI (0 + x) = nI (1 + x) := by rw [Nat.zero_add, show (1 : Int32) = nI 1 from rfl, nI_add]
      cases hb : bstO (mdC t (md t) s) gg with
      | none =>
        rw [hb] at e hcur
        have kk := kyes (1 + x) e
        refine st_iconst (v := 1) hc dX12_trees_220 (by decide) ?_
        refine st_iload hc dX12_trees_221 rfl ?_
        refine st_iadd hc dX12_trees_223 ?_
        refine st_aload_n hc dX12_trees_224 rfl rfl ?_
        refine st_getr hc dX12_trees_225 flX12_63 rfl rfl ?_
        refine st_iload_n hc dX12_trees_228 rfl rfl ?_
        refine st_ialdN (k := s) hc dX12_trees_229 rfl (rfl) (by omega) (by first | decide | omega) (hcur) ?_
        refine st_icmp_ge (tgt := 251) hc dX12_trees_230 (by decide) (fun h230 => ?_) (fun h230 => ?_)
        · exfalso
          have h230 : (1000000000 : Int32) ≤ 1 + nI (0 + x) := h230
          rw [e1] at h230
          exact absurd ((nI_leI (a := 1000000000) (by decide) (by omega)).mp h230) (by omega)
        · refine st_aload_n hc dX12_trees_233 rfl rfl ?_
          refine st_getr hc dX12_trees_234 flX12_63 rfl rfl ?_
          refine st_iload_n hc dX12_trees_237 rfl rfl ?_
          refine st_iconst (v := 1) hc dX12_trees_238 (by decide) ?_
          refine st_iload hc dX12_trees_239 rfl ?_
          refine st_iadd hc dX12_trees_241 ?_
          refine st_iastN (k := s) hc dX12_trees_242 rfl (rfl) (by omega) (by first | decide | omega)  ?_
          refine st_aload_n hc dX12_trees_243 rfl rfl ?_
          refine st_getr hc dX12_trees_244 flX12_66 rfl rfl ?_
          refine st_iload_n hc dX12_trees_247 rfl rfl ?_
          refine st_iload hc dX12_trees_248 rfl ?_
          refine st_iastN (k := s) hc dX12_trees_250 rfl (rfl) (by omega) (by first | decide | omega)  ?_
          have kk := kk (nI (0 + x))
          rw [← e1] at kk
          exact st_lvq _ (by simp [lvq, encX]) kk
      | some b =>
        have hb1 := hbb b hb
        rw [hb] at e hcur
        have e : bstO (mdC t (md t) s) (gg + 1) = if 1 + x < b.1 then some (1 + x, gg) else some b := e
        refine st_iconst (v := 1) hc dX12_trees_220 (by decide) ?_
        refine st_iload hc dX12_trees_221 rfl ?_
        refine st_iadd hc dX12_trees_223 ?_
        refine st_aload_n hc dX12_trees_224 rfl rfl ?_
        refine st_getr hc dX12_trees_225 flX12_63 rfl rfl ?_
        refine st_iload_n hc dX12_trees_228 rfl rfl ?_
        refine st_ialdN (k := s) hc dX12_trees_229 rfl (rfl) (by omega) (by first | decide | omega) (hcur) ?_
        refine st_icmp_ge (tgt := 251) hc dX12_trees_230 (by decide) (fun h230 => ?_) (fun h230 => ?_)
        · have h230 : nI b.1 ≤ 1 + nI (0 + x) := h230
          rw [e1] at h230
          rw [if_neg (Nat.not_lt.mpr ((nI_leI (by omega) (by omega)).mp h230))] at e
          have kk := kno (e.trans hb.symm) (nI (0 + x))
          exact st_lvq _ (by simp [lvq, encX]) kk
        · have h230 : ¬ nI b.1 ≤ 1 + nI (0 + x) := h230
          rw [e1] at h230
          rw [if_pos (Nat.lt_of_not_le (fun q => h230 (nI_le q (by omega))))] at e
          have kk := kyes (1 + x) e (nI (0 + x))
          rw [← e1] at kk
          refine st_aload_n hc dX12_trees_233 rfl rfl ?_
          refine st_getr hc dX12_trees_234 flX12_63 rfl rfl ?_
          refine st_iload_n hc dX12_trees_237 rfl rfl ?_
          refine st_iconst (v := 1) hc dX12_trees_238 (by decide) ?_
          refine st_iload hc dX12_trees_239 rfl ?_
          refine st_iadd hc dX12_trees_241 ?_
          refine st_iastN (k := s) hc dX12_trees_242 rfl (rfl) (by omega) (by first | decide | omega)  ?_
          refine st_aload_n hc dX12_trees_243 rfl rfl ?_
          refine st_getr hc dX12_trees_244 flX12_66 rfl rfl ?_
          refine st_iload_n hc dX12_trees_247 rfl rfl ?_
          refine st_iload hc dX12_trees_248 rfl ?_
          refine st_iastN (k := s) hc dX12_trees_250 rfl (rfl) (by omega) (by first | decide | omega)  ?_
          exact st_lvq _ (by simp [lvq, encX]) kk
  have k174 : aW g YM 10 Q 174 [some (.ref 0), some (.int x1), some (.int (nI s)), some (.int (nI (ones s))), some (.int (nI gg)), some (.int (nI 0)), some (.int (nI 0)), none, none, none] [] τ := by
    refine lpN (n := M) (F := fun m => aW g YM 10 Q 174 [some (.ref 0), some (.int x1), some (.int (nI s)), some (.int (nI (ones s))), some (.int (nI gg)), some (.int (encX 0 (maxO f m))), some (.int (nI m)), none, none, none] [] τ) ?_ (fun m hm ih => ?_)
    · refine st_iload hc dX12_trees_174 rfl ?_
      refine st_aload_n hc dX12_trees_176 rfl rfl ?_
      refine st_getE hc dX12_trees_177 flX12_238 rfl rfl (hM) ?_
      refine st_icmp_ge (tgt := 220) hc dX12_trees_180 (by decide) (fun h180 => ?_) (fun h180 => ?_)
      · exact st_lvq _ (by simp [lvq]) k220
      · exact absurd (nI_le (Nat.le_refl _) (by omega)) h180
    · obtain ⟨a1, a2, a3, a4, a5⟩ := hPI.2.1 m hm
      rw [PI_prt hPI hm, ← hw] at a2
      have hpa : ¬ pA t gg s (pa m) = 0 := (PI_any hPI (pa m)).mp ((anyN_iff _ _).mpr ⟨m, hm, by simp⟩)
      have hpl := (part_ok ht hcd hs hpa a3).1
      have hdep : τ 14 (pA t gg s (pa m)) = encX 0 (f m) := by
        rw [(hTB _ (Nat.pos_of_ne_zero hpa) hpl).1.1, hfm]
        cases md t (pA t gg s (pa m)) <;> simp [enc, encX]
      have es : maxO f (m + 1) = match maxO f m, f m with | some x, some y => some (if x < y then y else x) | _, _ => none := rfl
      refine st_iload hc dX12_trees_174 rfl ?_
      refine st_aload_n hc dX12_trees_176 rfl rfl ?_
      refine st_getE hc dX12_trees_177 flX12_238 rfl rfl (hM) ?_
      refine st_icmp_ge (tgt := 220) hc dX12_trees_180 (by decide) (fun h180 => ?_) (fun h180 => ?_)
      · exact absurd h180 (nI_ge hm (by omega))
      · refine st_aload_n hc dX12_trees_183 rfl rfl ?_
        refine st_getr hc dX12_trees_184 flX12_63 rfl rfl ?_
        refine st_aload_n hc dX12_trees_187 rfl rfl ?_
        refine st_getr hc dX12_trees_188 flX12_79 rfl rfl ?_
        refine st_iload hc dX12_trees_191 rfl ?_
        refine st_ialdN (k := m) hc dX12_trees_193 rfl (rfl) (by omega) (by first | decide | omega) (a2) ?_
        refine st_ialdN (k := pA t gg s (pa m)) hc dX12_trees_194 rfl (rfl) (by omega) (by first | decide | omega) (hdep) ?_
        refine st_iload hc dX12_trees_195 rfl ?_
        refine st_icmp_le (tgt := 214) hc dX12_trees_197 (by decide) (fun h197 => ?_) (fun h197 => ?_)
        · refine st_inc hc dX12_trees_214 rfl (by decide) rfl ?_
          rw [nI_1]
          refine st_goto (tgt := 174) hc dX12_trees_217 (by decide) ?_
          have e : encX 0 (maxO f (m + 1)) = if encX 0 (f m) ≤ encX 0 (maxO f m) then encX 0 (maxO f m) else encX 0 (f m) := by
            rw [es]
            cases h1 : maxO f m with
            | none =>
              cases h2 : f m with
              | none => rfl
              | some y =>
                have := hval m y hm h2
                rw [if_pos (show encX 0 (some y) ≤ encX 0 none from nI_le (a := 0 + y) (b := 1000000000) (by omega) (by decide))]
            | some x =>
              have hx := hmx m x (by omega) h1
              cases h2 : f m with
              | none =>
                rw [if_neg (show ¬ encX 0 none ≤ encX 0 (some x) from nI_ge (a := 0 + x) (b := 1000000000) (by omega) (by decide))]
              | some y =>
                have := hval m y hm h2
                show nI (0 + (if x < y then y else x)) = if nI (0 + y) ≤ nI (0 + x) then nI (0 + x) else nI (0 + y)
                by_cases q : x < y
                · rw [if_pos q, if_neg (nI_ge (by omega) (by omega))]
                · rw [if_neg q, if_pos (nI_le (by omega) (by omega))]
          rw [e] at ih
          first
            | (rw [if_pos h197] at ih; exact ih)
            | (rw [if_neg h197] at ih; exact ih)
        · refine st_aload_n hc dX12_trees_200 rfl rfl ?_
          refine st_getr hc dX12_trees_201 flX12_63 rfl rfl ?_
          refine st_aload_n hc dX12_trees_204 rfl rfl ?_
          refine st_getr hc dX12_trees_205 flX12_79 rfl rfl ?_
          refine st_iload hc dX12_trees_208 rfl ?_
          refine st_ialdN (k := m) hc dX12_trees_210 rfl (rfl) (by omega) (by first | decide | omega) (a2) ?_
          refine st_ialdN (k := pA t gg s (pa m)) hc dX12_trees_211 rfl (rfl) (by omega) (by first | decide | omega) (hdep) ?_
          refine st_istore hc dX12_trees_212 (by decide) rfl ?_
          refine st_inc hc dX12_trees_214 rfl (by decide) rfl ?_
          rw [nI_1]
          refine st_goto (tgt := 174) hc dX12_trees_217 (by decide) ?_
          have e : encX 0 (maxO f (m + 1)) = if encX 0 (f m) ≤ encX 0 (maxO f m) then encX 0 (maxO f m) else encX 0 (f m) := by
            rw [es]
            cases h1 : maxO f m with
            | none =>
              cases h2 : f m with
              | none => rfl
              | some y =>
                have := hval m y hm h2
                rw [if_pos (show encX 0 (some y) ≤ encX 0 none from nI_le (a := 0 + y) (b := 1000000000) (by omega) (by decide))]
            | some x =>
              have hx := hmx m x (by omega) h1
              cases h2 : f m with
              | none =>
                rw [if_neg (show ¬ encX 0 none ≤ encX 0 (some x) from nI_ge (a := 0 + x) (b := 1000000000) (by omega) (by decide))]
              | some y =>
                have := hval m y hm h2
                show nI (0 + (if x < y then y else x)) = if nI (0 + y) ≤ nI (0 + x) then nI (0 + x) else nI (0 + y)
                by_cases q : x < y
                · rw [if_pos q, if_neg (nI_ge (by omega) (by omega))]
                · rw [if_neg q, if_pos (nI_le (by omega) (by omega))]
          rw [e] at ih
          first
            | (rw [if_pos h197] at ih; exact ih)
            | (rw [if_neg h197] at ih; exact ih)
  refine st_iconst (v := 0) hc dX12_trees_168 (by decide) ?_
  refine st_istore hc dX12_trees_169 (by decide) rfl ?_
  refine st_iconst (v := 0) hc dX12_trees_171 (by decide) ?_
  refine st_istore hc dX12_trees_172 (by decide) rfl ?_
  exact st_lvq _ (by simp [lvq, List.set, nI_0]) k174

