/-- the stack of what waits, top first -/
def WS (τ : St) : List It → Prop
  | [] => True
  | i :: r => (τ 26 r.length = nI i.1 ∧ τ 27 r.length = i.2.1 ∧ τ 28 r.length = i.2.2.1 ∧ τ 29 r.length = nI i.2.2.2) ∧ WS τ r
theorem WS.eq {τ υ : St} : ∀ {st : List It}, WS τ st → (∀ i, i < st.length → υ 26 i = τ 26 i ∧ υ 27 i = τ 27 i ∧ υ 28 i = τ 28 i ∧ υ 29 i = τ 29 i) → WS υ st := by
  intro st
  induction st with
  | nil => intro _ _; trivial
  | cons i r ih =>
    intro h he
    obtain ⟨⟨a1, a2, a3, a4⟩, hr⟩ := h
    obtain ⟨b1, b2, b3, b4⟩ := he r.length (by simp)
    exact ⟨⟨b1.trans a1, b2.trans a2, b3.trans a3, b4.trans a4⟩, ih hr (fun j hj => he j (by simp; omega))⟩
def wtS (τ : St) (k : Nat) (i : It) : St := up (up (up (up τ 26 k (nI i.1)) 27 k i.2.1) 28 k i.2.2.1) 29 k (nI i.2.2.2)
theorem WS.push {τ : St} {st : List It} (h : WS τ st) (i : It) : WS (wtS τ st.length i) (i :: st) := by
  refine ⟨⟨?_, ?_, ?_, ?_⟩, h.eq (fun j hj => ⟨?_, ?_, ?_, ?_⟩)⟩ <;> unfold wtS <;> simp (decide := true) only [up_eq, false_and, true_and, if_false, if_true, and_self] <;> first | rfl | (rw [if_neg (by omega)])
theorem wtS_o {τ : St} {k : Nat} {i : It} {a : Nat} (h26 : a ≠ 26) (h27 : a ≠ 27) (h28 : a ≠ 28) (h29 : a ≠ 29) : wtS τ k i a = τ a := by
  unfold wtS
  rw [up_o a h29, up_o a h28, up_o a h27, up_o a h26]
/-- what stays while the tree is written -/
def TT (B : St) (t : TD) (τ : St) : Prop := sE B τ ∧ τ 0 18 = nI (tn t) ∧ (∀ g, g < tN2 t → ∀ k, k < tn t → τ 18 (10 * g + k) = nI (tA t g k)) ∧ TB t τ (2 ^ tn t)
theorem TT.wt {B τ : St} {t : TD} (h : TT B t τ) (k : Nat) (i : It) : TT B t (wtS τ k i) := by
  obtain ⟨h1, h2, h3, h4⟩ := h
  refine ⟨?_, ?_, ?_, ?_⟩
  · exact (((h1.v (k := 26) rfl (by decide) _).v (k := 27) rfl (by decide) _).v (k := 28) rfl (by decide) _).v (k := 29) rfl (by decide) _
  · rw [wtS_o (by decide) (by decide) (by decide) (by decide)]; exact h2
  · intro g hg k hk; rw [wtS_o (by decide) (by decide) (by decide) (by decide)]; exact h3 g hg k hk
  · refine h4.eq (fun _ _ => ?_) (fun _ _ => ?_) (fun _ _ _ => ?_) (fun _ _ _ => ?_) <;> rw [wtS_o (by decide) (by decide) (by decide) (by decide)]
theorem kdF_len {t : TD} {g s c dp : Nat} : ∀ j, (kdF t g s c dp j).length ≤ j := by
  intro j
  induction j with
  | zero => exact Nat.le_refl _
  | succ j ih =>
    rw [kdF]
    split
    · omega
    · rw [List.length_cons]; omega
theorem T_push {g : Gx} {dd : Nat} {B : St} {t : TD} {Q : Option Value → St → Prop} {s gg c dp M : Nat} {pa : Nat → Nat} {w19 w20 : Nat → Int32} {r : List It} (hc : cX g YM RX12 cX12_tree 13 (some .int) dd) (hPI : PI s (tA t gg) (tfu t) (tn t) M pa w19 w20) (hn10 : tn t ≤ 10) (hc40 : c < 40) (hr : r.length ≤ 40) (hdp : dp ≤ 30) (hB33 : B 0 33 = nI c) {x1 x2 x3 x4 x5 x9 x10 : Int32}
    (k : ∀ υ, TT B t υ → WS υ (kdF t gg s c dp 60 ++ r) → aW g YM 13 Q 328 [some (.ref 0), some (.int x1), some (.int x2), some (.int x3), some (.int x4), some (.int x5), some (.int (nI (kdF t gg s c dp 60 ++ r).length)), none, none, none, none, none, none] [] υ) (τ0 : St) (h1 : TT B t τ0) (h2 : WS τ0 r) (h3 : τ0 0 32 = nI M) (h4 : τ0 19 = w19) (h5 : τ0 20 = w20) :
    aW g YM 13 Q 236 [some (.ref 0), some (.int x1), some (.int x2), some (.int x3), some (.int x4), some (.int x5), some (.int (nI r.length)), some (.int (nI s)), some (.int (nI dp)), some (.int x9), some (.int x10), some (.int (nI 60 - 1)), none] [] τ0 := by
  have hMn : M ≤ 10 := Nat.le_trans hPI.1 hn10
  refine lpN (n := 60) (F := fun j => ∀ τ, TT B t τ → WS τ (kdF t gg s c dp j ++ r) → τ 0 32 = nI M → τ 19 = w19 → τ 20 = w20 → aW g YM 13 Q 236 [some (.ref 0), some (.int x1), some (.int x2), some (.int x3), some (.int x4), some (.int x5), some (.int (nI (kdF t gg s c dp j ++ r).length)), some (.int (nI s)), some (.int (nI dp)), some (.int x9), some (.int x10), some (.int (nI (60 - j) - 1)), none] [] τ) ?_ (fun j hj ih => ?_) τ0 h1 h2 h3 h4 h5
  · intro τ h1 h2 h3 h4 h5
    have kk := k τ h1 h2
    refine st_iload hc dX12_tree_236 rfl ?_
    refine st_if_lt (tgt := 328) hc dX12_tree_238 (by decide) (fun h238 => ?_) (fun h238 => ?_)
    · exact st_lvq _ (by simp [lvq]) kk
    · exact absurd (by decide) h238
  · intro τ h1 h2 h3 h4 h5
    have ea : nI (60 - j) - 1 = nI (59 - j) := by rw [show 60 - j = (59 - j) + 1 by omega, nI_pred]
    rw [ea]
    have hkl := kdF_len (t := t) (g := gg) (s := s) (c := c) (dp := dp) j
    have hlen : (kdF t gg s c dp j ++ r).length ≤ 110 := by rw [List.length_append]; omega
    have enext : nI (59 - j) - 1 = nI (60 - (j + 1)) - 1 := by rw [show 60 - (j + 1) = 59 - j by omega]
    -- the end of the row of parts
    have kend : ∀ τ, TT B t τ → WS τ (kdF t gg s c dp (j + 1) ++ r) → τ 0 32 = nI M → τ 19 = w19 → τ 20 = w20 → aW g YM 13 Q 322 [some (.ref 0), some (.int x1), some (.int x2), some (.int x3), some (.int x4), some (.int x5), some (.int (nI (kdF t gg s c dp (j + 1) ++ r).length)), some (.int (nI s)), some (.int (nI dp)), some (.int x9), some (.int x10), some (.int (nI (59 - j))), none] [] τ := by
      intro τ h1 h2 h3 h4 h5
      refine st_dec hc dX12_tree_322 rfl (by decide) rfl ?_
      rw [enext]
      refine st_goto (tgt := 236) hc dX12_tree_325 (by decide) ?_
      exact ih τ h1 h2 h3 h4 h5
    have k244 : aW g YM 13 Q 244 [some (.ref 0), some (.int x1), some (.int x2), some (.int x3), some (.int x4), some (.int x5), some (.int (nI (kdF t gg s c dp j ++ r).length)), some (.int (nI s)), some (.int (nI dp)), some (.int x9), some (.int x10), some (.int (nI (59 - j))), some (.int (nI 0))] [] τ := by
      have ekd : kdF t gg s c dp (j + 1) = if pA t gg s (59 - j) = 0 then kdF t gg s c dp j else (pA t gg s (59 - j), nI c, nI (59 - j), dp + 1) :: kdF t gg s c dp j := rfl
      refine lpN (n := M) (F := fun m => ∀ τ, TT B t τ → WS τ (if anyN m (fun m => pa m == 59 - j) = true then kdF t gg s c dp (j + 1) ++ r else kdF t gg s c dp j ++ r) → τ 0 32 = nI M → τ 19 = w19 → τ 20 = w20 → aW g YM 13 Q 244 [some (.ref 0), some (.int x1), some (.int x2), some (.int x3), some (.int x4), some (.int x5), some (.int (nI (if anyN m (fun m => pa m == 59 - j) = true then kdF t gg s c dp (j + 1) ++ r else kdF t gg s c dp j ++ r).length)), some (.int (nI s)), some (.int (nI dp)), some (.int x9), some (.int x10), some (.int (nI (59 - j))), some (.int (nI m))] [] τ) ?_ (fun m hm ih2 => ?_) τ h1 h2 h3 h4 h5
      · intro τ h1 h2 h3 h4 h5
        have es : (if anyN M (fun m => pa m == 59 - j) = true then kdF t gg s c dp (j + 1) ++ r else kdF t gg s c dp j ++ r) = kdF t gg s c dp (j + 1) ++ r := by
          by_cases q : anyN M (fun m => pa m == 59 - j) = true
          · rw [if_pos q]
          · rw [if_neg q]
            have : pA t gg s (59 - j) = 0 := Decidable.byContradiction (fun z => q ((PI_any hPI _).mpr z))
            rw [ekd, if_pos this]
        rw [es] at h2 ⊢
        have kk := kend τ h1 h2 h3 h4 h5
        refine st_iload hc dX12_tree_244 rfl ?_
        refine st_aload_n hc dX12_tree_246 rfl rfl ?_
        refine st_getE hc dX12_tree_247 flX12_238 rfl rfl (h3) ?_
        refine st_icmp_ge (tgt := 322) hc dX12_tree_250 (by decide) (fun h250 => ?_) (fun h250 => ?_)
        · exact st_lvq _ (by simp [lvq]) kk
        · exact absurd (nI_le (Nat.le_refl _) (by omega)) h250
      · intro τ h1 h2 h3 h4 h5
        obtain ⟨a1, a2, a3, a4, a5⟩ := hPI.2.1 m hm
        rw [← h5] at a1
        rw [← h4, PI_prt hPI hm] at a2
        by_cases e : pa m = 59 - j
        · have hpre : anyN m (fun m => pa m == 59 - j) = false := by
            rcases hb : anyN m (fun m => pa m == 59 - j) with _ | _
            · rfl
            · obtain ⟨m', hm', e'⟩ := (anyN_iff _ _).mp hb
              have := hPI.2.2.1 m' m (by omega) hm ((beq_iff_eq.mp e').trans e.symm)
              omega
          have hnext : anyN (m + 1) (fun m => pa m == 59 - j) = true := (anyN_iff _ _).mpr ⟨m, by omega, beq_iff_eq.mpr e⟩
          rw [hpre, if_neg (by decide)] at h2
          rw [hnext, if_pos rfl] at ih2
          rw [hpre, if_neg (by decide)]
          have hpn : ¬ pA t gg s (59 - j) = 0 := (PI_any hPI _).mp ((anyN_iff _ _).mpr ⟨m, hm, beq_iff_eq.mpr e⟩)
          rw [if_neg hpn] at ekd
          rw [e] at a2
          have hn33 : τ 0 33 = nI c := (h1.1 0 33 rfl).trans hB33
          have hws := h2.push (pA t gg s (59 - j), nI c, nI (59 - j), dp + 1)
          have kk := ih2 _ (h1.wt (kdF t gg s c dp j ++ r).length (pA t gg s (59 - j), nI c, nI (59 - j), dp + 1)) (by rw [ekd]; exact hws) (by rw [wtS_o (by decide) (by decide) (by decide) (by decide)]; exact h3) (by rw [wtS_o (by decide) (by decide) (by decide) (by decide)]; exact h4) (by rw [wtS_o (by decide) (by decide) (by decide) (by decide)]; exact h5)
          rw [ekd] at kk
          generalize hK : (kdF t gg s c dp j ++ r).length = K at *
          rw [show ((pA t gg s (59 - j), nI c, nI (59 - j), dp + 1) :: kdF t gg s c dp j ++ r).length = K + 1 by rw [List.cons_append, List.length_cons, hK]] at kk
          refine st_iload hc dX12_tree_244 rfl ?_
          refine st_aload_n hc dX12_tree_246 rfl rfl ?_
          refine st_getE hc dX12_tree_247 flX12_238 rfl rfl (h3) ?_
          refine st_icmp_ge (tgt := 322) hc dX12_tree_250 (by decide) (fun h250 => ?_) (fun h250 => ?_)
          · exact absurd h250 (nI_ge hm (by omega))
          · refine st_aload_n hc dX12_tree_253 rfl rfl ?_
            refine st_getr hc dX12_tree_254 flX12_82 rfl rfl ?_
            refine st_iload hc dX12_tree_257 rfl ?_
            refine st_ialdN (k := m) hc dX12_tree_259 rfl (rfl) (by omega) (by first | decide | omega) (a1) ?_
            refine st_iload hc dX12_tree_260 rfl ?_
            refine st_icmp_eq (tgt := 268) hc dX12_tree_262 (by decide) (fun h262 => ?_) (fun h262 => ?_)
            · refine st_aload_n hc dX12_tree_268 rfl rfl ?_
              refine st_getr hc dX12_tree_269 flX12_100 rfl rfl ?_
              refine st_iload hc dX12_tree_272 rfl ?_
              refine st_aload_n hc dX12_tree_274 rfl rfl ?_
              refine st_getr hc dX12_tree_275 flX12_79 rfl rfl ?_
              refine st_iload hc dX12_tree_278 rfl ?_
              refine st_ialdN (k := m) hc dX12_tree_280 rfl (rfl) (by omega) (by first | decide | omega) (a2) ?_
              refine st_iastN (k := K) hc dX12_tree_281 rfl (rfl) (by omega) (by first | decide | omega)  ?_
              refine st_aload_n hc dX12_tree_282 rfl rfl ?_
              refine st_getr hc dX12_tree_283 flX12_103 rfl rfl ?_
              refine st_iload hc dX12_tree_286 rfl ?_
              refine st_aload_n hc dX12_tree_288 rfl rfl ?_
              refine st_getE hc dX12_tree_289 flX12_186 rfl rfl (hn33) ?_
              refine st_iastN (k := K) hc dX12_tree_292 rfl (rfl) (by omega) (by first | decide | omega)  ?_
              refine st_aload_n hc dX12_tree_293 rfl rfl ?_
              refine st_getr hc dX12_tree_294 flX12_106 rfl rfl ?_
              refine st_iload hc dX12_tree_297 rfl ?_
              refine st_iload hc dX12_tree_299 rfl ?_
              refine st_iastN (k := K) hc dX12_tree_301 rfl (rfl) (by omega) (by first | decide | omega)  ?_
              refine st_aload_n hc dX12_tree_302 rfl rfl ?_
              refine st_getr hc dX12_tree_303 flX12_109 rfl rfl ?_
              refine st_iload hc dX12_tree_306 rfl ?_
              refine st_iload hc dX12_tree_308 rfl ?_
              refine st_iconst (v := 1) hc dX12_tree_310 (by decide) ?_
              refine st_iadd hc dX12_tree_311 ?_
              rw [nI_1]
              refine st_iastN (k := K) hc dX12_tree_312 rfl (rfl) (by omega) (by first | decide | omega)  ?_
              refine st_inc hc dX12_tree_313 rfl (by decide) rfl ?_
              rw [nI_1]
              refine st_inc hc dX12_tree_316 rfl (by decide) rfl ?_
              rw [nI_1]
              refine st_goto (tgt := 244) hc dX12_tree_319 (by decide) ?_
              exact kk
            · exact absurd (by rw [e]) h262
        · have hnext : anyN (m + 1) (fun m => pa m == 59 - j) = anyN m (fun m => pa m == 59 - j) := by rw [anyN_s, beq_eq_false_iff_ne.mpr e, Bool.or_false]
          rw [hnext] at ih2
          have kk := ih2 τ h1 h2 h3 h4 h5
          generalize (if anyN m (fun m => pa m == 59 - j) = true then kdF t gg s c dp (j + 1) ++ r else kdF t gg s c dp j ++ r).length = K at *
          refine st_iload hc dX12_tree_244 rfl ?_
          refine st_aload_n hc dX12_tree_246 rfl rfl ?_
          refine st_getE hc dX12_tree_247 flX12_238 rfl rfl (h3) ?_
          refine st_icmp_ge (tgt := 322) hc dX12_tree_250 (by decide) (fun h250 => ?_) (fun h250 => ?_)
          · exact absurd h250 (nI_ge hm (by omega))
          · refine st_aload_n hc dX12_tree_253 rfl rfl ?_
            refine st_getr hc dX12_tree_254 flX12_82 rfl rfl ?_
            refine st_iload hc dX12_tree_257 rfl ?_
            refine st_ialdN (k := m) hc dX12_tree_259 rfl (rfl) (by omega) (by first | decide | omega) (a1) ?_
            refine st_iload hc dX12_tree_260 rfl ?_
            refine st_icmp_eq (tgt := 268) hc dX12_tree_262 (by decide) (fun h262 => ?_) (fun h262 => ?_)
            · exact absurd (nI_inj (by omega) (by omega) h262) e
            · refine st_goto (tgt := 316) hc dX12_tree_265 (by decide) ?_
              refine st_inc hc dX12_tree_316 rfl (by decide) rfl ?_
              rw [nI_1]
              refine st_goto (tgt := 244) hc dX12_tree_319 (by decide) ?_
              exact kk
    refine st_iload hc dX12_tree_236 rfl ?_
    refine st_if_lt (tgt := 328) hc dX12_tree_238 (by decide) (fun h238 => ?_) (fun h238 => ?_)
    · exact absurd h238 (nI_pos (by omega))
    · refine st_iconst (v := 0) hc dX12_tree_241 (by decide) ?_
      refine st_istore hc dX12_tree_242 (by decide) rfl ?_
      exact st_lvq _ (by simp [lvq, List.set, nI_0]) k244

