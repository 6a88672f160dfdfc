/-! ===== the law's own at: the court and a row of one long ===== -/
def YL : List Sh := YC ++ [.inl (2, 1, [])]
theorem yl_c {k : Nat} {x : Sh} (h : YC[k]? = some x) : YL[k]? = some x := by
  unfold YL
  rw [List.getElem?_append_left (List.getElem?_eq_some_iff.mp h).1]
  exact h
theorem wW_app (dA : Nat → ClassId) (ad : Nat → Nat) (σ : St) : ∀ (Y1 Y2 : List Sh) (k : Nat), wW dA ad σ k (Y1 ++ Y2) = wW dA ad σ k Y1 ++ wW dA ad σ (k + Y1.length) Y2 := by
  intro Y1
  induction Y1 with
  | nil => intro Y2 k; simp [wW]
  | cons x Y1 ih => intro Y2 k; simp only [List.cons_append, wW, List.length_cons]; rw [ih Y2 (k + 1)]; simp [Nat.add_assoc, Nat.add_comm 1]
/-- a contract over a layout holds over a longer one -/
theorem vMt.wide {Y E : List Sh} {md : Md} {d mc ms : Nat} {av : List Value} {σ : St} {Q : Option Value → St → Prop} {X : String → Prop} (hM : vMt Y md d mc ms av σ Q X) : vMt (Y ++ E) md d mc ms av σ (fun r τ => ∃ υ, Q r υ ∧ (∀ k, k < Y.length → τ k = υ k) ∧ ∀ k, Y.length ≤ k → τ k = σ k) X := by
  intro l hl D dA ad p e ha hc hk s m args below hf happ hP hK
  obtain ⟨⟨h1, h2, h3, h4, h5⟩, h6⟩ := hP
  have hsub : ∀ q, cA ad Y q → cA ad (Y ++ E) q := fun q ⟨k, hk, e⟩ => ⟨k, by rw [List.length_append]; omega, e⟩
  have hPy : va_P D vwCl (wW dA ad σ 0 Y) s.heap := h2.by (fun k => k) (fun k q hq => by
    rw [wW_get] at hq ⊢
    obtain ⟨x, hx, e⟩ := Option.map_eq_some_iff.mp hq
    rw [List.getElem?_append_left (List.getElem?_eq_some_iff.mp hx).1, hx]
    exact congrArg some e)
  have hPe : va_P D vwCl (wW dA ad σ Y.length E) s.heap := h2.by (fun k => Y.length + k) (fun k q hq => by
    rw [wW_get] at hq ⊢
    rw [List.getElem?_append_right (by omega), Nat.add_sub_cancel_left, Nat.zero_add]
    exact hq)
  have hDy : cD ad Y := fun i j hi hj e => h4 i j (by rw [List.length_append]; omega) (by rw [List.length_append]; omega) e
  have hap : ∀ i, Y.length ≤ i → i < Y.length + E.length → ¬ cA ad Y (ad i) := fun i h1 h2 ⟨k, hk, e⟩ => by
    have := h4 i k (by rw [List.length_append]; omega) (by rw [List.length_append]; omega) e
    omega
  have htk : tK ad Y s := by
    obtain ⟨t1, t2, t3, t4, t5, t6, t7⟩ := h6
    exact ⟨t1, t2, t3, t4, t5.narrow hsub, t6.narrow hsub, t7⟩
  obtain ⟨n, o, k1, k2, k3, k4⟩ := hM l hl D dA ad p e ha hc hk s m args below hf happ ⟨⟨h1, hPy, h3, hDy, h5⟩, htk⟩ hK
  have hF2 : ∀ {t : State}, va_F (cA ad Y) s t → va_F (cA ad (Y ++ E)) s t := fun h => ⟨h.1, fun q q1 q2 => h.2 q q1 (fun z => q2 (hsub q z))⟩
  have hE2 : ∀ {t : State}, va_F (cA ad Y) s t → va_P D vwCl (wW dA ad σ Y.length E) t.heap := fun h => hPe.kept (fun k x hx => by
    have hx0 := hx
    rw [wW_get] at hx
    obtain ⟨y, hy, rfl⟩ := Option.map_eq_some_iff.mp hx
    exact h.2 _ ((hPe k _ hx0).lt) (hap _ (by omega) (by have := (List.getElem?_eq_some_iff.mp hy).1; omega)))
  refine ⟨n, o, k1, k2, k3, ?_⟩
  rcases k4 with ⟨⟨⟨r, τ, e1, e2, e3⟩, hF⟩, L, f1, f2⟩ | ⟨q, e1, E9, ce, L, ⟨hX, hb, hF⟩, z1, z2, z3, z4, z5, z6⟩
  · refine Or.inl ⟨⟨⟨r, fun k => if k < Y.length then τ k else σ k, e1, ⟨τ, e2, fun k hk => if_pos hk, fun k hk => if_neg (by omega)⟩, ?_⟩, hF2 hF⟩, L, f1, fun q hq => hsub _ (f2 q hq)⟩
    rw [wW_app, Nat.zero_add]
    refine va_P.app ?_ ?_
    · refine e3.by (fun k => k) (fun k q hq => ?_)
      rw [wW_get] at hq ⊢
      obtain ⟨x, hx, e⟩ := Option.map_eq_some_iff.mp hq
      rw [hx]
      have hk := (List.getElem?_eq_some_iff.mp hx).1
      rw [← e]
      simp only [Option.map_some, Nat.zero_add]
      rw [wE_same (dA := dA) (ad := ad) (σ := fun k => if k < Y.length then τ k else σ k) (τ := τ) (k := k) x (if_pos hk)]
    · refine (hE2 hF).by (fun k => k) (fun k q hq => ?_)
      rw [wW_get] at hq ⊢
      obtain ⟨x, hx, e⟩ := Option.map_eq_some_iff.mp hq
      rw [hx, ← e]
      simp only [Option.map_some]
      rw [wE_same (dA := dA) (ad := ad) (σ := fun k => if k < Y.length then τ k else σ k) (τ := σ) (k := Y.length + k) x (if_neg (by omega))]
  · refine Or.inr ⟨q, e1, E9, ce, L, ⟨hX, ?_, hF2 hF⟩, z1, z2, z3, z4, z5, fun z hz => hsub _ (z6 z hz)⟩
    rw [wW_app, Nat.zero_add]
    exact hb.app (hE2 hF)
theorem wW_cong {dA : Nat → ClassId} {ad : Nat → Nat} {σ σ' : St} {Y : List Sh} (h : ∀ k, k < Y.length → σ' k = σ k) : wW dA ad σ' 0 Y = wW dA ad σ 0 Y := by
  apply List.ext_getElem?
  intro k
  rw [wW_get, wW_get, Nat.zero_add]
  by_cases hk : k < Y.length
  · have e : (fun x => (ad k, wE dA ad σ' k x)) = (fun x => (ad k, wE dA ad σ k x)) := by
      funext x
      rw [wE_same (dA := dA) (ad := ad) (σ := σ') (τ := σ) (k := k) x (h k hk)]
    rw [e]
  · rw [List.getElem?_eq_none (by omega), Option.map_none, Option.map_none]
theorem vMt.cong {Y : List Sh} {md : Md} {d mc ms : Nat} {av : List Value} {σ σ' : St} {Q : Option Value → St → Prop} {X : String → Prop} (h : ∀ k, k < Y.length → σ' k = σ k) (hM : vMt Y md d mc ms av σ Q X) : vMt Y md d mc ms av σ' Q X := by
  intro l hl D dA ad
  have e : wW dA ad σ' 0 Y = wW dA ad σ 0 Y := wW_cong h
  have h1 : (fun v U => cP D dA ad Y av σ' v U ∧ tK ad Y U) = (fun v U => cP D dA ad Y av σ v U ∧ tK ad Y U) := by unfold cP; rw [e]
  have h2 : xC D dA ad Y σ' X = xC D dA ad Y σ X := by unfold xC; rw [e]
  rw [h1, h2]
  exact hM l hl D dA ad
abbrev mL_at : Md := (yL_at, cL_at, 5, some .int)
def hhA : List (Nat × Nat × Nat × Nat) := [(0, 10, 13, 13), (0, 10, 17, 15)]
/-- what at tells the law: 0 and the value, 1, 2 -/
theorem CL_at {k : Nat} {σ sl μ : St} (h : Rel k σ μ) (hsl : ∀ k, k < 74 → sl k = σ k) (p i : Int32) : hMt YL mL_at hhA 70 1 6 [.ref 0, .int p, .int i, .ref 74] sl (fun r τ => r = some (.int (thA μ p i)) ∧ (∀ k, k < 74 → τ k = σ k) ∧ (thA μ p i = 0 → jn (τ 74 0) (τ 74 1) = (μ 36 (60 * nat p + nat i)).toInt64)) := by
  refine hMt.ofB [some (.ref 0), some (.int p), some (.int i), some (.ref 74), none] (by decide) (fun _ => Nat.le_of_ble_eq_true rfl) (fun _ => rfl) (fun g hc hg => ?_)
  have hgl : gTl g YL := by
    obtain ⟨pp, l, e, R, s, m, args, below, meth, c, D, dA, ad⟩ := g
    exact ⟨hg.1, hg.2.1⟩
  have hgr : 0 + 1 ≤ g.2.2.2.1.cells ∧ 0 + 6 ≤ g.2.2.2.1.slots := by
    obtain ⟨pp, l, e, R, s, m, args, below, meth, c, D, dA, ad⟩ := g
    exact ⟨by show 1 ≤ R.cells; rw [hg.2.2.2.1]; decide, by show 6 ≤ R.slots; rw [hg.2.2.2.2]; decide⟩
  have htab : g.2.2.2.2.2.2.2.2.2.1.exceptionTable.toList = tableOf hhA := by
    obtain ⟨pp, l, e, R, s, m, args, below, meth, c, D, dA, ad⟩ := g
    exact hg.2.2.1
  have hdk : dK g.2.2.2.2.1 := by
    obtain ⟨pp, l, e, R, s, m, args, below, meth, c, D, dA, ad⟩ := g
    exact hg.2.1.2.2.2.2.2.2
  refine bt_aload_n hc dL_at_0 rfl rfl ?_
  refine bt_iconst (v := 0) hc dL_at_1 (by decide) ?_
  refine bt_aload_n hc dL_at_2 rfl rfl ?_
  refine bt_iload_n hc dL_at_3 rfl rfl ?_
  refine bt_iload_n hc dL_at_4 rfl rfl ?_
  refine bt_vcallV (rest := [.int 0, .ref 74]) (b := 0) (As := [.int p, .int i]) hc hgl hgr dL_at_5 (vMt.cong (Y := YC) hsl (C11_at h p i)).wide mvL_7 (by omega) rfl (yl_c yc0) rfl (Nat.le_of_ble_eq_true rfl) (fun E hE => ?_) (fun r τ hr => ?_)
  · rcases hE with ⟨rfl, e1⟩ | ⟨rfl, e2⟩
    · refine bt_catch (own := RL) (cc := cL_at) (i := 4) (name := "java/lang/IllegalArgumentException") hc [] ((tableOf hhA).headD default) ((tableOf hhA).tail) (htab.trans rfl) (fun _ hz => absurd hz List.not_mem_nil) rfl (by decide) (gw1 1100 (by decide +kernel) rfl) (tb_in 1108 (by decide +kernel)) hdk dL_at_13 (by decide) rfl rfl ?_
      refine bt_iconst (v := 1) hc dL_at_15 (by decide) ?_
      refine bt_iret hc dL_at_16 rfl (by decide) (by decide) ?_
      rw [e1]
      exact ⟨rfl, hsl, fun z => absurd z (by decide)⟩
    · refine bt_catch (own := RL) (cc := cL_at) (i := 4) (name := "java/lang/IllegalStateException") hc [(tableOf hhA).headD default] (((tableOf hhA).tail).headD default) [] (htab.trans rfl) (fun z hz => ?_) rfl (by decide) (gw1 1101 (by decide +kernel) rfl) (tb_in 1024 (by decide +kernel)) hdk dL_at_17 (by decide) rfl rfl ?_
      · rw [List.mem_singleton] at hz
        subst hz
        exact Or.inr ⟨by decide, "java/lang/IllegalArgumentException", gw1 1100 (by decide +kernel) rfl, hdk.2⟩
      refine bt_iconst (v := 2) hc dL_at_19 (by decide) ?_
      refine bt_iret hc dL_at_20 rfl (by decide) (by decide) ?_
      rw [e2]
      exact ⟨rfl, hsl, fun z => absurd z (by decide)⟩
  · obtain ⟨υ, ⟨⟨x, rfl, ex⟩, rfl, e0⟩, t1, t2⟩ := hr
    refine bt_i2l hc dL_at_8 ?_
    refine bt_lastN (k := 0) hc dL_at_9 (show YL[74]? = some (.inl (2, 1, [])) from rfl) rfl (by decide) (by decide) ?_
    refine bt_goto (tgt := 21) hc dL_at_10 (by decide) ?_
    refine bt_iconst (v := 0) hc dL_at_21 (by decide) ?_
    refine bt_iret hc dL_at_22 rfl (by decide) (by decide) ?_
    rw [e0]
    refine ⟨rfl, fun k hk => (upL_o k (by omega)).trans (t1 k hk), fun _ => ?_⟩
    rw [upL_k, ← ex]
    exact jn_eq _
