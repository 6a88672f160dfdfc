abbrev mX11_toss : Md := (yX11_toss, cX11_toss, 5, some .int)
def hhT : List (Nat × Nat × Nat × Nat) := [(31, 35, 38, 364)]
theorem C11_toss {k : Nat} {σ μ : St} (h : Rel k σ μ) (p : Int32) : hMt YC mX11_toss hhT 70 1 6 [.ref 0, .int p] σ (fun r τ => r = some (.int (sp_toss μ p).1) ∧ Rel (k + 1) τ (sp_toss μ p).2) := by
  have hV : rlV σ μ := h.1.2.2.2.2.2.2.2.2.2
  refine hMt.ofB [some (.ref 0), some (.int p), none, none, none] (by decide) (fun _ => Nat.le_of_ble_eq_true rfl) (fun _ => rfl) (fun g hc hg => ?_)
  refine bt_iload_n hc dX11_toss_0 rfl rfl ?_
  refine bt_callSp hc ⟨Nat.zero_le _, Nat.zero_le _⟩ dX11_toss_1 (C11_isShelf 60 σ p) msX11_331 (by omega) rfl rfl (Nat.le_of_ble_eq_true rfl) ?_
  refine bt_if_ne (tgt := 9) hc dX11_toss_4 (by decide) (fun h4 => ?_) (fun h4 => ?_)
  · have hin := of_decide_eq_true (bI_t h4)
    obtain ⟨ep, hD⟩ := sh_n hin
    have hs := shY_d hD
    obtain ⟨v1, v2, v3, v4, v5, v6, v7⟩ := hV (nat p) hD
    obtain ⟨l0, l60⟩ := h.1.1.2.2.2.1 (nat p) hD
    refine bt_aload_n hc dX11_toss_9 rfl rfl ?_
    refine bt_getr hc dX11_toss_10 flX11_81 rfl rfl ?_
    refine bt_iload_n hc dX11_toss_13 rfl rfl ?_
    refine bt_aaldN (k := nat p) hc dX11_toss_14 rfl ep (by omega) (by decide) (sh_q hD) ?_
    refine bt_astore_n hc dX11_toss_15 rfl (by decide) rfl ?_
    refine bt_aload_n hc dX11_toss_16 rfl rfl ?_
    refine bt_callVp hc ⟨Nat.zero_le _, Nat.zero_le _⟩ dX11_toss_17 (C7_whyNoGuess 60 σ hs) mvX11_380 (by omega) rfl hs.1 rfl (Nat.le_of_ble_eq_true rfl) ?_
    rw [v1]
    refine bt_istore_n hc dX11_toss_20 rfl (by decide) rfl ?_
    refine bt_iload_n hc dX11_toss_21 rfl rfl ?_
    refine bt_if_eq (tgt := 31) hc dX11_toss_22 (by decide) (fun h22 => ?_) (fun h22 => ?_)
    · have q0 : ¬ μ 34 (nat p) = 0 := fun q => by rw [if_pos q] at h22; cases h22
      have q4 : μ 34 (nat p) = 4 := by
        by_cases q : μ 34 (nat p) = 4
        · exact q
        · rw [if_neg q0, if_neg q] at h22; cases h22
      have hpe := pegs_eq hV hD h.1.1.2.2.2.1 q4
      have et : sp_toss μ p = if pegsS μ (nat p) = 0 then (-15, fnd μ) else (1 + μ 37 (nat p), t0 μ) := by
        unfold sp_toss
        rw [if_neg (fun z => z hin), if_neg q0, if_neg (fun z => z q4)]
      refine bt_aload_n hc dX11_toss_31 rfl rfl ?_
      have hgl : gTl g YC := by
        obtain ⟨pp, l, e, R, s, m, args, below, meth, c, D, dA, ad⟩ := g
        exact ⟨hg.1, hg.2.1⟩
      have hgr : 0 + 1 ≤ g.2.2.2.1.cells ∧ 0 + 6 ≤ g.2.2.2.1.slots := by
        obtain ⟨pp, l, e, R, s, m, args, below, meth, c, D, dA, ad⟩ := g
        exact ⟨by show 1 ≤ R.cells; rw [hg.2.2.2.1]; decide, by show 6 ≤ R.slots; rw [hg.2.2.2.2]; decide⟩
      refine bt_vcallV (rest := []) hc hgl hgr dX11_toss_32 (C7_fail 50 σ hs (len := nat (μ 35 (nat p))) (by rw [v2, nI_nat l0]) l60) mvX11_395 (by omega) rfl hs.1 rfl (Nat.le_of_ble_eq_true rfl) (fun E hE => ?_) (fun r τ hr => ?_)
      · obtain ⟨rfl, hpos⟩ := hE
        rw [hpe] at hpos
        have htab : g.2.2.2.2.2.2.2.2.2.1.exceptionTable.toList = tableOf hhT := by
          obtain ⟨pp, l, e, R, s, m, args, below, meth, c, D, dA, ad⟩ := g
          exact hg.2.2.1
        have hdk : dK g.2.2.2.2.1 := by
          obtain ⟨pp, l, e, R, s, m, args, below, meth, c, D, dA, ad⟩ := g
          exact hg.2.1.2.2.2.2.2.2
        refine bt_catch (own := RX11) (cc := cX11_toss) (i := 4) (name := "java/lang/IllegalStateException") hc [] ((tableOf hhT).headD default) [] (htab.trans rfl) (fun _ hz => absurd hz List.not_mem_nil) rfl (by decide) (gw1 1017 (by decide +kernel) rfl) (tb_in 1024 (by decide +kernel)) hdk dX11_toss_38 (by decide) rfl rfl ?_
        refine bt_iconst (v := 1) hc dX11_toss_40 (by decide) ?_
        refine bt_aload_n hc dX11_toss_41 rfl rfl ?_
        refine bt_getE hc dX11_toss_42 flX11_383 hs.1 rfl v3 ?_
        refine bt_iadd hc dX11_toss_45 ?_
        refine bt_iret hc dX11_toss_46 rfl (by decide) (by decide) ?_
        rw [et, if_neg (by omega)]
        exact ⟨rfl, h.t⟩
      · obtain ⟨rfl, rfl, hz⟩ := hr
        rw [hpe] at hz
        refine bt_goto (tgt := 47) hc dX11_toss_35 (by decide) ?_
        refine bt_aload_n hc dX11_toss_47 rfl rfl ?_
        refine bt_bipush (v := (-15)) hc dX11_toss_48 (by decide) ?_
        refine bt_callV hc hgr dX11_toss_50 (C11_refused 60 _ (-15)) mvX11_151 (by omega) rfl yc0 rfl (Nat.le_of_ble_eq_true rfl) (fun r τ hr => ?_)
        obtain ⟨rfl, rfl⟩ := hr
        refine bt_iret hc dX11_toss_53 rfl (by decide) (by decide) ?_
        rw [et, if_pos hz]
        exact ⟨rfl, h.fd⟩
    · refine bt_aload_n hc dX11_toss_25 rfl rfl ?_
      refine bt_iload_n hc dX11_toss_26 rfl rfl ?_
      refine bt_callV hc ⟨Nat.zero_le _, Nat.zero_le _⟩ dX11_toss_27 (C11_refused 60 σ _) mvX11_151 (by omega) rfl yc0 rfl (Nat.le_of_ble_eq_true rfl) (fun r τ hr => ?_)
      obtain ⟨rfl, rfl⟩ := hr
      refine bt_iret hc dX11_toss_30 rfl (by decide) (by decide) ?_
      have et : sp_toss μ p = (if μ 34 (nat p) = 0 then -11 else if μ 34 (nat p) = 4 then 0 else -12, fnd μ) := by
        unfold sp_toss
        rw [if_neg (fun z => z hin)]
        by_cases q0 : μ 34 (nat p) = 0
        · rw [if_pos q0, if_pos q0]
        · rw [if_neg q0, if_neg q0]
          by_cases q4 : μ 34 (nat p) = 4
          · rw [if_neg q0, if_pos q4] at h22; exact absurd rfl h22
          · rw [if_pos q4, if_neg q4]
      rw [et]
      exact ⟨rfl, h.fd⟩
  · have e : sp_toss μ p = (-1, t0 μ) := if_pos (of_decide_eq_false (bI_0.mp h4))
    refine bt_iconst (v := (-1)) hc dX11_toss_7 (by decide) ?_
    refine bt_iret hc dX11_toss_8 rfl (by decide) (by decide) ?_
    rw [e]
    exact ⟨rfl, h.t⟩
