/-! ===== the class: what throws ===== -/
def ISE : String := "java/lang/IllegalStateException"
def IAE : String := "java/lang/IllegalArgumentException"
def xnm : List String := ["java/lang/RuntimeException", "java/lang/Exception"]
theorem xw7 : ∀ w ∈ vx_atS RX7 51 "java/lang/IllegalStateException" ["java/lang/RuntimeException", "java/lang/Exception"], w ∈ lw_tbl ∧ (goodWord w || isDC w) = true := by decide +kernel
theorem C7_fail (d : Nat) (σ : St) {o cc len : Nat} (hs : shY o cc) (hl : σ o 2 = nI len) (hl60 : len ≤ 60) : vMt YC mX7_failIfAnyPeg (d + 8) 1 6 [.ref o] σ (fun r τ => r = none ∧ τ = σ ∧ cnt len (fun i => !(σ cc i == -1)) = 0) (fun E => E = "java/lang/IllegalStateException" ∧ 0 < cnt len (fun i => !(σ cc i == -1))) := by
  have hcl60 := cnt_le len (fun i => !(σ cc i == -1))
  refine vMt.ofB [some (.ref o)] (by decide) (fun _ => Nat.le_of_ble_eq_true rfl) (fun _ => rfl) (fun g hc hg => ?_)
  refine bt_aload_n hc dX7_failIfAnyPeg_0 rfl rfl ?_
  refine bt_callVp hc ⟨Nat.zero_le _, Nat.zero_le _⟩ dX7_failIfAnyPeg_1 (C7_pegsSet d σ hs hl hl60) mvX7_43 (by omega) rfl hs.1 rfl (Nat.le_of_ble_eq_true rfl) ?_
  refine bt_if_le (tgt := 17) hc dX7_failIfAnyPeg_4 (by decide) (fun h4 => ?_) (fun h4 => ?_)
  · refine bt_vret hc dX7_failIfAnyPeg_17 rfl (Nat.zero_le _) (Nat.zero_le _) ⟨rfl, rfl, ?_⟩
    have := (nI_leI (b := 0) (by omega) (by decide)).mp h4
    omega
  · have hpos : 0 < cnt len (fun i => !(σ cc i == -1)) := Nat.lt_of_not_le (fun q => h4 (nI_le (b := 0) q (by decide)))
    obtain ⟨p, l, e, R, s, m, args, below, meth, c, D, dA, ad⟩ := g
    obtain ⟨hx, hb, hml, hr, hlk, hown, hts, hK, hD, ⟨hR1, hR2⟩, hN⟩ := hc
    obtain ⟨hlt, ⟨⟨sa, hsa⟩, -, -, -, hU, hV, hdk⟩, hex, hc1, hc2⟩ := hg
    intro H locs ls hP hS hl2
    refine vx_throwS (names := ["java/lang/RuntimeException", "java/lang/Exception"]) hx hb hlt hown (by decide) (by decide) (hts _ (gw_in (by decide +kernel) (by decide +kernel))) (hts _ (gw_in (by decide +kernel) (by decide +kernel))) hsa (fun w hw => hdk.use hts (xw7 w hw)) (by decide +kernel) hU hV hS (hl2.1.trans hml.symm) dX7_failIfAnyPeg_7 dX7_failIfAnyPeg_10 dX7_failIfAnyPeg_11 dX7_failIfAnyPeg_13 dX7_failIfAnyPeg_16 (fun x hx => absurd (hex x hx) (fun z => z)) ?_ ?_ (by omega) (by omega) hlk (fun t hvm hz hk => ⟨⟨rfl, hpos⟩, hP.kept (fun k q hq => hk q.1 (vx_lt hP hq)), Nat.le_trans hS.1 hz, fun q h1 h2 => by rw [hk q (Nat.lt_of_lt_of_le h1 hS.1)]; exact hS.2.1 q h1 h2⟩) hS.2.2 (by omega) (by omega)
    · simp only [List.length_cons, List.length_nil]; omega
    · simp only [List.length_cons, List.length_nil, List.map_nil, List.sum_nil]; omega
