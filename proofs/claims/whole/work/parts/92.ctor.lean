theorem oi_in : Cond.instanceMethod Lib.objectInit ∈ gw := gw1 29 (by decide +kernel) rfl
theorem oc_in : Cond.code Lib.objectInit ⟨#[0xb1]⟩ 1 none ∈ gw := gw1 30 (by decide +kernel) rfl
theorem ac0 : Cond.arrayClass (newarray.typeOf .int) ∈ gw := gw1 63 (by decide +kernel) rfl
theorem ac1 : Cond.arrayClass (newarray.typeOf .boolean) ∈ gw := gw1 121 (by decide +kernel) rfl
theorem ac2 : Cond.arrayClass (newarray.typeOf .long) ∈ gw := gw1 322 (by decide +kernel) rfl
abbrev f0X0 : List Value := [.int 0, .int 0, .int 0, .null, .null, .null, .null]
theorem dfX0 : ∀ j, j < 7 → defaultValue (tyX0 j) = vp_V f0X0 j := by
  intro j hj
  match j, hj with
  | 0, _ => rfl
  | 1, _ => rfl
  | 2, _ => rfl
  | 3, _ => rfl
  | 4, _ => rfl
  | 5, _ => rfl
  | 6, _ => rfl
  | n + 7, h => exact absurd h (by omega)
abbrev f0X1 : List Value := [.null, .int 0, .null, .int 0, .int 0, .int 0, .int 0, .null, .null, .null, .null, .null, .null, .null, .null]
theorem dfX1 : ∀ j, j < 15 → defaultValue (tyX1 j) = vp_V f0X1 j := by
  intro j hj
  match j, hj with
  | 0, _ => rfl
  | 1, _ => rfl
  | 2, _ => rfl
  | 3, _ => rfl
  | 4, _ => rfl
  | 5, _ => rfl
  | 6, _ => rfl
  | 7, _ => rfl
  | 8, _ => rfl
  | 9, _ => rfl
  | 10, _ => rfl
  | 11, _ => rfl
  | 12, _ => rfl
  | 13, _ => rfl
  | 14, _ => rfl
  | n + 15, h => exact absurd h (by omega)
abbrev f0X2 : List Value := [.null, .int 0, .int 0]
theorem dfX2 : ∀ j, j < 3 → defaultValue (tyX2 j) = vp_V f0X2 j := by
  intro j hj
  match j, hj with
  | 0, _ => rfl
  | 1, _ => rfl
  | 2, _ => rfl
  | n + 3, h => exact absurd h (by omega)
abbrev f0X3 : List Value := [.null, .int 0, .int 0]
theorem dfX3 : ∀ j, j < 3 → defaultValue (tyX3 j) = vp_V f0X3 j := by
  intro j hj
  match j, hj with
  | 0, _ => rfl
  | 1, _ => rfl
  | 2, _ => rfl
  | n + 3, h => exact absurd h (by omega)
abbrev f0X4 : List Value := [.null, .null, .null, .null, .null, .null, .null, .null, .int 0, .int 0, .int 0]
theorem dfX4 : ∀ j, j < 11 → defaultValue (tyX4 j) = vp_V f0X4 j := by
  intro j hj
  match j, hj with
  | 0, _ => rfl
  | 1, _ => rfl
  | 2, _ => rfl
  | 3, _ => rfl
  | 4, _ => rfl
  | 5, _ => rfl
  | 6, _ => rfl
  | 7, _ => rfl
  | 8, _ => rfl
  | 9, _ => rfl
  | 10, _ => rfl
  | n + 11, h => exact absurd h (by omega)
abbrev f0X5 : List Value := [.null, .null, .null, .null, .null, .null, .null, .null, .int 0, .int 0, .int 0, .int 0, .int 0, .int 0, .int 0, .int 0, .int 0]
theorem dfX5 : ∀ j, j < 17 → defaultValue (tyX5 j) = vp_V f0X5 j := by
  intro j hj
  match j, hj with
  | 0, _ => rfl
  | 1, _ => rfl
  | 2, _ => rfl
  | 3, _ => rfl
  | 4, _ => rfl
  | 5, _ => rfl
  | 6, _ => rfl
  | 7, _ => rfl
  | 8, _ => rfl
  | 9, _ => rfl
  | 10, _ => rfl
  | 11, _ => rfl
  | 12, _ => rfl
  | 13, _ => rfl
  | 14, _ => rfl
  | 15, _ => rfl
  | 16, _ => rfl
  | n + 17, h => exact absurd h (by omega)
abbrev f0X6 : List Value := [.null, .null, .int 0]
theorem dfX6 : ∀ j, j < 3 → defaultValue (tyX6 j) = vp_V f0X6 j := by
  intro j hj
  match j, hj with
  | 0, _ => rfl
  | 1, _ => rfl
  | 2, _ => rfl
  | n + 3, h => exact absurd h (by omega)
abbrev f0X7 : List Value := [.null, .int 0, .int 0, .int 0]
theorem dfX7 : ∀ j, j < 4 → defaultValue (tyX7 j) = vp_V f0X7 j := by
  intro j hj
  match j, hj with
  | 0, _ => rfl
  | 1, _ => rfl
  | 2, _ => rfl
  | 3, _ => rfl
  | n + 4, h => exact absurd h (by omega)
abbrev f0X8 : List Value := [.int 0, .int 0, .int 0, .int 0, .int 0]
theorem dfX8 : ∀ j, j < 5 → defaultValue (tyX8 j) = vp_V f0X8 j := by
  intro j hj
  match j, hj with
  | 0, _ => rfl
  | 1, _ => rfl
  | 2, _ => rfl
  | 3, _ => rfl
  | 4, _ => rfl
  | n + 5, h => exact absurd h (by omega)
abbrev f0X9 : List Value := [.null, .null, .null, .null, .null, .int 0]
theorem dfX9 : ∀ j, j < 6 → defaultValue (tyX9 j) = vp_V f0X9 j := by
  intro j hj
  match j, hj with
  | 0, _ => rfl
  | 1, _ => rfl
  | 2, _ => rfl
  | 3, _ => rfl
  | 4, _ => rfl
  | 5, _ => rfl
  | n + 6, h => exact absurd h (by omega)
abbrev f0X10 : List Value := [.null, .null, .null, .null]
theorem dfX10 : ∀ j, j < 4 → defaultValue (tyX10 j) = vp_V f0X10 j := by
  intro j hj
  match j, hj with
  | 0, _ => rfl
  | 1, _ => rfl
  | 2, _ => rfl
  | 3, _ => rfl
  | n + 4, h => exact absurd h (by omega)
abbrev f0X11 : List Value := [.null, .null, .null, .null, .null, .null, .null, .null, .null, .null, .null, .int 0]
theorem dfX11 : ∀ j, j < 12 → defaultValue (tyX11 j) = vp_V f0X11 j := by
  intro j hj
  match j, hj with
  | 0, _ => rfl
  | 1, _ => rfl
  | 2, _ => rfl
  | 3, _ => rfl
  | 4, _ => rfl
  | 5, _ => rfl
  | 6, _ => rfl
  | 7, _ => rfl
  | 8, _ => rfl
  | 9, _ => rfl
  | 10, _ => rfl
  | 11, _ => rfl
  | n + 12, h => exact absurd h (by omega)
abbrev f0X12 : List Value := [.int 0, .int 0, .int 0, .int 0, .int 0, .int 0, .null, .int 0, .null, .int 0, .null, .null, .null, .int 0, .int 0, .int 0, .null, .null, .int 0, .null, .null, .null, .null, .null, .null, .null, .null, .null, .null, .null, .null, .null, .int 0, .int 0, .null, .null, .null, .null, .null, .null, .null, .null, .null, .int 0, .null, .null, .null, .null, .null, .null, .null, .null, .null]
theorem dfX12 : ∀ j, j < 53 → defaultValue (tyX12 j) = vp_V f0X12 j := by
  intro j hj
  match j, hj with
  | 0, _ => rfl
  | 1, _ => rfl
  | 2, _ => rfl
  | 3, _ => rfl
  | 4, _ => rfl
  | 5, _ => rfl
  | 6, _ => rfl
  | 7, _ => rfl
  | 8, _ => rfl
  | 9, _ => rfl
  | 10, _ => rfl
  | 11, _ => rfl
  | 12, _ => rfl
  | 13, _ => rfl
  | 14, _ => rfl
  | 15, _ => rfl
  | 16, _ => rfl
  | 17, _ => rfl
  | 18, _ => rfl
  | 19, _ => rfl
  | 20, _ => rfl
  | 21, _ => rfl
  | 22, _ => rfl
  | 23, _ => rfl
  | 24, _ => rfl
  | 25, _ => rfl
  | 26, _ => rfl
  | 27, _ => rfl
  | 28, _ => rfl
  | 29, _ => rfl
  | 30, _ => rfl
  | 31, _ => rfl
  | 32, _ => rfl
  | 33, _ => rfl
  | 34, _ => rfl
  | 35, _ => rfl
  | 36, _ => rfl
  | 37, _ => rfl
  | 38, _ => rfl
  | 39, _ => rfl
  | 40, _ => rfl
  | 41, _ => rfl
  | 42, _ => rfl
  | 43, _ => rfl
  | 44, _ => rfl
  | 45, _ => rfl
  | 46, _ => rfl
  | 47, _ => rfl
  | 48, _ => rfl
  | 49, _ => rfl
  | 50, _ => rfl
  | 51, _ => rfl
  | 52, _ => rfl
  | n + 53, h => exact absurd h (by omega)
abbrev mX0_init : Md := (yX0_init, cX0_init, 1, none)
theorem cwX0_init : Cond.code yX0_init cX0_init 1 none ∈ gw := gw1 35 (by decide +kernel) rfl
abbrev mX1_init : Md := (yX1_init, cX1_init, 4, none)
theorem cwX1_init : Cond.code yX1_init cX1_init 4 none ∈ gw := gw1 274 (by decide +kernel) rfl
abbrev mX2_init : Md := (yX2_init, cX2_init, 1, none)
theorem cwX2_init : Cond.code yX2_init cX2_init 1 none ∈ gw := gw1 41 (by decide +kernel) rfl
abbrev mX3_init : Md := (yX3_init, cX3_init, 1, none)
theorem cwX3_init : Cond.code yX3_init cX3_init 1 none ∈ gw := gw1 209 (by decide +kernel) rfl
abbrev mX4_init : Md := (yX4_init, cX4_init, 1, none)
theorem cwX4_init : Cond.code yX4_init cX4_init 1 none ∈ gw := gw1 359 (by decide +kernel) rfl
abbrev mX5_init : Md := (yX5_init, cX5_init, 2, none)
theorem cwX5_init : Cond.code yX5_init cX5_init 2 none ∈ gw := gw1 103 (by decide +kernel) rfl
abbrev mX6_init : Md := (yX6_init, cX6_init, 1, none)
theorem cwX6_init : Cond.code yX6_init cX6_init 1 none ∈ gw := gw1 109 (by decide +kernel) rfl
abbrev mX7_init : Md := (yX7_init, cX7_init, 1, none)
theorem cwX7_init : Cond.code yX7_init cX7_init 1 none ∈ gw := gw1 403 (by decide +kernel) rfl
abbrev mX8_init : Md := (yX8_init, cX8_init, 1, none)
theorem cwX8_init : Cond.code yX8_init cX8_init 1 none ∈ gw := gw1 229 (by decide +kernel) rfl
abbrev mX9_init : Md := (yX9_init, cX9_init, 1, none)
theorem cwX9_init : Cond.code yX9_init cX9_init 1 none ∈ gw := gw1 327 (by decide +kernel) rfl
abbrev mX10_init : Md := (yX10_init, cX10_init, 2, none)
theorem cwX10_init : Cond.code yX10_init cX10_init 2 none ∈ gw := gw1 255 (by decide +kernel) rfl
abbrev mX11_init : Md := (yX11_init, cX11_init, 2, none)
theorem cwX11_init : Cond.code yX11_init cX11_init 2 none ∈ gw := gw1 27 (by decide +kernel) rfl
abbrev mX12_init : Md := (yX12_init, cX12_init, 2, none)
theorem cwX12_init : Cond.code yX12_init cX12_init 2 none ∈ gw := gw1 1129 (by decide +kernel) rfl
def csX2 (dA : Nat → ClassId) (a : Nat) : List va_E := [.inr (2, [.ref (a + 1), .int 0, .int 0]), .inl (dA 0, 5, .inl (fun _ => 0))]
theorem C_X2 : nMt mX2_init 2 f0X2 1 1 5 [] (csX2) := by
  refine nMt.ofG (fun a => [some (.ref a)]) (by decide) rfl (fun _ => Nat.le_of_ble_eq_true rfl) (fun _ => rfl) (fun g a hc hI hr => ?_)
  refine gt_aload_n hc dX2_init_0 rfl rfl ?_
  refine nt_obj hc (by decide) dX2_init_1 (gw1 42 (by decide +kernel) rfl) oi_in oc_in ?_
  refine gt_aload_n hc dX2_init_4 rfl rfl ?_
  refine gt_iconst (v := 5) hc dX2_init_5 (by decide) ?_
  refine nt_newa1 (b := a + 1) (t := 0) (N := 5) (a0 := (5, .inl (fun _ => 0))) (tl' := [.inl (gdA g 0, 5, .inl (fun _ => 0))]) hc ⟨by rw [hr.1]; decide, by rw [hr.2]; decide⟩ ac0 (fun _ => rfl) (fun _ _ h => h) (fun _ => rfl) (by decide) (by decide) (by decide) dX2_init_6 rfl rfl ?_
  refine nt_putF0 (j := 0) (fs' := [.ref (a + 1), .int 0, .int 0]) hc hI rfl inG2 tyX2 tyX2_ok nmX2 (by decide) (gw1 43 (by decide +kernel) rfl) rfl rfl rfl rfl rfl rfl (Nat.le_of_ble_eq_true rfl) dX2_init_8 ?_
  exact nt_ret hc dX2_init_11 rfl rfl rfl rfl
def csX6 (dA : Nat → ClassId) (a : Nat) : List va_E := [.inr (6, [.ref (a + 1), .ref (a + 2), .int 0]), .inl (dA 1, 1024, .inl (fun _ => 0)), .inl (dA 0, 1024, .inl (fun _ => 0))]
theorem C_X6 : nMt mX6_init 6 f0X6 1 2 2048 [] (csX6) := by
  refine nMt.ofG (fun a => [some (.ref a)]) (by decide) rfl (fun _ => Nat.le_of_ble_eq_true rfl) (fun _ => rfl) (fun g a hc hI hr => ?_)
  refine gt_aload_n hc dX6_init_0 rfl rfl ?_
  refine nt_obj hc (by decide) dX6_init_1 (gw1 110 (by decide +kernel) rfl) oi_in oc_in ?_
  refine gt_aload_n hc dX6_init_4 rfl rfl ?_
  refine gt_sipush (v := 1024) hc dX6_init_5 (by decide) ?_
  refine nt_newa1 (b := a + 1) (t := 1) (N := 1024) (a0 := (1024, .inl (fun _ => 0))) (tl' := [.inl (gdA g 1, 1024, .inl (fun _ => 0))]) hc ⟨by rw [hr.1]; decide, by rw [hr.2]; decide⟩ ac1 (fun _ => rfl) (fun _ _ h => h) (fun _ => rfl) (by decide) (by decide) (by decide) dX6_init_8 rfl rfl ?_
  refine nt_putF0 (j := 0) (fs' := [.ref (a + 1), .null, .int 0]) hc hI rfl inG6 tyX6 tyX6_ok nmX6 (by decide) (gw1 111 (by decide +kernel) rfl) rfl rfl rfl rfl rfl rfl (Nat.le_of_ble_eq_true rfl) dX6_init_10 ?_
  refine gt_aload_n hc dX6_init_13 rfl rfl ?_
  refine gt_sipush (v := 1024) hc dX6_init_14 (by decide) ?_
  refine nt_newa1 (b := a + 2) (t := 0) (N := 1024) (a0 := (1024, .inl (fun _ => 0))) (tl' := [.inl (gdA g 1, 1024, .inl (fun _ => 0)), .inl (gdA g 0, 1024, .inl (fun _ => 0))]) hc ⟨by rw [hr.1]; decide, by rw [hr.2]; decide⟩ ac0 (fun _ => rfl) (fun _ _ h => h) (fun _ => rfl) (by decide) (by decide) (by decide) dX6_init_17 rfl rfl ?_
  refine nt_putF0 (j := 1) (fs' := [.ref (a + 1), .ref (a + 2), .int 0]) hc hI rfl inG6 tyX6 tyX6_ok nmX6 (by decide) (gw1 112 (by decide +kernel) rfl) rfl rfl rfl rfl rfl rfl (Nat.le_of_ble_eq_true rfl) dX6_init_19 ?_
  exact nt_ret hc dX6_init_22 rfl rfl rfl rfl
def csX3 (dA : Nat → ClassId) (a : Nat) : List va_E := [.inr (3, [.ref (a + 1), .int 0, .int 0]), .inl (dA 0, 51, .inl (fun _ => 0))]
theorem C_X3 : nMt mX3_init 3 f0X3 1 1 51 [] (csX3) := by
  refine nMt.ofG (fun a => [some (.ref a)]) (by decide) rfl (fun _ => Nat.le_of_ble_eq_true rfl) (fun _ => rfl) (fun g a hc hI hr => ?_)
  refine gt_aload_n hc dX3_init_0 rfl rfl ?_
  refine nt_obj hc (by decide) dX3_init_1 (gw1 210 (by decide +kernel) rfl) oi_in oc_in ?_
  refine gt_aload_n hc dX3_init_4 rfl rfl ?_
  refine gt_bipush (v := 51) hc dX3_init_5 (by decide) ?_
  refine nt_newa1 (b := a + 1) (t := 0) (N := 51) (a0 := (51, .inl (fun _ => 0))) (tl' := [.inl (gdA g 0, 51, .inl (fun _ => 0))]) hc ⟨by rw [hr.1]; decide, by rw [hr.2]; decide⟩ ac0 (fun _ => rfl) (fun _ _ h => h) (fun _ => rfl) (by decide) (by decide) (by decide) dX3_init_7 rfl rfl ?_
  refine nt_putF0 (j := 0) (fs' := [.ref (a + 1), .int 0, .int 0]) hc hI rfl inG3 tyX3 tyX3_ok nmX3 (by decide) (gw1 211 (by decide +kernel) rfl) rfl rfl rfl rfl rfl rfl (Nat.le_of_ble_eq_true rfl) dX3_init_9 ?_
  exact nt_ret hc dX3_init_12 rfl rfl rfl rfl
def csX7 (dA : Nat → ClassId) (a : Nat) : List va_E := [.inr (7, [.ref (a + 1), .int 0, .int 0, .int 0]), .inl (dA 0, 60, .inl (fun _ => 0))]
theorem C_X7 : nMt mX7_init 7 f0X7 1 1 60 [] (csX7) := by
  refine nMt.ofG (fun a => [some (.ref a)]) (by decide) rfl (fun _ => Nat.le_of_ble_eq_true rfl) (fun _ => rfl) (fun g a hc hI hr => ?_)
  refine gt_aload_n hc dX7_init_0 rfl rfl ?_
  refine nt_obj hc (by decide) dX7_init_1 (gw1 404 (by decide +kernel) rfl) oi_in oc_in ?_
  refine gt_aload_n hc dX7_init_4 rfl rfl ?_
  refine gt_bipush (v := 60) hc dX7_init_5 (by decide) ?_
  refine nt_newa1 (b := a + 1) (t := 0) (N := 60) (a0 := (60, .inl (fun _ => 0))) (tl' := [.inl (gdA g 0, 60, .inl (fun _ => 0))]) hc ⟨by rw [hr.1]; decide, by rw [hr.2]; decide⟩ ac0 (fun _ => rfl) (fun _ _ h => h) (fun _ => rfl) (by decide) (by decide) (by decide) dX7_init_7 rfl rfl ?_
  refine nt_putF0 (j := 0) (fs' := [.ref (a + 1), .int 0, .int 0, .int 0]) hc hI rfl inG7 tyX7 tyX7_ok nmX7 (by decide) (gw1 405 (by decide +kernel) rfl) rfl rfl rfl rfl rfl rfl (Nat.le_of_ble_eq_true rfl) dX7_init_9 ?_
  refine gt_aload_n hc dX7_init_12 rfl rfl ?_
  refine gt_iconst (v := 0) hc dX7_init_13 (by decide) ?_
  refine nt_put0 (j := 1) (fs' := [.ref (a + 1), .int 0, .int 0, .int 0]) hc rfl inG7 tyX7 tyX7_ok nmX7 (by decide) (gw1 407 (by decide +kernel) rfl) rfl rfl rfl rfl rfl (Nat.le_of_ble_eq_true rfl) dX7_init_14 ?_
  exact nt_ret hc dX7_init_17 rfl rfl rfl rfl
def csX8 (dA : Nat → ClassId) (a : Nat) : List va_E := [.inr (8, [.int 0, .int 0, .int 0, .int 0, .int (-1)])]
theorem C_X8 : nMt mX8_init 8 f0X8 1 0 0 [] (csX8) := by
  refine nMt.ofG (fun a => [some (.ref a)]) (by decide) rfl (fun _ => Nat.le_of_ble_eq_true rfl) (fun _ => rfl) (fun g a hc hI hr => ?_)
  refine gt_aload_n hc dX8_init_0 rfl rfl ?_
  refine nt_obj hc (by decide) dX8_init_1 (gw1 230 (by decide +kernel) rfl) oi_in oc_in ?_
  refine gt_aload_n hc dX8_init_4 rfl rfl ?_
  refine gt_iconst (v := (-1)) hc dX8_init_5 (by decide) ?_
  refine nt_put0 (j := 4) (fs' := [.int 0, .int 0, .int 0, .int 0, .int (-1)]) hc rfl inG8 tyX8 tyX8_ok nmX8 (by decide) (gw1 239 (by decide +kernel) rfl) rfl rfl rfl rfl rfl (Nat.le_of_ble_eq_true rfl) dX8_init_6 ?_
  exact nt_ret hc dX8_init_9 rfl rfl rfl rfl
def csX9 (dA : Nat → ClassId) (a : Nat) : List va_E := [.inr (9, [.ref (a + 1), .ref (a + 2), .ref (a + 3), .ref (a + 4), .ref (a + 5), .int 0]), .inl (dA 0, 20, .inl (fun _ => 0)), .inl (dA 0, 20, .inl (fun _ => 0)), .inl (dA 0, 20, .inl (fun _ => 0)), .inl (dA 0, 20, .inl (fun _ => 0)), .inl (dA 0, 20, .inl (fun _ => 0))]
theorem C_X9 : nMt mX9_init 9 f0X9 1 5 100 [] (csX9) := by
  refine nMt.ofG (fun a => [some (.ref a)]) (by decide) rfl (fun _ => Nat.le_of_ble_eq_true rfl) (fun _ => rfl) (fun g a hc hI hr => ?_)
  refine gt_aload_n hc dX9_init_0 rfl rfl ?_
  refine nt_obj hc (by decide) dX9_init_1 (gw1 328 (by decide +kernel) rfl) oi_in oc_in ?_
  refine gt_aload_n hc dX9_init_4 rfl rfl ?_
  refine gt_bipush (v := 20) hc dX9_init_5 (by decide) ?_
  refine nt_newa1 (b := a + 1) (t := 0) (N := 20) (a0 := (20, .inl (fun _ => 0))) (tl' := [.inl (gdA g 0, 20, .inl (fun _ => 0))]) hc ⟨by rw [hr.1]; decide, by rw [hr.2]; decide⟩ ac0 (fun _ => rfl) (fun _ _ h => h) (fun _ => rfl) (by decide) (by decide) (by decide) dX9_init_7 rfl rfl ?_
  refine nt_putF0 (j := 0) (fs' := [.ref (a + 1), .null, .null, .null, .null, .int 0]) hc hI rfl inG9 tyX9 tyX9_ok nmX9 (by decide) (gw1 329 (by decide +kernel) rfl) rfl rfl rfl rfl rfl rfl (Nat.le_of_ble_eq_true rfl) dX9_init_9 ?_
  refine gt_aload_n hc dX9_init_12 rfl rfl ?_
  refine gt_bipush (v := 20) hc dX9_init_13 (by decide) ?_
  refine nt_newa1 (b := a + 2) (t := 0) (N := 20) (a0 := (20, .inl (fun _ => 0))) (tl' := [.inl (gdA g 0, 20, .inl (fun _ => 0)), .inl (gdA g 0, 20, .inl (fun _ => 0))]) hc ⟨by rw [hr.1]; decide, by rw [hr.2]; decide⟩ ac0 (fun _ => rfl) (fun _ _ h => h) (fun _ => rfl) (by decide) (by decide) (by decide) dX9_init_15 rfl rfl ?_
  refine nt_putF0 (j := 1) (fs' := [.ref (a + 1), .ref (a + 2), .null, .null, .null, .int 0]) hc hI rfl inG9 tyX9 tyX9_ok nmX9 (by decide) (gw1 331 (by decide +kernel) rfl) rfl rfl rfl rfl rfl rfl (Nat.le_of_ble_eq_true rfl) dX9_init_17 ?_
  refine gt_aload_n hc dX9_init_20 rfl rfl ?_
  refine gt_bipush (v := 20) hc dX9_init_21 (by decide) ?_
  refine nt_newa1 (b := a + 3) (t := 0) (N := 20) (a0 := (20, .inl (fun _ => 0))) (tl' := [.inl (gdA g 0, 20, .inl (fun _ => 0)), .inl (gdA g 0, 20, .inl (fun _ => 0)), .inl (gdA g 0, 20, .inl (fun _ => 0))]) hc ⟨by rw [hr.1]; decide, by rw [hr.2]; decide⟩ ac0 (fun _ => rfl) (fun _ _ h => h) (fun _ => rfl) (by decide) (by decide) (by decide) dX9_init_23 rfl rfl ?_
  refine nt_putF0 (j := 2) (fs' := [.ref (a + 1), .ref (a + 2), .ref (a + 3), .null, .null, .int 0]) hc hI rfl inG9 tyX9 tyX9_ok nmX9 (by decide) (gw1 333 (by decide +kernel) rfl) rfl rfl rfl rfl rfl rfl (Nat.le_of_ble_eq_true rfl) dX9_init_25 ?_
  refine gt_aload_n hc dX9_init_28 rfl rfl ?_
  refine gt_bipush (v := 20) hc dX9_init_29 (by decide) ?_
  refine nt_newa1 (b := a + 4) (t := 0) (N := 20) (a0 := (20, .inl (fun _ => 0))) (tl' := [.inl (gdA g 0, 20, .inl (fun _ => 0)), .inl (gdA g 0, 20, .inl (fun _ => 0)), .inl (gdA g 0, 20, .inl (fun _ => 0)), .inl (gdA g 0, 20, .inl (fun _ => 0))]) hc ⟨by rw [hr.1]; decide, by rw [hr.2]; decide⟩ ac0 (fun _ => rfl) (fun _ _ h => h) (fun _ => rfl) (by decide) (by decide) (by decide) dX9_init_31 rfl rfl ?_
  refine nt_putF0 (j := 3) (fs' := [.ref (a + 1), .ref (a + 2), .ref (a + 3), .ref (a + 4), .null, .int 0]) hc hI rfl inG9 tyX9 tyX9_ok nmX9 (by decide) (gw1 335 (by decide +kernel) rfl) rfl rfl rfl rfl rfl rfl (Nat.le_of_ble_eq_true rfl) dX9_init_33 ?_
  refine gt_aload_n hc dX9_init_36 rfl rfl ?_
  refine gt_bipush (v := 20) hc dX9_init_37 (by decide) ?_
  refine nt_newa1 (b := a + 5) (t := 0) (N := 20) (a0 := (20, .inl (fun _ => 0))) (tl' := [.inl (gdA g 0, 20, .inl (fun _ => 0)), .inl (gdA g 0, 20, .inl (fun _ => 0)), .inl (gdA g 0, 20, .inl (fun _ => 0)), .inl (gdA g 0, 20, .inl (fun _ => 0)), .inl (gdA g 0, 20, .inl (fun _ => 0))]) hc ⟨by rw [hr.1]; decide, by rw [hr.2]; decide⟩ ac0 (fun _ => rfl) (fun _ _ h => h) (fun _ => rfl) (by decide) (by decide) (by decide) dX9_init_39 rfl rfl ?_
  refine nt_putF0 (j := 4) (fs' := [.ref (a + 1), .ref (a + 2), .ref (a + 3), .ref (a + 4), .ref (a + 5), .int 0]) hc hI rfl inG9 tyX9 tyX9_ok nmX9 (by decide) (gw1 337 (by decide +kernel) rfl) rfl rfl rfl rfl rfl rfl (Nat.le_of_ble_eq_true rfl) dX9_init_41 ?_
  exact nt_ret hc dX9_init_44 rfl rfl rfl rfl
def csX4 (dA : Nat → ClassId) (a : Nat) : List va_E := [.inr (4, [.ref (a + 1), .ref (a + 2), .ref (a + 3), .ref (a + 4), .ref (a + 5), .ref (a + 6), .ref (a + 7), .ref (a + 8), .int 0, .int 0, .int 0]), .inl (dA 0, 40, .inl (fun _ => 0)), .inl (dA 0, 40, .inl (fun _ => 0)), .inl (dA 0, 40, .inl (fun _ => 0)), .inl (dA 0, 40, .inl (fun _ => 0)), .inl (dA 2, 40, .inr (.inl (fun _ => 0))), .inl (dA 1, 40, .inl (fun _ => 0)), .inl (dA 2, 40, .inr (.inl (fun _ => 0))), .inl (dA 0, 40, .inl (fun _ => 0))]
theorem C_X4 : nMt mX4_init 4 f0X4 1 8 320 [] (csX4) := by
  refine nMt.ofG (fun a => [some (.ref a)]) (by decide) rfl (fun _ => Nat.le_of_ble_eq_true rfl) (fun _ => rfl) (fun g a hc hI hr => ?_)
  refine gt_aload_n hc dX4_init_0 rfl rfl ?_
  refine nt_obj hc (by decide) dX4_init_1 (gw1 360 (by decide +kernel) rfl) oi_in oc_in ?_
  refine gt_aload_n hc dX4_init_4 rfl rfl ?_
  refine gt_bipush (v := 40) hc dX4_init_5 (by decide) ?_
  refine nt_newa1 (b := a + 1) (t := 0) (N := 40) (a0 := (40, .inl (fun _ => 0))) (tl' := [.inl (gdA g 0, 40, .inl (fun _ => 0))]) hc ⟨by rw [hr.1]; decide, by rw [hr.2]; decide⟩ ac0 (fun _ => rfl) (fun _ _ h => h) (fun _ => rfl) (by decide) (by decide) (by decide) dX4_init_7 rfl rfl ?_
  refine nt_putF0 (j := 0) (fs' := [.ref (a + 1), .null, .null, .null, .null, .null, .null, .null, .int 0, .int 0, .int 0]) hc hI rfl inG4 tyX4 tyX4_ok nmX4 (by decide) (gw1 361 (by decide +kernel) rfl) rfl rfl rfl rfl rfl rfl (Nat.le_of_ble_eq_true rfl) dX4_init_9 ?_
  refine gt_aload_n hc dX4_init_12 rfl rfl ?_
  refine gt_bipush (v := 40) hc dX4_init_13 (by decide) ?_
  refine nt_newa1 (b := a + 2) (t := 0) (N := 40) (a0 := (40, .inl (fun _ => 0))) (tl' := [.inl (gdA g 0, 40, .inl (fun _ => 0)), .inl (gdA g 0, 40, .inl (fun _ => 0))]) hc ⟨by rw [hr.1]; decide, by rw [hr.2]; decide⟩ ac0 (fun _ => rfl) (fun _ _ h => h) (fun _ => rfl) (by decide) (by decide) (by decide) dX4_init_15 rfl rfl ?_
  refine nt_putF0 (j := 1) (fs' := [.ref (a + 1), .ref (a + 2), .null, .null, .null, .null, .null, .null, .int 0, .int 0, .int 0]) hc hI rfl inG4 tyX4 tyX4_ok nmX4 (by decide) (gw1 362 (by decide +kernel) rfl) rfl rfl rfl rfl rfl rfl (Nat.le_of_ble_eq_true rfl) dX4_init_17 ?_
  refine gt_aload_n hc dX4_init_20 rfl rfl ?_
  refine gt_bipush (v := 40) hc dX4_init_21 (by decide) ?_
  refine nt_newa1 (b := a + 3) (t := 0) (N := 40) (a0 := (40, .inl (fun _ => 0))) (tl' := [.inl (gdA g 0, 40, .inl (fun _ => 0)), .inl (gdA g 0, 40, .inl (fun _ => 0)), .inl (gdA g 0, 40, .inl (fun _ => 0))]) hc ⟨by rw [hr.1]; decide, by rw [hr.2]; decide⟩ ac0 (fun _ => rfl) (fun _ _ h => h) (fun _ => rfl) (by decide) (by decide) (by decide) dX4_init_23 rfl rfl ?_
  refine nt_putF0 (j := 2) (fs' := [.ref (a + 1), .ref (a + 2), .ref (a + 3), .null, .null, .null, .null, .null, .int 0, .int 0, .int 0]) hc hI rfl inG4 tyX4 tyX4_ok nmX4 (by decide) (gw1 363 (by decide +kernel) rfl) rfl rfl rfl rfl rfl rfl (Nat.le_of_ble_eq_true rfl) dX4_init_25 ?_
  refine gt_aload_n hc dX4_init_28 rfl rfl ?_
  refine gt_bipush (v := 40) hc dX4_init_29 (by decide) ?_
  refine nt_newa1 (b := a + 4) (t := 0) (N := 40) (a0 := (40, .inl (fun _ => 0))) (tl' := [.inl (gdA g 0, 40, .inl (fun _ => 0)), .inl (gdA g 0, 40, .inl (fun _ => 0)), .inl (gdA g 0, 40, .inl (fun _ => 0)), .inl (gdA g 0, 40, .inl (fun _ => 0))]) hc ⟨by rw [hr.1]; decide, by rw [hr.2]; decide⟩ ac0 (fun _ => rfl) (fun _ _ h => h) (fun _ => rfl) (by decide) (by decide) (by decide) dX4_init_31 rfl rfl ?_
  refine nt_putF0 (j := 3) (fs' := [.ref (a + 1), .ref (a + 2), .ref (a + 3), .ref (a + 4), .null, .null, .null, .null, .int 0, .int 0, .int 0]) hc hI rfl inG4 tyX4 tyX4_ok nmX4 (by decide) (gw1 364 (by decide +kernel) rfl) rfl rfl rfl rfl rfl rfl (Nat.le_of_ble_eq_true rfl) dX4_init_33 ?_
  refine gt_aload_n hc dX4_init_36 rfl rfl ?_
  refine gt_bipush (v := 40) hc dX4_init_37 (by decide) ?_
  refine nt_newa1 (b := a + 5) (t := 2) (N := 40) (a0 := (40, .inr (.inl (fun _ => 0)))) (tl' := [.inl (gdA g 0, 40, .inl (fun _ => 0)), .inl (gdA g 0, 40, .inl (fun _ => 0)), .inl (gdA g 0, 40, .inl (fun _ => 0)), .inl (gdA g 0, 40, .inl (fun _ => 0)), .inl (gdA g 2, 40, .inr (.inl (fun _ => 0)))]) hc ⟨by rw [hr.1]; decide, by rw [hr.2]; decide⟩ ac2 (fun _ => rfl) (fun _ _ h => h) (fun _ => rfl) (by decide) (by decide) (by decide) dX4_init_39 rfl rfl ?_
  refine nt_putF0 (j := 4) (fs' := [.ref (a + 1), .ref (a + 2), .ref (a + 3), .ref (a + 4), .ref (a + 5), .null, .null, .null, .int 0, .int 0, .int 0]) hc hI rfl inG4 tyX4 tyX4_ok nmX4 (by decide) (gw1 365 (by decide +kernel) rfl) rfl rfl rfl rfl rfl rfl (Nat.le_of_ble_eq_true rfl) dX4_init_41 ?_
  refine gt_aload_n hc dX4_init_44 rfl rfl ?_
  refine gt_bipush (v := 40) hc dX4_init_45 (by decide) ?_
  refine nt_newa1 (b := a + 6) (t := 1) (N := 40) (a0 := (40, .inl (fun _ => 0))) (tl' := [.inl (gdA g 0, 40, .inl (fun _ => 0)), .inl (gdA g 0, 40, .inl (fun _ => 0)), .inl (gdA g 0, 40, .inl (fun _ => 0)), .inl (gdA g 0, 40, .inl (fun _ => 0)), .inl (gdA g 2, 40, .inr (.inl (fun _ => 0))), .inl (gdA g 1, 40, .inl (fun _ => 0))]) hc ⟨by rw [hr.1]; decide, by rw [hr.2]; decide⟩ ac1 (fun _ => rfl) (fun _ _ h => h) (fun _ => rfl) (by decide) (by decide) (by decide) dX4_init_47 rfl rfl ?_
  refine nt_putF0 (j := 5) (fs' := [.ref (a + 1), .ref (a + 2), .ref (a + 3), .ref (a + 4), .ref (a + 5), .ref (a + 6), .null, .null, .int 0, .int 0, .int 0]) hc hI rfl inG4 tyX4 tyX4_ok nmX4 (by decide) (gw1 366 (by decide +kernel) rfl) rfl rfl rfl rfl rfl rfl (Nat.le_of_ble_eq_true rfl) dX4_init_49 ?_
  refine gt_aload_n hc dX4_init_52 rfl rfl ?_
  refine gt_bipush (v := 40) hc dX4_init_53 (by decide) ?_
  refine nt_newa1 (b := a + 7) (t := 2) (N := 40) (a0 := (40, .inr (.inl (fun _ => 0)))) (tl' := [.inl (gdA g 0, 40, .inl (fun _ => 0)), .inl (gdA g 0, 40, .inl (fun _ => 0)), .inl (gdA g 0, 40, .inl (fun _ => 0)), .inl (gdA g 0, 40, .inl (fun _ => 0)), .inl (gdA g 2, 40, .inr (.inl (fun _ => 0))), .inl (gdA g 1, 40, .inl (fun _ => 0)), .inl (gdA g 2, 40, .inr (.inl (fun _ => 0)))]) hc ⟨by rw [hr.1]; decide, by rw [hr.2]; decide⟩ ac2 (fun _ => rfl) (fun _ _ h => h) (fun _ => rfl) (by decide) (by decide) (by decide) dX4_init_55 rfl rfl ?_
  refine nt_putF0 (j := 6) (fs' := [.ref (a + 1), .ref (a + 2), .ref (a + 3), .ref (a + 4), .ref (a + 5), .ref (a + 6), .ref (a + 7), .null, .int 0, .int 0, .int 0]) hc hI rfl inG4 tyX4 tyX4_ok nmX4 (by decide) (gw1 367 (by decide +kernel) rfl) rfl rfl rfl rfl rfl rfl (Nat.le_of_ble_eq_true rfl) dX4_init_57 ?_
  refine gt_aload_n hc dX4_init_60 rfl rfl ?_
  refine gt_bipush (v := 40) hc dX4_init_61 (by decide) ?_
  refine nt_newa1 (b := a + 8) (t := 0) (N := 40) (a0 := (40, .inl (fun _ => 0))) (tl' := [.inl (gdA g 0, 40, .inl (fun _ => 0)), .inl (gdA g 0, 40, .inl (fun _ => 0)), .inl (gdA g 0, 40, .inl (fun _ => 0)), .inl (gdA g 0, 40, .inl (fun _ => 0)), .inl (gdA g 2, 40, .inr (.inl (fun _ => 0))), .inl (gdA g 1, 40, .inl (fun _ => 0)), .inl (gdA g 2, 40, .inr (.inl (fun _ => 0))), .inl (gdA g 0, 40, .inl (fun _ => 0))]) hc ⟨by rw [hr.1]; decide, by rw [hr.2]; decide⟩ ac0 (fun _ => rfl) (fun _ _ h => h) (fun _ => rfl) (by decide) (by decide) (by decide) dX4_init_63 rfl rfl ?_
  refine nt_putF0 (j := 7) (fs' := [.ref (a + 1), .ref (a + 2), .ref (a + 3), .ref (a + 4), .ref (a + 5), .ref (a + 6), .ref (a + 7), .ref (a + 8), .int 0, .int 0, .int 0]) hc hI rfl inG4 tyX4 tyX4_ok nmX4 (by decide) (gw1 368 (by decide +kernel) rfl) rfl rfl rfl rfl rfl rfl (Nat.le_of_ble_eq_true rfl) dX4_init_65 ?_
  exact nt_ret hc dX4_init_68 rfl rfl rfl rfl
def csX10 (q : Nat) (dA : Nat → ClassId) (a : Nat) : List va_E := [.inr (10, [.ref q, .ref (a + 1), .ref (a + 2), .ref (a + 3)]), .inl (dA 0, 4, .inl (fun _ => 0)), .inl (dA 0, 5, .inl (fun _ => 0)), .inl (dA 0, 4, .inl (fun _ => 0))]
theorem C_X10 (q : Nat) : nMt mX10_init 10 f0X10 1 3 13 [.ref q] (csX10 q) := by
  refine nMt.ofG (fun a => [some (.ref a), some (.ref q)]) (by decide) rfl (fun _ => Nat.le_of_ble_eq_true rfl) (fun _ => rfl) (fun g a hc hI hr => ?_)
  refine gt_aload_n hc dX10_init_0 rfl rfl ?_
  refine nt_obj hc (by decide) dX10_init_1 (gw1 256 (by decide +kernel) rfl) oi_in oc_in ?_
  refine gt_aload_n hc dX10_init_4 rfl rfl ?_
  refine gt_iconst (v := 4) hc dX10_init_5 (by decide) ?_
  refine nt_newa1 (b := a + 1) (t := 0) (N := 4) (a0 := (4, .inl (fun _ => 0))) (tl' := [.inl (gdA g 0, 4, .inl (fun _ => 0))]) hc ⟨by rw [hr.1]; decide, by rw [hr.2]; decide⟩ ac0 (fun _ => rfl) (fun _ _ h => h) (fun _ => rfl) (by decide) (by decide) (by decide) dX10_init_6 rfl rfl ?_
  refine nt_putF0 (j := 1) (fs' := [.null, .ref (a + 1), .null, .null]) hc hI rfl inG10 tyX10 tyX10_ok nmX10 (by decide) (gw1 258 (by decide +kernel) rfl) rfl rfl rfl rfl rfl rfl (Nat.le_of_ble_eq_true rfl) dX10_init_8 ?_
  refine gt_aload_n hc dX10_init_11 rfl rfl ?_
  refine gt_iconst (v := 5) hc dX10_init_12 (by decide) ?_
  refine nt_newa1 (b := a + 2) (t := 0) (N := 5) (a0 := (5, .inl (fun _ => 0))) (tl' := [.inl (gdA g 0, 4, .inl (fun _ => 0)), .inl (gdA g 0, 5, .inl (fun _ => 0))]) hc ⟨by rw [hr.1]; decide, by rw [hr.2]; decide⟩ ac0 (fun _ => rfl) (fun _ _ h => h) (fun _ => rfl) (by decide) (by decide) (by decide) dX10_init_13 rfl rfl ?_
  refine nt_putF0 (j := 2) (fs' := [.null, .ref (a + 1), .ref (a + 2), .null]) hc hI rfl inG10 tyX10 tyX10_ok nmX10 (by decide) (gw1 259 (by decide +kernel) rfl) rfl rfl rfl rfl rfl rfl (Nat.le_of_ble_eq_true rfl) dX10_init_15 ?_
  refine gt_aload_n hc dX10_init_18 rfl rfl ?_
  refine gt_iconst (v := 4) hc dX10_init_19 (by decide) ?_
  refine nt_newa1 (b := a + 3) (t := 0) (N := 4) (a0 := (4, .inl (fun _ => 0))) (tl' := [.inl (gdA g 0, 4, .inl (fun _ => 0)), .inl (gdA g 0, 5, .inl (fun _ => 0)), .inl (gdA g 0, 4, .inl (fun _ => 0))]) hc ⟨by rw [hr.1]; decide, by rw [hr.2]; decide⟩ ac0 (fun _ => rfl) (fun _ _ h => h) (fun _ => rfl) (by decide) (by decide) (by decide) dX10_init_20 rfl rfl ?_
  refine nt_putF0 (j := 3) (fs' := [.null, .ref (a + 1), .ref (a + 2), .ref (a + 3)]) hc hI rfl inG10 tyX10 tyX10_ok nmX10 (by decide) (gw1 260 (by decide +kernel) rfl) rfl rfl rfl rfl rfl rfl (Nat.le_of_ble_eq_true rfl) dX10_init_22 ?_
  refine gt_aload_n hc dX10_init_25 rfl rfl ?_
  refine gt_aload_n hc dX10_init_26 rfl rfl ?_
  refine nt_putF0 (j := 0) (fs' := [.ref q, .ref (a + 1), .ref (a + 2), .ref (a + 3)]) hc hI rfl inG10 tyX10 tyX10_ok nmX10 (by decide) (gw1 257 (by decide +kernel) rfl) rfl rfl rfl rfl rfl rfl (Nat.le_of_ble_eq_true rfl) dX10_init_27 ?_
  exact nt_ret hc dX10_init_30 rfl rfl rfl rfl
def csX1a (q : Nat) (dA : Nat → ClassId) (a : Nat) : List va_E := [.inr (1, [.ref q, .int 1, .ref (a + 1), .int 0, .int 0, .int 0, .int 0, .ref (a + 4), .ref (a + 5), .ref (a + 6), .ref (a + 7), .ref (a + 8), .ref (a + 9), .ref (a + 2), .ref (a + 3)]), .inl (dA 0, 10, .inl (fun _ => 0)), .inl (dA 0, 51, .inl (fun _ => 0)), .inl (dA 0, 11264, .inl (fun _ => 0)), .inl (dA 0, 1296, .inl (fun _ => 0)), .inl (dA 0, 1296, .inl (fun _ => 0)), .inl (dA 0, 1296, .inl (fun _ => 0)), .inl (dA 0, 12960, .inl (fun _ => 0)), .inl (dA 2, 1296, .inr (.inl (fun _ => 0))), .inl (dA 0, 2048, .inl (fun _ => 0))]
theorem C_X1a (q : Nat) : nMt mX1_init 1 f0X1 1 9 31517 [.ref q, .int 1] (csX1a q) := by
  refine nMt.ofG (fun a => [some (.ref a), some (.ref q), some (.int 1), none]) (by decide) rfl (fun _ => Nat.le_of_ble_eq_true rfl) (fun _ => rfl) (fun g a hc hI hr => ?_)
  refine gt_aload_n hc dX1_init_0 rfl rfl ?_
  refine nt_obj hc (by decide) dX1_init_1 (gw1 275 (by decide +kernel) rfl) oi_in oc_in ?_
  refine gt_aload_n hc dX1_init_4 rfl rfl ?_
  refine gt_bipush (v := 10) hc dX1_init_5 (by decide) ?_
  refine nt_newa1 (b := a + 1) (t := 0) (N := 10) (a0 := (10, .inl (fun _ => 0))) (tl' := [.inl (gdA g 0, 10, .inl (fun _ => 0))]) hc ⟨by rw [hr.1]; decide, by rw [hr.2]; decide⟩ ac0 (fun _ => rfl) (fun _ _ h => h) (fun _ => rfl) (by decide) (by decide) (by decide) dX1_init_7 rfl rfl ?_
  refine nt_putF0 (j := 2) (fs' := [.null, .int 0, .ref (a + 1), .int 0, .int 0, .int 0, .int 0, .null, .null, .null, .null, .null, .null, .null, .null]) hc hI rfl inG1 tyX1 tyX1_ok nmX1 (by decide) (gw1 278 (by decide +kernel) rfl) rfl rfl rfl rfl rfl rfl (Nat.le_of_ble_eq_true rfl) dX1_init_9 ?_
  refine gt_aload_n hc dX1_init_12 rfl rfl ?_
  refine gt_bipush (v := 51) hc dX1_init_13 (by decide) ?_
  refine nt_newa1 (b := a + 2) (t := 0) (N := 51) (a0 := (51, .inl (fun _ => 0))) (tl' := [.inl (gdA g 0, 10, .inl (fun _ => 0)), .inl (gdA g 0, 51, .inl (fun _ => 0))]) hc ⟨by rw [hr.1]; decide, by rw [hr.2]; decide⟩ ac0 (fun _ => rfl) (fun _ _ h => h) (fun _ => rfl) (by decide) (by decide) (by decide) dX1_init_15 rfl rfl ?_
  refine nt_putF0 (j := 13) (fs' := [.null, .int 0, .ref (a + 1), .int 0, .int 0, .int 0, .int 0, .null, .null, .null, .null, .null, .null, .ref (a + 2), .null]) hc hI rfl inG1 tyX1 tyX1_ok nmX1 (by decide) (gw1 289 (by decide +kernel) rfl) rfl rfl rfl rfl rfl rfl (Nat.le_of_ble_eq_true rfl) dX1_init_17 ?_
  refine gt_aload_n hc dX1_init_20 rfl rfl ?_
  refine gt_sipush (v := 11264) hc dX1_init_21 (by decide) ?_
  refine nt_newa1 (b := a + 3) (t := 0) (N := 11264) (a0 := (11264, .inl (fun _ => 0))) (tl' := [.inl (gdA g 0, 10, .inl (fun _ => 0)), .inl (gdA g 0, 51, .inl (fun _ => 0)), .inl (gdA g 0, 11264, .inl (fun _ => 0))]) hc ⟨by rw [hr.1]; decide, by rw [hr.2]; decide⟩ ac0 (fun _ => rfl) (fun _ _ h => h) (fun _ => rfl) (by decide) (by decide) (by decide) dX1_init_24 rfl rfl ?_
  refine nt_putF0 (j := 14) (fs' := [.null, .int 0, .ref (a + 1), .int 0, .int 0, .int 0, .int 0, .null, .null, .null, .null, .null, .null, .ref (a + 2), .ref (a + 3)]) hc hI rfl inG1 tyX1 tyX1_ok nmX1 (by decide) (gw1 290 (by decide +kernel) rfl) rfl rfl rfl rfl rfl rfl (Nat.le_of_ble_eq_true rfl) dX1_init_26 ?_
  refine gt_iload_n hc dX1_init_29 rfl rfl ?_
  refine gt_if_eq (tgt := 39) hc dX1_init_30 (by decide) (fun h => absurd h (by decide)) (fun _ => ?_)
  refine gt_sipush (v := 1296) hc dX1_init_33 (by decide) ?_
  refine gt_goto (tgt := 41) hc dX1_init_36 (by omega) ?_
  refine gt_istore_n hc dX1_init_41 rfl (by decide) rfl ?_
  refine gt_aload_n hc dX1_init_42 rfl rfl ?_
  refine gt_aload_n hc dX1_init_43 rfl rfl ?_
  refine nt_putF0 (j := 0) (fs' := [.ref q, .int 0, .ref (a + 1), .int 0, .int 0, .int 0, .int 0, .null, .null, .null, .null, .null, .null, .ref (a + 2), .ref (a + 3)]) hc hI rfl inG1 tyX1 tyX1_ok nmX1 (by decide) (gw1 276 (by decide +kernel) rfl) rfl rfl rfl rfl rfl rfl (Nat.le_of_ble_eq_true rfl) dX1_init_44 ?_
  refine gt_aload_n hc dX1_init_47 rfl rfl ?_
  refine gt_iload_n hc dX1_init_48 rfl rfl ?_
  refine nt_putF0 (j := 1) (fs' := [.ref q, .int 1, .ref (a + 1), .int 0, .int 0, .int 0, .int 0, .null, .null, .null, .null, .null, .null, .ref (a + 2), .ref (a + 3)]) hc hI rfl inG1 tyX1 tyX1_ok nmX1 (by decide) (gw1 277 (by decide +kernel) rfl) rfl rfl rfl rfl rfl rfl (Nat.le_of_ble_eq_true rfl) dX1_init_49 ?_
  refine gt_aload_n hc dX1_init_52 rfl rfl ?_
  refine gt_iload_n hc dX1_init_53 rfl rfl ?_
  refine nt_newa1 (b := a + 4) (t := 0) (N := 1296) (a0 := (1296, .inl (fun _ => 0))) (tl' := [.inl (gdA g 0, 10, .inl (fun _ => 0)), .inl (gdA g 0, 51, .inl (fun _ => 0)), .inl (gdA g 0, 11264, .inl (fun _ => 0)), .inl (gdA g 0, 1296, .inl (fun _ => 0))]) hc ⟨by rw [hr.1]; decide, by rw [hr.2]; decide⟩ ac0 (fun _ => rfl) (fun _ _ h => h) (fun _ => rfl) (by decide) (by decide) (by decide) dX1_init_54 rfl rfl ?_
  refine nt_putF0 (j := 7) (fs' := [.ref q, .int 1, .ref (a + 1), .int 0, .int 0, .int 0, .int 0, .ref (a + 4), .null, .null, .null, .null, .null, .ref (a + 2), .ref (a + 3)]) hc hI rfl inG1 tyX1 tyX1_ok nmX1 (by decide) (gw1 283 (by decide +kernel) rfl) rfl rfl rfl rfl rfl rfl (Nat.le_of_ble_eq_true rfl) dX1_init_56 ?_
  refine gt_aload_n hc dX1_init_59 rfl rfl ?_
  refine gt_iload_n hc dX1_init_60 rfl rfl ?_
  refine nt_newa1 (b := a + 5) (t := 0) (N := 1296) (a0 := (1296, .inl (fun _ => 0))) (tl' := [.inl (gdA g 0, 10, .inl (fun _ => 0)), .inl (gdA g 0, 51, .inl (fun _ => 0)), .inl (gdA g 0, 11264, .inl (fun _ => 0)), .inl (gdA g 0, 1296, .inl (fun _ => 0)), .inl (gdA g 0, 1296, .inl (fun _ => 0))]) hc ⟨by rw [hr.1]; decide, by rw [hr.2]; decide⟩ ac0 (fun _ => rfl) (fun _ _ h => h) (fun _ => rfl) (by decide) (by decide) (by decide) dX1_init_61 rfl rfl ?_
  refine nt_putF0 (j := 8) (fs' := [.ref q, .int 1, .ref (a + 1), .int 0, .int 0, .int 0, .int 0, .ref (a + 4), .ref (a + 5), .null, .null, .null, .null, .ref (a + 2), .ref (a + 3)]) hc hI rfl inG1 tyX1 tyX1_ok nmX1 (by decide) (gw1 284 (by decide +kernel) rfl) rfl rfl rfl rfl rfl rfl (Nat.le_of_ble_eq_true rfl) dX1_init_63 ?_
  refine gt_aload_n hc dX1_init_66 rfl rfl ?_
  refine gt_iload_n hc dX1_init_67 rfl rfl ?_
  refine nt_newa1 (b := a + 6) (t := 0) (N := 1296) (a0 := (1296, .inl (fun _ => 0))) (tl' := [.inl (gdA g 0, 10, .inl (fun _ => 0)), .inl (gdA g 0, 51, .inl (fun _ => 0)), .inl (gdA g 0, 11264, .inl (fun _ => 0)), .inl (gdA g 0, 1296, .inl (fun _ => 0)), .inl (gdA g 0, 1296, .inl (fun _ => 0)), .inl (gdA g 0, 1296, .inl (fun _ => 0))]) hc ⟨by rw [hr.1]; decide, by rw [hr.2]; decide⟩ ac0 (fun _ => rfl) (fun _ _ h => h) (fun _ => rfl) (by decide) (by decide) (by decide) dX1_init_68 rfl rfl ?_
  refine nt_putF0 (j := 9) (fs' := [.ref q, .int 1, .ref (a + 1), .int 0, .int 0, .int 0, .int 0, .ref (a + 4), .ref (a + 5), .ref (a + 6), .null, .null, .null, .ref (a + 2), .ref (a + 3)]) hc hI rfl inG1 tyX1 tyX1_ok nmX1 (by decide) (gw1 285 (by decide +kernel) rfl) rfl rfl rfl rfl rfl rfl (Nat.le_of_ble_eq_true rfl) dX1_init_70 ?_
  refine gt_aload_n hc dX1_init_73 rfl rfl ?_
  refine gt_iload_n hc dX1_init_74 rfl rfl ?_
  refine gt_bipush (v := 10) hc dX1_init_75 (by decide) ?_
  refine gt_imul hc dX1_init_77 ?_
  rw [show (1296 : Int32) * 10 = 12960 by decide]
  refine nt_newa1 (b := a + 7) (t := 0) (N := 12960) (a0 := (12960, .inl (fun _ => 0))) (tl' := [.inl (gdA g 0, 10, .inl (fun _ => 0)), .inl (gdA g 0, 51, .inl (fun _ => 0)), .inl (gdA g 0, 11264, .inl (fun _ => 0)), .inl (gdA g 0, 1296, .inl (fun _ => 0)), .inl (gdA g 0, 1296, .inl (fun _ => 0)), .inl (gdA g 0, 1296, .inl (fun _ => 0)), .inl (gdA g 0, 12960, .inl (fun _ => 0))]) hc ⟨by rw [hr.1]; decide, by rw [hr.2]; decide⟩ ac0 (fun _ => rfl) (fun _ _ h => h) (fun _ => rfl) (by decide) (by decide) (by decide) dX1_init_78 rfl rfl ?_
  refine nt_putF0 (j := 10) (fs' := [.ref q, .int 1, .ref (a + 1), .int 0, .int 0, .int 0, .int 0, .ref (a + 4), .ref (a + 5), .ref (a + 6), .ref (a + 7), .null, .null, .ref (a + 2), .ref (a + 3)]) hc hI rfl inG1 tyX1 tyX1_ok nmX1 (by decide) (gw1 286 (by decide +kernel) rfl) rfl rfl rfl rfl rfl rfl (Nat.le_of_ble_eq_true rfl) dX1_init_80 ?_
  refine gt_aload_n hc dX1_init_83 rfl rfl ?_
  refine gt_iload_n hc dX1_init_84 rfl rfl ?_
  refine nt_newa1 (b := a + 8) (t := 2) (N := 1296) (a0 := (1296, .inr (.inl (fun _ => 0)))) (tl' := [.inl (gdA g 0, 10, .inl (fun _ => 0)), .inl (gdA g 0, 51, .inl (fun _ => 0)), .inl (gdA g 0, 11264, .inl (fun _ => 0)), .inl (gdA g 0, 1296, .inl (fun _ => 0)), .inl (gdA g 0, 1296, .inl (fun _ => 0)), .inl (gdA g 0, 1296, .inl (fun _ => 0)), .inl (gdA g 0, 12960, .inl (fun _ => 0)), .inl (gdA g 2, 1296, .inr (.inl (fun _ => 0)))]) hc ⟨by rw [hr.1]; decide, by rw [hr.2]; decide⟩ ac2 (fun _ => rfl) (fun _ _ h => h) (fun _ => rfl) (by decide) (by decide) (by decide) dX1_init_85 rfl rfl ?_
  refine nt_putF0 (j := 11) (fs' := [.ref q, .int 1, .ref (a + 1), .int 0, .int 0, .int 0, .int 0, .ref (a + 4), .ref (a + 5), .ref (a + 6), .ref (a + 7), .ref (a + 8), .null, .ref (a + 2), .ref (a + 3)]) hc hI rfl inG1 tyX1 tyX1_ok nmX1 (by decide) (gw1 287 (by decide +kernel) rfl) rfl rfl rfl rfl rfl rfl (Nat.le_of_ble_eq_true rfl) dX1_init_87 ?_
  refine gt_aload_n hc dX1_init_90 rfl rfl ?_
  refine gt_iload_n hc dX1_init_91 rfl rfl ?_
  refine gt_if_eq (tgt := 101) hc dX1_init_92 (by decide) (fun h => absurd h (by decide)) (fun _ => ?_)
  refine gt_sipush (v := 2048) hc dX1_init_95 (by decide) ?_
  refine gt_goto (tgt := 102) hc dX1_init_98 (by omega) ?_
  refine nt_newa1 (b := a + 9) (t := 0) (N := 2048) (a0 := (2048, .inl (fun _ => 0))) (tl' := [.inl (gdA g 0, 10, .inl (fun _ => 0)), .inl (gdA g 0, 51, .inl (fun _ => 0)), .inl (gdA g 0, 11264, .inl (fun _ => 0)), .inl (gdA g 0, 1296, .inl (fun _ => 0)), .inl (gdA g 0, 1296, .inl (fun _ => 0)), .inl (gdA g 0, 1296, .inl (fun _ => 0)), .inl (gdA g 0, 12960, .inl (fun _ => 0)), .inl (gdA g 2, 1296, .inr (.inl (fun _ => 0))), .inl (gdA g 0, 2048, .inl (fun _ => 0))]) hc ⟨by rw [hr.1]; decide, by rw [hr.2]; decide⟩ ac0 (fun _ => rfl) (fun _ _ h => h) (fun _ => rfl) (by decide) (by decide) (by decide) dX1_init_102 rfl rfl ?_
  refine nt_putF0 (j := 12) (fs' := [.ref q, .int 1, .ref (a + 1), .int 0, .int 0, .int 0, .int 0, .ref (a + 4), .ref (a + 5), .ref (a + 6), .ref (a + 7), .ref (a + 8), .ref (a + 9), .ref (a + 2), .ref (a + 3)]) hc hI rfl inG1 tyX1 tyX1_ok nmX1 (by decide) (gw1 288 (by decide +kernel) rfl) rfl rfl rfl rfl rfl rfl (Nat.le_of_ble_eq_true rfl) dX1_init_104 ?_
  exact nt_ret hc dX1_init_107 rfl rfl rfl rfl
def csX1b (q : Nat) (dA : Nat → ClassId) (a : Nat) : List va_E := [.inr (1, [.ref q, .int 0, .ref (a + 1), .int 0, .int 0, .int 0, .int 0, .ref (a + 4), .ref (a + 5), .ref (a + 6), .ref (a + 7), .ref (a + 8), .ref (a + 9), .ref (a + 2), .ref (a + 3)]), .inl (dA 0, 10, .inl (fun _ => 0)), .inl (dA 0, 51, .inl (fun _ => 0)), .inl (dA 0, 11264, .inl (fun _ => 0)), .inl (dA 0, 10, .inl (fun _ => 0)), .inl (dA 0, 10, .inl (fun _ => 0)), .inl (dA 0, 10, .inl (fun _ => 0)), .inl (dA 0, 100, .inl (fun _ => 0)), .inl (dA 2, 10, .inr (.inl (fun _ => 0))), .inl (dA 0, 0, .inl (fun _ => 0))]
theorem C_X1b (q : Nat) : nMt mX1_init 1 f0X1 1 9 11465 [.ref q, .int 0] (csX1b q) := by
  refine nMt.ofG (fun a => [some (.ref a), some (.ref q), some (.int 0), none]) (by decide) rfl (fun _ => Nat.le_of_ble_eq_true rfl) (fun _ => rfl) (fun g a hc hI hr => ?_)
  refine gt_aload_n hc dX1_init_0 rfl rfl ?_
  refine nt_obj hc (by decide) dX1_init_1 (gw1 275 (by decide +kernel) rfl) oi_in oc_in ?_
  refine gt_aload_n hc dX1_init_4 rfl rfl ?_
  refine gt_bipush (v := 10) hc dX1_init_5 (by decide) ?_
  refine nt_newa1 (b := a + 1) (t := 0) (N := 10) (a0 := (10, .inl (fun _ => 0))) (tl' := [.inl (gdA g 0, 10, .inl (fun _ => 0))]) hc ⟨by rw [hr.1]; decide, by rw [hr.2]; decide⟩ ac0 (fun _ => rfl) (fun _ _ h => h) (fun _ => rfl) (by decide) (by decide) (by decide) dX1_init_7 rfl rfl ?_
  refine nt_putF0 (j := 2) (fs' := [.null, .int 0, .ref (a + 1), .int 0, .int 0, .int 0, .int 0, .null, .null, .null, .null, .null, .null, .null, .null]) hc hI rfl inG1 tyX1 tyX1_ok nmX1 (by decide) (gw1 278 (by decide +kernel) rfl) rfl rfl rfl rfl rfl rfl (Nat.le_of_ble_eq_true rfl) dX1_init_9 ?_
  refine gt_aload_n hc dX1_init_12 rfl rfl ?_
  refine gt_bipush (v := 51) hc dX1_init_13 (by decide) ?_
  refine nt_newa1 (b := a + 2) (t := 0) (N := 51) (a0 := (51, .inl (fun _ => 0))) (tl' := [.inl (gdA g 0, 10, .inl (fun _ => 0)), .inl (gdA g 0, 51, .inl (fun _ => 0))]) hc ⟨by rw [hr.1]; decide, by rw [hr.2]; decide⟩ ac0 (fun _ => rfl) (fun _ _ h => h) (fun _ => rfl) (by decide) (by decide) (by decide) dX1_init_15 rfl rfl ?_
  refine nt_putF0 (j := 13) (fs' := [.null, .int 0, .ref (a + 1), .int 0, .int 0, .int 0, .int 0, .null, .null, .null, .null, .null, .null, .ref (a + 2), .null]) hc hI rfl inG1 tyX1 tyX1_ok nmX1 (by decide) (gw1 289 (by decide +kernel) rfl) rfl rfl rfl rfl rfl rfl (Nat.le_of_ble_eq_true rfl) dX1_init_17 ?_
  refine gt_aload_n hc dX1_init_20 rfl rfl ?_
  refine gt_sipush (v := 11264) hc dX1_init_21 (by decide) ?_
  refine nt_newa1 (b := a + 3) (t := 0) (N := 11264) (a0 := (11264, .inl (fun _ => 0))) (tl' := [.inl (gdA g 0, 10, .inl (fun _ => 0)), .inl (gdA g 0, 51, .inl (fun _ => 0)), .inl (gdA g 0, 11264, .inl (fun _ => 0))]) hc ⟨by rw [hr.1]; decide, by rw [hr.2]; decide⟩ ac0 (fun _ => rfl) (fun _ _ h => h) (fun _ => rfl) (by decide) (by decide) (by decide) dX1_init_24 rfl rfl ?_
  refine nt_putF0 (j := 14) (fs' := [.null, .int 0, .ref (a + 1), .int 0, .int 0, .int 0, .int 0, .null, .null, .null, .null, .null, .null, .ref (a + 2), .ref (a + 3)]) hc hI rfl inG1 tyX1 tyX1_ok nmX1 (by decide) (gw1 290 (by decide +kernel) rfl) rfl rfl rfl rfl rfl rfl (Nat.le_of_ble_eq_true rfl) dX1_init_26 ?_
  refine gt_iload_n hc dX1_init_29 rfl rfl ?_
  refine gt_if_eq (tgt := 39) hc dX1_init_30 (by decide) (fun _ => ?_) (fun h => absurd rfl h)
  refine gt_bipush (v := 10) hc dX1_init_39 (by decide) ?_
  refine gt_istore_n hc dX1_init_41 rfl (by decide) rfl ?_
  refine gt_aload_n hc dX1_init_42 rfl rfl ?_
  refine gt_aload_n hc dX1_init_43 rfl rfl ?_
  refine nt_putF0 (j := 0) (fs' := [.ref q, .int 0, .ref (a + 1), .int 0, .int 0, .int 0, .int 0, .null, .null, .null, .null, .null, .null, .ref (a + 2), .ref (a + 3)]) hc hI rfl inG1 tyX1 tyX1_ok nmX1 (by decide) (gw1 276 (by decide +kernel) rfl) rfl rfl rfl rfl rfl rfl (Nat.le_of_ble_eq_true rfl) dX1_init_44 ?_
  refine gt_aload_n hc dX1_init_47 rfl rfl ?_
  refine gt_iload_n hc dX1_init_48 rfl rfl ?_
  refine nt_putF0 (j := 1) (fs' := [.ref q, .int 0, .ref (a + 1), .int 0, .int 0, .int 0, .int 0, .null, .null, .null, .null, .null, .null, .ref (a + 2), .ref (a + 3)]) hc hI rfl inG1 tyX1 tyX1_ok nmX1 (by decide) (gw1 277 (by decide +kernel) rfl) rfl rfl rfl rfl rfl rfl (Nat.le_of_ble_eq_true rfl) dX1_init_49 ?_
  refine gt_aload_n hc dX1_init_52 rfl rfl ?_
  refine gt_iload_n hc dX1_init_53 rfl rfl ?_
  refine nt_newa1 (b := a + 4) (t := 0) (N := 10) (a0 := (10, .inl (fun _ => 0))) (tl' := [.inl (gdA g 0, 10, .inl (fun _ => 0)), .inl (gdA g 0, 51, .inl (fun _ => 0)), .inl (gdA g 0, 11264, .inl (fun _ => 0)), .inl (gdA g 0, 10, .inl (fun _ => 0))]) hc ⟨by rw [hr.1]; decide, by rw [hr.2]; decide⟩ ac0 (fun _ => rfl) (fun _ _ h => h) (fun _ => rfl) (by decide) (by decide) (by decide) dX1_init_54 rfl rfl ?_
  refine nt_putF0 (j := 7) (fs' := [.ref q, .int 0, .ref (a + 1), .int 0, .int 0, .int 0, .int 0, .ref (a + 4), .null, .null, .null, .null, .null, .ref (a + 2), .ref (a + 3)]) hc hI rfl inG1 tyX1 tyX1_ok nmX1 (by decide) (gw1 283 (by decide +kernel) rfl) rfl rfl rfl rfl rfl rfl (Nat.le_of_ble_eq_true rfl) dX1_init_56 ?_
  refine gt_aload_n hc dX1_init_59 rfl rfl ?_
  refine gt_iload_n hc dX1_init_60 rfl rfl ?_
  refine nt_newa1 (b := a + 5) (t := 0) (N := 10) (a0 := (10, .inl (fun _ => 0))) (tl' := [.inl (gdA g 0, 10, .inl (fun _ => 0)), .inl (gdA g 0, 51, .inl (fun _ => 0)), .inl (gdA g 0, 11264, .inl (fun _ => 0)), .inl (gdA g 0, 10, .inl (fun _ => 0)), .inl (gdA g 0, 10, .inl (fun _ => 0))]) hc ⟨by rw [hr.1]; decide, by rw [hr.2]; decide⟩ ac0 (fun _ => rfl) (fun _ _ h => h) (fun _ => rfl) (by decide) (by decide) (by decide) dX1_init_61 rfl rfl ?_
  refine nt_putF0 (j := 8) (fs' := [.ref q, .int 0, .ref (a + 1), .int 0, .int 0, .int 0, .int 0, .ref (a + 4), .ref (a + 5), .null, .null, .null, .null, .ref (a + 2), .ref (a + 3)]) hc hI rfl inG1 tyX1 tyX1_ok nmX1 (by decide) (gw1 284 (by decide +kernel) rfl) rfl rfl rfl rfl rfl rfl (Nat.le_of_ble_eq_true rfl) dX1_init_63 ?_
  refine gt_aload_n hc dX1_init_66 rfl rfl ?_
  refine gt_iload_n hc dX1_init_67 rfl rfl ?_
  refine nt_newa1 (b := a + 6) (t := 0) (N := 10) (a0 := (10, .inl (fun _ => 0))) (tl' := [.inl (gdA g 0, 10, .inl (fun _ => 0)), .inl (gdA g 0, 51, .inl (fun _ => 0)), .inl (gdA g 0, 11264, .inl (fun _ => 0)), .inl (gdA g 0, 10, .inl (fun _ => 0)), .inl (gdA g 0, 10, .inl (fun _ => 0)), .inl (gdA g 0, 10, .inl (fun _ => 0))]) hc ⟨by rw [hr.1]; decide, by rw [hr.2]; decide⟩ ac0 (fun _ => rfl) (fun _ _ h => h) (fun _ => rfl) (by decide) (by decide) (by decide) dX1_init_68 rfl rfl ?_
  refine nt_putF0 (j := 9) (fs' := [.ref q, .int 0, .ref (a + 1), .int 0, .int 0, .int 0, .int 0, .ref (a + 4), .ref (a + 5), .ref (a + 6), .null, .null, .null, .ref (a + 2), .ref (a + 3)]) hc hI rfl inG1 tyX1 tyX1_ok nmX1 (by decide) (gw1 285 (by decide +kernel) rfl) rfl rfl rfl rfl rfl rfl (Nat.le_of_ble_eq_true rfl) dX1_init_70 ?_
  refine gt_aload_n hc dX1_init_73 rfl rfl ?_
  refine gt_iload_n hc dX1_init_74 rfl rfl ?_
  refine gt_bipush (v := 10) hc dX1_init_75 (by decide) ?_
  refine gt_imul hc dX1_init_77 ?_
  rw [show (10 : Int32) * 10 = 100 by decide]
  refine nt_newa1 (b := a + 7) (t := 0) (N := 100) (a0 := (100, .inl (fun _ => 0))) (tl' := [.inl (gdA g 0, 10, .inl (fun _ => 0)), .inl (gdA g 0, 51, .inl (fun _ => 0)), .inl (gdA g 0, 11264, .inl (fun _ => 0)), .inl (gdA g 0, 10, .inl (fun _ => 0)), .inl (gdA g 0, 10, .inl (fun _ => 0)), .inl (gdA g 0, 10, .inl (fun _ => 0)), .inl (gdA g 0, 100, .inl (fun _ => 0))]) hc ⟨by rw [hr.1]; decide, by rw [hr.2]; decide⟩ ac0 (fun _ => rfl) (fun _ _ h => h) (fun _ => rfl) (by decide) (by decide) (by decide) dX1_init_78 rfl rfl ?_
  refine nt_putF0 (j := 10) (fs' := [.ref q, .int 0, .ref (a + 1), .int 0, .int 0, .int 0, .int 0, .ref (a + 4), .ref (a + 5), .ref (a + 6), .ref (a + 7), .null, .null, .ref (a + 2), .ref (a + 3)]) hc hI rfl inG1 tyX1 tyX1_ok nmX1 (by decide) (gw1 286 (by decide +kernel) rfl) rfl rfl rfl rfl rfl rfl (Nat.le_of_ble_eq_true rfl) dX1_init_80 ?_
  refine gt_aload_n hc dX1_init_83 rfl rfl ?_
  refine gt_iload_n hc dX1_init_84 rfl rfl ?_
  refine nt_newa1 (b := a + 8) (t := 2) (N := 10) (a0 := (10, .inr (.inl (fun _ => 0)))) (tl' := [.inl (gdA g 0, 10, .inl (fun _ => 0)), .inl (gdA g 0, 51, .inl (fun _ => 0)), .inl (gdA g 0, 11264, .inl (fun _ => 0)), .inl (gdA g 0, 10, .inl (fun _ => 0)), .inl (gdA g 0, 10, .inl (fun _ => 0)), .inl (gdA g 0, 10, .inl (fun _ => 0)), .inl (gdA g 0, 100, .inl (fun _ => 0)), .inl (gdA g 2, 10, .inr (.inl (fun _ => 0)))]) hc ⟨by rw [hr.1]; decide, by rw [hr.2]; decide⟩ ac2 (fun _ => rfl) (fun _ _ h => h) (fun _ => rfl) (by decide) (by decide) (by decide) dX1_init_85 rfl rfl ?_
  refine nt_putF0 (j := 11) (fs' := [.ref q, .int 0, .ref (a + 1), .int 0, .int 0, .int 0, .int 0, .ref (a + 4), .ref (a + 5), .ref (a + 6), .ref (a + 7), .ref (a + 8), .null, .ref (a + 2), .ref (a + 3)]) hc hI rfl inG1 tyX1 tyX1_ok nmX1 (by decide) (gw1 287 (by decide +kernel) rfl) rfl rfl rfl rfl rfl rfl (Nat.le_of_ble_eq_true rfl) dX1_init_87 ?_
  refine gt_aload_n hc dX1_init_90 rfl rfl ?_
  refine gt_iload_n hc dX1_init_91 rfl rfl ?_
  refine gt_if_eq (tgt := 101) hc dX1_init_92 (by decide) (fun _ => ?_) (fun h => absurd rfl h)
  refine gt_iconst (v := 0) hc dX1_init_101 (by decide) ?_
  refine nt_newa1 (b := a + 9) (t := 0) (N := 0) (a0 := (0, .inl (fun _ => 0))) (tl' := [.inl (gdA g 0, 10, .inl (fun _ => 0)), .inl (gdA g 0, 51, .inl (fun _ => 0)), .inl (gdA g 0, 11264, .inl (fun _ => 0)), .inl (gdA g 0, 10, .inl (fun _ => 0)), .inl (gdA g 0, 10, .inl (fun _ => 0)), .inl (gdA g 0, 10, .inl (fun _ => 0)), .inl (gdA g 0, 100, .inl (fun _ => 0)), .inl (gdA g 2, 10, .inr (.inl (fun _ => 0))), .inl (gdA g 0, 0, .inl (fun _ => 0))]) hc ⟨by rw [hr.1]; decide, by rw [hr.2]; decide⟩ ac0 (fun _ => rfl) (fun _ _ h => h) (fun _ => rfl) (by decide) (by decide) (by decide) dX1_init_102 rfl rfl ?_
  refine nt_putF0 (j := 12) (fs' := [.ref q, .int 0, .ref (a + 1), .int 0, .int 0, .int 0, .int 0, .ref (a + 4), .ref (a + 5), .ref (a + 6), .ref (a + 7), .ref (a + 8), .ref (a + 9), .ref (a + 2), .ref (a + 3)]) hc hI rfl inG1 tyX1 tyX1_ok nmX1 (by decide) (gw1 288 (by decide +kernel) rfl) rfl rfl rfl rfl rfl rfl (Nat.le_of_ble_eq_true rfl) dX1_init_104 ?_
  exact nt_ret hc dX1_init_107 rfl rfl rfl rfl
def csX0 (dA : Nat → ClassId) (a : Nat) : List va_E := [.inr (0, [.int 0, .int 0, .int 0, .ref (a + 1), .ref (a + 2), .ref (a + 3), .ref (a + 4)]), .inl (dA 0, 4096, .inl (fun _ => 0)), .inl (dA 0, 4096, .inl (fun _ => 0)), .inl (dA 0, 4096, .inl (fun _ => 0)), .inr (2, [.ref (a + 5), .int 0, .int 0]), .inl (dA 0, 5, .inl (fun _ => 0))]
theorem C_X0 : nMt mX0_init 0 f0X0 2 5 12296 [] (csX0) := by
  refine nMt.ofG (fun a => [some (.ref a)]) (by decide) rfl (fun _ => Nat.le_of_ble_eq_true rfl) (fun _ => rfl) (fun g a hc hI hr => ?_)
  refine gt_aload_n hc dX0_init_0 rfl rfl ?_
  refine nt_obj hc (by decide) dX0_init_1 (gw1 36 (by decide +kernel) rfl) oi_in oc_in ?_
  refine gt_aload_n hc dX0_init_4 rfl rfl ?_
  refine gt_sipush (v := 4096) hc dX0_init_5 (by decide) ?_
  refine nt_newa1 (b := a + 1) (t := 0) (N := 4096) (a0 := (4096, .inl (fun _ => 0))) (tl' := [.inl (gdA g 0, 4096, .inl (fun _ => 0))]) hc ⟨by rw [hr.1]; decide, by rw [hr.2]; decide⟩ ac0 (fun _ => rfl) (fun _ _ h => h) (fun _ => rfl) (by decide) (by decide) (by decide) dX0_init_8 rfl rfl ?_
  refine nt_putF0 (j := 3) (fs' := [.int 0, .int 0, .int 0, .ref (a + 1), .null, .null, .null]) hc hI rfl inG0 tyX0 tyX0_ok nmX0 (by decide) (gw1 78 (by decide +kernel) rfl) rfl rfl rfl rfl rfl rfl (Nat.le_of_ble_eq_true rfl) dX0_init_10 ?_
  refine gt_aload_n hc dX0_init_13 rfl rfl ?_
  refine gt_sipush (v := 4096) hc dX0_init_14 (by decide) ?_
  refine nt_newa1 (b := a + 2) (t := 0) (N := 4096) (a0 := (4096, .inl (fun _ => 0))) (tl' := [.inl (gdA g 0, 4096, .inl (fun _ => 0)), .inl (gdA g 0, 4096, .inl (fun _ => 0))]) hc ⟨by rw [hr.1]; decide, by rw [hr.2]; decide⟩ ac0 (fun _ => rfl) (fun _ _ h => h) (fun _ => rfl) (by decide) (by decide) (by decide) dX0_init_17 rfl rfl ?_
  refine nt_putF0 (j := 4) (fs' := [.int 0, .int 0, .int 0, .ref (a + 1), .ref (a + 2), .null, .null]) hc hI rfl inG0 tyX0 tyX0_ok nmX0 (by decide) (gw1 80 (by decide +kernel) rfl) rfl rfl rfl rfl rfl rfl (Nat.le_of_ble_eq_true rfl) dX0_init_19 ?_
  refine gt_aload_n hc dX0_init_22 rfl rfl ?_
  refine gt_sipush (v := 4096) hc dX0_init_23 (by decide) ?_
  refine nt_newa1 (b := a + 3) (t := 0) (N := 4096) (a0 := (4096, .inl (fun _ => 0))) (tl' := [.inl (gdA g 0, 4096, .inl (fun _ => 0)), .inl (gdA g 0, 4096, .inl (fun _ => 0)), .inl (gdA g 0, 4096, .inl (fun _ => 0))]) hc ⟨by rw [hr.1]; decide, by rw [hr.2]; decide⟩ ac0 (fun _ => rfl) (fun _ _ h => h) (fun _ => rfl) (by decide) (by decide) (by decide) dX0_init_26 rfl rfl ?_
  refine nt_putF0 (j := 5) (fs' := [.int 0, .int 0, .int 0, .ref (a + 1), .ref (a + 2), .ref (a + 3), .null]) hc hI rfl inG0 tyX0 tyX0_ok nmX0 (by decide) (gw1 82 (by decide +kernel) rfl) rfl rfl rfl rfl rfl rfl (Nat.le_of_ble_eq_true rfl) dX0_init_28 ?_
  refine gt_aload_n hc dX0_init_31 rfl rfl ?_
  refine nt_new1 (b := a + 4) (ci := 2) (N := 3) (C := RX2) (T := TX2) (fs := f0X2) hc ⟨by rw [hr.1]; decide, by rw [hr.2]; decide⟩ rfl inG2 tyX2 tyX2_ok (gw1 37 (by decide +kernel) rfl) (gw1 38 (by decide +kernel) rfl) (gw1 3 (by decide +kernel) rfl) dfX2 dX0_init_32 rfl ?_
  refine gt_dup hc dX0_init_35 rfl ?_
  refine nt_call1 (n := 0) (b := a + 4) (tl' := [.inl (gdA g 0, 4096, .inl (fun _ => 0)), .inl (gdA g 0, 4096, .inl (fun _ => 0)), .inl (gdA g 0, 4096, .inl (fun _ => 0)), .inr (2, [.ref (a + 5), .int 0, .int 0]), .inl (gdA g 0, 5, .inl (fun _ => 0))]) hc (C_X2) (⟨cwX2_init, gw1 3 (by decide +kernel) rfl, gw1 40 (by decide +kernel) rfl, by decide, rfl, rfl, ⟨by decide, by decide, by decide +kernel⟩, Or.inr ⟨"PegCourt", tb_in 39 (by decide +kernel)⟩⟩) ⟨by rw [hr.1]; decide, by rw [hr.2]; decide⟩ (by decide) rfl rfl rfl rfl (Nat.le_of_ble_eq_true rfl) dX0_init_36 ?_
  refine nt_putF0 (j := 6) (fs' := [.int 0, .int 0, .int 0, .ref (a + 1), .ref (a + 2), .ref (a + 3), .ref (a + 4)]) hc hI rfl inG0 tyX0 tyX0_ok nmX0 (by decide) (gw1 83 (by decide +kernel) rfl) rfl rfl rfl rfl rfl rfl (Nat.le_of_ble_eq_true rfl) dX0_init_39 ?_
  exact nt_ret hc dX0_init_42 rfl rfl rfl rfl
def csX5 (q : Nat) (dA : Nat → ClassId) (a : Nat) : List va_E := [.inr (5, [.ref q, .ref (a + 1), .ref (a + 4), .ref (a + 5), .ref (a + 6), .ref (a + 7), .ref (a + 8), .ref (a + 9), .int 0, .int 0, .int 0, .int 0, .int 0, .int 0, .int 0, .int 0, .int 0]), .inr (6, [.ref (a + 2), .ref (a + 3), .int 0]), .inl (dA 1, 1024, .inl (fun _ => 0)), .inl (dA 0, 1024, .inl (fun _ => 0)), .inl (dA 0, 50, .inl (fun _ => 0)), .inl (dA 0, 10, .inl (fun _ => 0)), .inl (dA 1, 4096, .inl (fun _ => 0)), .inl (dA 1, 4096, .inl (fun _ => 0)), .inl (dA 0, 4096, .inl (fun _ => 0)), .inl (dA 0, 4096, .inl (fun _ => 0))]
theorem C_X5 (q : Nat) : nMt mX5_init 5 f0X5 2 9 18495 [.ref q] (csX5 q) := by
  refine nMt.ofG (fun a => [some (.ref a), some (.ref q)]) (by decide) rfl (fun _ => Nat.le_of_ble_eq_true rfl) (fun _ => rfl) (fun g a hc hI hr => ?_)
  refine gt_aload_n hc dX5_init_0 rfl rfl ?_
  refine nt_obj hc (by decide) dX5_init_1 (gw1 104 (by decide +kernel) rfl) oi_in oc_in ?_
  refine gt_aload_n hc dX5_init_4 rfl rfl ?_
  refine nt_new1 (b := a + 1) (ci := 6) (N := 3) (C := RX6) (T := TX6) (fs := f0X6) hc ⟨by rw [hr.1]; decide, by rw [hr.2]; decide⟩ rfl inG6 tyX6 tyX6_ok (gw1 105 (by decide +kernel) rfl) (gw1 106 (by decide +kernel) rfl) (gw1 5 (by decide +kernel) rfl) dfX6 dX5_init_5 rfl ?_
  refine gt_dup hc dX5_init_8 rfl ?_
  refine nt_call1 (n := 0) (b := a + 1) (tl' := [.inr (6, [.ref (a + 2), .ref (a + 3), .int 0]), .inl (gdA g 1, 1024, .inl (fun _ => 0)), .inl (gdA g 0, 1024, .inl (fun _ => 0))]) hc (C_X6) (⟨cwX6_init, gw1 5 (by decide +kernel) rfl, gw1 108 (by decide +kernel) rfl, by decide, rfl, rfl, ⟨by decide, by decide, by decide +kernel⟩, Or.inr ⟨"PegCourt", tb_in 107 (by decide +kernel)⟩⟩) ⟨by rw [hr.1]; decide, by rw [hr.2]; decide⟩ (by decide) rfl rfl rfl rfl (Nat.le_of_ble_eq_true rfl) dX5_init_9 ?_
  refine nt_putF0 (j := 1) (fs' := [.null, .ref (a + 1), .null, .null, .null, .null, .null, .null, .int 0, .int 0, .int 0, .int 0, .int 0, .int 0, .int 0, .int 0, .int 0]) hc hI rfl inG5 tyX5 tyX5_ok nmX5 (by decide) (gw1 127 (by decide +kernel) rfl) rfl rfl rfl rfl rfl rfl (Nat.le_of_ble_eq_true rfl) dX5_init_12 ?_
  refine gt_aload_n hc dX5_init_15 rfl rfl ?_
  refine gt_bipush (v := 50) hc dX5_init_16 (by decide) ?_
  refine nt_newa1 (b := a + 4) (t := 0) (N := 50) (a0 := (50, .inl (fun _ => 0))) (tl' := [.inr (6, [.ref (a + 2), .ref (a + 3), .int 0]), .inl (gdA g 1, 1024, .inl (fun _ => 0)), .inl (gdA g 0, 1024, .inl (fun _ => 0)), .inl (gdA g 0, 50, .inl (fun _ => 0))]) hc ⟨by rw [hr.1]; decide, by rw [hr.2]; decide⟩ ac0 (fun _ => rfl) (fun _ _ h => h) (fun _ => rfl) (by decide) (by decide) (by decide) dX5_init_18 rfl rfl ?_
  refine nt_putF0 (j := 2) (fs' := [.null, .ref (a + 1), .ref (a + 4), .null, .null, .null, .null, .null, .int 0, .int 0, .int 0, .int 0, .int 0, .int 0, .int 0, .int 0, .int 0]) hc hI rfl inG5 tyX5 tyX5_ok nmX5 (by decide) (gw1 128 (by decide +kernel) rfl) rfl rfl rfl rfl rfl rfl (Nat.le_of_ble_eq_true rfl) dX5_init_20 ?_
  refine gt_aload_n hc dX5_init_23 rfl rfl ?_
  refine gt_bipush (v := 10) hc dX5_init_24 (by decide) ?_
  refine nt_newa1 (b := a + 5) (t := 0) (N := 10) (a0 := (10, .inl (fun _ => 0))) (tl' := [.inr (6, [.ref (a + 2), .ref (a + 3), .int 0]), .inl (gdA g 1, 1024, .inl (fun _ => 0)), .inl (gdA g 0, 1024, .inl (fun _ => 0)), .inl (gdA g 0, 50, .inl (fun _ => 0)), .inl (gdA g 0, 10, .inl (fun _ => 0))]) hc ⟨by rw [hr.1]; decide, by rw [hr.2]; decide⟩ ac0 (fun _ => rfl) (fun _ _ h => h) (fun _ => rfl) (by decide) (by decide) (by decide) dX5_init_26 rfl rfl ?_
  refine nt_putF0 (j := 3) (fs' := [.null, .ref (a + 1), .ref (a + 4), .ref (a + 5), .null, .null, .null, .null, .int 0, .int 0, .int 0, .int 0, .int 0, .int 0, .int 0, .int 0, .int 0]) hc hI rfl inG5 tyX5 tyX5_ok nmX5 (by decide) (gw1 130 (by decide +kernel) rfl) rfl rfl rfl rfl rfl rfl (Nat.le_of_ble_eq_true rfl) dX5_init_28 ?_
  refine gt_aload_n hc dX5_init_31 rfl rfl ?_
  refine gt_sipush (v := 4096) hc dX5_init_32 (by decide) ?_
  refine nt_newa1 (b := a + 6) (t := 1) (N := 4096) (a0 := (4096, .inl (fun _ => 0))) (tl' := [.inr (6, [.ref (a + 2), .ref (a + 3), .int 0]), .inl (gdA g 1, 1024, .inl (fun _ => 0)), .inl (gdA g 0, 1024, .inl (fun _ => 0)), .inl (gdA g 0, 50, .inl (fun _ => 0)), .inl (gdA g 0, 10, .inl (fun _ => 0)), .inl (gdA g 1, 4096, .inl (fun _ => 0))]) hc ⟨by rw [hr.1]; decide, by rw [hr.2]; decide⟩ ac1 (fun _ => rfl) (fun _ _ h => h) (fun _ => rfl) (by decide) (by decide) (by decide) dX5_init_35 rfl rfl ?_
  refine nt_putF0 (j := 4) (fs' := [.null, .ref (a + 1), .ref (a + 4), .ref (a + 5), .ref (a + 6), .null, .null, .null, .int 0, .int 0, .int 0, .int 0, .int 0, .int 0, .int 0, .int 0, .int 0]) hc hI rfl inG5 tyX5 tyX5_ok nmX5 (by decide) (gw1 132 (by decide +kernel) rfl) rfl rfl rfl rfl rfl rfl (Nat.le_of_ble_eq_true rfl) dX5_init_37 ?_
  refine gt_aload_n hc dX5_init_40 rfl rfl ?_
  refine gt_sipush (v := 4096) hc dX5_init_41 (by decide) ?_
  refine nt_newa1 (b := a + 7) (t := 1) (N := 4096) (a0 := (4096, .inl (fun _ => 0))) (tl' := [.inr (6, [.ref (a + 2), .ref (a + 3), .int 0]), .inl (gdA g 1, 1024, .inl (fun _ => 0)), .inl (gdA g 0, 1024, .inl (fun _ => 0)), .inl (gdA g 0, 50, .inl (fun _ => 0)), .inl (gdA g 0, 10, .inl (fun _ => 0)), .inl (gdA g 1, 4096, .inl (fun _ => 0)), .inl (gdA g 1, 4096, .inl (fun _ => 0))]) hc ⟨by rw [hr.1]; decide, by rw [hr.2]; decide⟩ ac1 (fun _ => rfl) (fun _ _ h => h) (fun _ => rfl) (by decide) (by decide) (by decide) dX5_init_44 rfl rfl ?_
  refine nt_putF0 (j := 5) (fs' := [.null, .ref (a + 1), .ref (a + 4), .ref (a + 5), .ref (a + 6), .ref (a + 7), .null, .null, .int 0, .int 0, .int 0, .int 0, .int 0, .int 0, .int 0, .int 0, .int 0]) hc hI rfl inG5 tyX5 tyX5_ok nmX5 (by decide) (gw1 134 (by decide +kernel) rfl) rfl rfl rfl rfl rfl rfl (Nat.le_of_ble_eq_true rfl) dX5_init_46 ?_
  refine gt_aload_n hc dX5_init_49 rfl rfl ?_
  refine gt_sipush (v := 4096) hc dX5_init_50 (by decide) ?_
  refine nt_newa1 (b := a + 8) (t := 0) (N := 4096) (a0 := (4096, .inl (fun _ => 0))) (tl' := [.inr (6, [.ref (a + 2), .ref (a + 3), .int 0]), .inl (gdA g 1, 1024, .inl (fun _ => 0)), .inl (gdA g 0, 1024, .inl (fun _ => 0)), .inl (gdA g 0, 50, .inl (fun _ => 0)), .inl (gdA g 0, 10, .inl (fun _ => 0)), .inl (gdA g 1, 4096, .inl (fun _ => 0)), .inl (gdA g 1, 4096, .inl (fun _ => 0)), .inl (gdA g 0, 4096, .inl (fun _ => 0))]) hc ⟨by rw [hr.1]; decide, by rw [hr.2]; decide⟩ ac0 (fun _ => rfl) (fun _ _ h => h) (fun _ => rfl) (by decide) (by decide) (by decide) dX5_init_53 rfl rfl ?_
  refine nt_putF0 (j := 6) (fs' := [.null, .ref (a + 1), .ref (a + 4), .ref (a + 5), .ref (a + 6), .ref (a + 7), .ref (a + 8), .null, .int 0, .int 0, .int 0, .int 0, .int 0, .int 0, .int 0, .int 0, .int 0]) hc hI rfl inG5 tyX5 tyX5_ok nmX5 (by decide) (gw1 136 (by decide +kernel) rfl) rfl rfl rfl rfl rfl rfl (Nat.le_of_ble_eq_true rfl) dX5_init_55 ?_
  refine gt_aload_n hc dX5_init_58 rfl rfl ?_
  refine gt_sipush (v := 4096) hc dX5_init_59 (by decide) ?_
  refine nt_newa1 (b := a + 9) (t := 0) (N := 4096) (a0 := (4096, .inl (fun _ => 0))) (tl' := [.inr (6, [.ref (a + 2), .ref (a + 3), .int 0]), .inl (gdA g 1, 1024, .inl (fun _ => 0)), .inl (gdA g 0, 1024, .inl (fun _ => 0)), .inl (gdA g 0, 50, .inl (fun _ => 0)), .inl (gdA g 0, 10, .inl (fun _ => 0)), .inl (gdA g 1, 4096, .inl (fun _ => 0)), .inl (gdA g 1, 4096, .inl (fun _ => 0)), .inl (gdA g 0, 4096, .inl (fun _ => 0)), .inl (gdA g 0, 4096, .inl (fun _ => 0))]) hc ⟨by rw [hr.1]; decide, by rw [hr.2]; decide⟩ ac0 (fun _ => rfl) (fun _ _ h => h) (fun _ => rfl) (by decide) (by decide) (by decide) dX5_init_62 rfl rfl ?_
  refine nt_putF0 (j := 7) (fs' := [.null, .ref (a + 1), .ref (a + 4), .ref (a + 5), .ref (a + 6), .ref (a + 7), .ref (a + 8), .ref (a + 9), .int 0, .int 0, .int 0, .int 0, .int 0, .int 0, .int 0, .int 0, .int 0]) hc hI rfl inG5 tyX5 tyX5_ok nmX5 (by decide) (gw1 139 (by decide +kernel) rfl) rfl rfl rfl rfl rfl rfl (Nat.le_of_ble_eq_true rfl) dX5_init_64 ?_
  refine gt_aload_n hc dX5_init_67 rfl rfl ?_
  refine gt_aload_n hc dX5_init_68 rfl rfl ?_
  refine nt_putF0 (j := 0) (fs' := [.ref q, .ref (a + 1), .ref (a + 4), .ref (a + 5), .ref (a + 6), .ref (a + 7), .ref (a + 8), .ref (a + 9), .int 0, .int 0, .int 0, .int 0, .int 0, .int 0, .int 0, .int 0, .int 0]) hc hI rfl inG5 tyX5 tyX5_ok nmX5 (by decide) (gw1 122 (by decide +kernel) rfl) rfl rfl rfl rfl rfl rfl (Nat.le_of_ble_eq_true rfl) dX5_init_69 ?_
  exact nt_ret hc dX5_init_72 rfl rfl rfl rfl
