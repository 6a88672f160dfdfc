/-! ===== bits: Integer.bitCount, and words of 32 bits as numbers ===== -/
def pc32 (x : Nat) : Nat := cnt 32 (fun k => x.testBit k)
theorem nI_sub {a b : Nat} (h : b ≤ a) : nI a - nI b = nI (a - b) := by
  have e : nI a = nI (a - b) + nI b := by rw [nI_add, Nat.sub_add_cancel h]
  rw [e, Int32.add_sub_cancel]
theorem nI_any (x : Int32) : ∃ X, X < 2 ^ 32 ∧ x = nI X := by
  refine ⟨x.toBitVec.toNat, x.toBitVec.isLt, ?_⟩
  apply Int32.toBitVec_inj.mp
  show x.toBitVec = BitVec.ofNat 32 x.toBitVec.toNat
  rw [BitVec.ofNat_toNat, BitVec.setWidth_eq]
theorem cnt_add (a b : Nat) (p : Nat → Bool) : cnt (a + b) p = cnt a p + cnt b (fun k => p (a + k)) := by
  induction b with
  | zero => rfl
  | succ b ih => rw [← Nat.add_assoc]; show cnt (a + b) p + (if p (a + b) then 1 else 0) = cnt a p + (cnt b (fun k => p (a + k)) + (if p (a + b) then 1 else 0)); rw [ih, Nat.add_assoc]
theorem tb_lane {a : Nat} (b i : Nat) (ha : a < 256) : (a + 256 * b).testBit i = if i < 8 then a.testBit i else b.testBit (i - 8) := by
  have e : a + 256 * b = 2 ^ 8 * b + a := by omega
  rw [e, Nat.testBit_two_pow_mul_add b (by omega : a < 2 ^ 8) i]
theorem ln_and {a m : Nat} (b M k : Nat) (ha : a < 256) (hk : k ≤ 8) (hm : m < 2 ^ (8 - k)) (hm8 : m < 256) : ((a + 256 * b) / 2 ^ k) &&& (m + 256 * M) = ((a / 2 ^ k) &&& m) + 256 * ((b / 2 ^ k) &&& M) := by
  apply Nat.eq_of_testBit_eq
  intro i
  have h1 : ((a / 2 ^ k) &&& m) < 256 := Nat.lt_of_le_of_lt Nat.and_le_right hm8
  rw [Nat.testBit_and, tb_lane M i hm8, tb_lane _ i h1, Nat.testBit_div_two_pow, tb_lane b _ ha]
  by_cases hi : i < 8
  · rw [if_pos hi, if_pos hi, Nat.testBit_and, Nat.testBit_div_two_pow]
    by_cases hi2 : i + k < 8
    · rw [if_pos hi2]
    · have hz : m.testBit i = false := Nat.testBit_lt_two_pow (Nat.lt_of_lt_of_le hm (Nat.pow_le_pow_right (by decide) (by omega)))
      rw [hz, Bool.and_false, Bool.and_false]
  · rw [if_neg hi, if_neg hi, if_neg (by omega), Nat.testBit_and, Nat.testBit_div_two_pow, show i + k - 8 = i - 8 + k by omega]
theorem bc_byte : ∀ b, b < 256 → (b / 2 &&& 85) ≤ b ∧ ((b - (b / 2 &&& 85)) &&& 51) + ((b - (b / 2 &&& 85)) / 4 &&& 51) < 69 ∧ (((b - (b / 2 &&& 85)) &&& 51) + ((b - (b / 2 &&& 85)) / 4 &&& 51)) % 16 ≤ 4 ∧ ((((b - (b / 2 &&& 85)) &&& 51) + ((b - (b / 2 &&& 85)) / 4 &&& 51)) + (((b - (b / 2 &&& 85)) &&& 51) + ((b - (b / 2 &&& 85)) / 4 &&& 51)) / 16) % 16 = cnt 8 (fun k => b.testBit k) := by decide +kernel
theorem ln_4 {x : Nat} (h : x < 2 ^ 32) : ∃ a b c d, a < 256 ∧ b < 256 ∧ c < 256 ∧ d < 256 ∧ x = a + 256 * (b + 256 * (c + 256 * d)) := ⟨x % 256, x / 256 % 256, x / 65536 % 256, x / 16777216, by omega, by omega, by omega, by omega, by omega⟩
theorem ln_pc {a b c d : Nat} (ha : a < 256) (hb : b < 256) (hc : c < 256) (hd : d < 256) : pc32 (a + 256 * (b + 256 * (c + 256 * d))) = cnt 8 (fun k => a.testBit k) + cnt 8 (fun k => b.testBit k) + cnt 8 (fun k => c.testBit k) + cnt 8 (fun k => d.testBit k) := by
  unfold pc32
  rw [show (32 : Nat) = 8 + (8 + (8 + 8)) from rfl, cnt_add, cnt_add, cnt_add]
  have e1 : cnt 8 (fun k => (a + 256 * (b + 256 * (c + 256 * d))).testBit k) = cnt 8 (fun k => a.testBit k) := cnt_congr (fun i hi => by rw [tb_lane _ i ha, if_pos hi])
  have s1 : ∀ k, (a + 256 * (b + 256 * (c + 256 * d))).testBit (8 + k) = (b + 256 * (c + 256 * d)).testBit k := fun k => by rw [tb_lane _ _ ha, if_neg (by omega), Nat.add_sub_cancel_left]
  have s2 : ∀ k, (b + 256 * (c + 256 * d)).testBit (8 + k) = (c + 256 * d).testBit k := fun k => by rw [tb_lane _ _ hb, if_neg (by omega), Nat.add_sub_cancel_left]
  have s3 : ∀ k, (c + 256 * d).testBit (8 + k) = d.testBit k := fun k => by rw [tb_lane _ _ hc, if_neg (by omega), Nat.add_sub_cancel_left]
  have e2 : cnt 8 (fun k => (a + 256 * (b + 256 * (c + 256 * d))).testBit (8 + k)) = cnt 8 (fun k => b.testBit k) := cnt_congr (fun i hi => by rw [s1, tb_lane _ i hb, if_pos hi])
  have e3 : cnt 8 (fun k => (a + 256 * (b + 256 * (c + 256 * d))).testBit (8 + (8 + k))) = cnt 8 (fun k => c.testBit k) := cnt_congr (fun i hi => by rw [s1, s2, tb_lane _ i hc, if_pos hi])
  have e4 : cnt 8 (fun k => (a + 256 * (b + 256 * (c + 256 * d))).testBit (8 + (8 + (8 + k)))) = cnt 8 (fun k => d.testBit k) := cnt_congr (fun i hi => by rw [s1, s2, s3])
  rw [e1, e2, e3, e4]
  omega
def bc1 (x : Nat) : Nat := x - (x / 2 &&& 1431655765)
def bc2 (x : Nat) : Nat := (x &&& 858993459) + (x / 4 &&& 858993459)
def bc3 (x : Nat) : Nat := (x + x / 16) &&& 252645135
def bc4 (x : Nat) : Nat := x + x / 256
def bc5 (x : Nat) : Nat := x + x / 65536
theorem ln_and4 {a b c d : Nat} (m k : Nat) (ha : a < 256) (hb : b < 256) (hc : c < 256) (hk : k ≤ 8) (hm : m < 2 ^ (8 - k)) (hm8 : m < 256) : ((a + 256 * (b + 256 * (c + 256 * d))) / 2 ^ k &&& (m + 256 * (m + 256 * (m + 256 * m)))) = (a / 2 ^ k &&& m) + 256 * ((b / 2 ^ k &&& m) + 256 * ((c / 2 ^ k &&& m) + 256 * (d / 2 ^ k &&& m))) := by
  rw [ln_and _ _ k ha hk hm hm8, ln_and _ _ k hb hk hm hm8, ln_and _ _ k hc hk hm hm8]
theorem bcA {a b c d a1 b1 c1 d1 : Nat} (ha : a1 ≤ a) (hb : b1 ≤ b) (hc : c1 ≤ c) (hd : d1 ≤ d) : a1 + 256 * (b1 + 256 * (c1 + 256 * d1)) ≤ a + 256 * (b + 256 * (c + 256 * d)) ∧ a + 256 * (b + 256 * (c + 256 * d)) - (a1 + 256 * (b1 + 256 * (c1 + 256 * d1))) = (a - a1) + 256 * ((b - b1) + 256 * ((c - c1) + 256 * (d - d1))) := by omega
theorem bcB {a b c d a1 b1 c1 d1 : Nat} : a + 256 * (b + 256 * (c + 256 * d)) + (a1 + 256 * (b1 + 256 * (c1 + 256 * d1))) = (a + a1) + 256 * ((b + b1) + 256 * ((c + c1) + 256 * (d + d1))) := by omega
theorem bcC {a3 b3 c3 d3 : Nat} : a3 + 256 * (b3 + 256 * (c3 + 256 * d3)) + (a3 + 256 * (b3 + 256 * (c3 + 256 * d3))) / 16 = (a3 + a3 / 16 + 16 * (b3 % 16)) + 256 * ((b3 + b3 / 16 + 16 * (c3 % 16)) + 256 * ((c3 + c3 / 16 + 16 * (d3 % 16)) + 256 * (d3 + d3 / 16))) := by omega
theorem bcD {a b : Nat} (h : a < 69) (hb : b % 16 ≤ 4) : a + a / 16 + 16 * (b % 16) < 256 := by omega
theorem bcE {a b : Nat} : (a + a / 16 + 16 * (b % 16)) % 16 = (a + a / 16) % 16 := by omega
theorem bcF0 : ∀ a, a < 69 → a % 16 ≤ 4 → (a + a / 16) % 16 ≤ 8 := by decide +kernel
theorem bcF {a : Nat} (h : a < 69) (hb : a % 16 ≤ 4) : (a + a / 16) % 16 ≤ 8 := bcF0 a h hb
theorem bcG {a b c d : Nat} (ha : a ≤ 8) (hb : b ≤ 8) (hc : c ≤ 8) (hd : d ≤ 8) : bc5 (bc4 (a + 256 * (b + 256 * (c + 256 * d)))) % 64 = a + b + c + d := by
  have e4 : bc4 (a + 256 * (b + 256 * (c + 256 * d))) = (a + b) + 256 * ((b + c) + 256 * ((c + d) + 256 * d)) := by unfold bc4; omega
  rw [e4]
  have e5 : bc5 ((a + b) + 256 * ((b + c) + 256 * ((c + d) + 256 * d))) = (a + b + (c + d)) + 256 * ((b + c + d) + 256 * ((c + d) + 256 * d)) := by unfold bc5; omega
  rw [e5]
  omega
theorem bcH {a b c d n : Nat} (ha : a < n) (hb : b < n) (hc : c < n) (hd : d < n) (hn : n ≤ 256) : a + 256 * (b + 256 * (c + 256 * d)) < 2 ^ 24 * n := by omega
theorem bc_all {x : Nat} (h : x < 2 ^ 32) : (x / 2 &&& 1431655765) ≤ x ∧ bc1 x < 2 ^ 32 ∧ bc2 (bc1 x) < 2 ^ 31 ∧ bc3 (bc2 (bc1 x)) < 2 ^ 30 ∧ bc4 (bc3 (bc2 (bc1 x))) < 2 ^ 31 ∧ bc5 (bc4 (bc3 (bc2 (bc1 x)))) % 64 = pc32 x := by
  obtain ⟨a, b, c, d, ha, hb, hc, hd, rfl⟩ := ln_4 h
  have A := bc_byte a ha
  have B := bc_byte b hb
  have C := bc_byte c hc
  have D := bc_byte d hd
  rw [ln_pc ha hb hc hd, ← A.2.2.2, ← B.2.2.2, ← C.2.2.2, ← D.2.2.2]
  have q1 : ((a + 256 * (b + 256 * (c + 256 * d))) / 2 &&& 1431655765) = (a / 2 &&& 85) + 256 * ((b / 2 &&& 85) + 256 * ((c / 2 &&& 85) + 256 * (d / 2 &&& 85))) := ln_and4 85 1 ha hb hc (by decide) (by decide) (by decide)
  obtain ⟨hle, f1'⟩ := bcA A.1 B.1 C.1 D.1
  have f1 : bc1 (a + 256 * (b + 256 * (c + 256 * d))) = (a - (a / 2 &&& 85)) + 256 * ((b - (b / 2 &&& 85)) + 256 * ((c - (c / 2 &&& 85)) + 256 * (d - (d / 2 &&& 85)))) := by
    unfold bc1
    rw [q1]
    exact f1'
  rw [f1, q1]
  have ha2 : a - (a / 2 &&& 85) < 256 := Nat.lt_of_le_of_lt (Nat.sub_le _ _) ha
  have hb2 : b - (b / 2 &&& 85) < 256 := Nat.lt_of_le_of_lt (Nat.sub_le _ _) hb
  have hc2 : c - (c / 2 &&& 85) < 256 := Nat.lt_of_le_of_lt (Nat.sub_le _ _) hc
  have hd2 : d - (d / 2 &&& 85) < 256 := Nat.lt_of_le_of_lt (Nat.sub_le _ _) hd
  refine ⟨hle, bcH ha2 hb2 hc2 hd2 (Nat.le_refl _), ?_⟩
  clear hle f1 f1' q1
  generalize a - (a / 2 &&& 85) = a2 at *
  generalize b - (b / 2 &&& 85) = b2 at *
  generalize c - (c / 2 &&& 85) = c2 at *
  generalize d - (d / 2 &&& 85) = d2 at *
  obtain ⟨-, A1, A2, -⟩ := A
  obtain ⟨-, B1, B2, -⟩ := B
  obtain ⟨-, C1, C2, -⟩ := C
  obtain ⟨-, D1, D2, -⟩ := D
  have f2 : bc2 (a2 + 256 * (b2 + 256 * (c2 + 256 * d2))) = ((a2 &&& 51) + (a2 / 4 &&& 51)) + 256 * (((b2 &&& 51) + (b2 / 4 &&& 51)) + 256 * (((c2 &&& 51) + (c2 / 4 &&& 51)) + 256 * ((d2 &&& 51) + (d2 / 4 &&& 51)))) := by
    unfold bc2
    have k0 : (a2 + 256 * (b2 + 256 * (c2 + 256 * d2)) &&& 858993459) = (a2 &&& 51) + 256 * ((b2 &&& 51) + 256 * ((c2 &&& 51) + 256 * (d2 &&& 51))) := by
      have := ln_and4 (d := d2) 51 0 ha2 hb2 hc2 (by decide) (by decide) (by decide)
      simp only [Nat.pow_zero, Nat.div_one] at this
      exact this
    have k2 : ((a2 + 256 * (b2 + 256 * (c2 + 256 * d2))) / 4 &&& 858993459) = (a2 / 4 &&& 51) + 256 * ((b2 / 4 &&& 51) + 256 * ((c2 / 4 &&& 51) + 256 * (d2 / 4 &&& 51))) := ln_and4 51 2 ha2 hb2 hc2 (by decide) (by decide) (by decide)
    rw [k0, k2]
    exact bcB
  rw [f2]
  clear f2
  generalize (a2 &&& 51) + (a2 / 4 &&& 51) = a3 at *
  generalize (b2 &&& 51) + (b2 / 4 &&& 51) = b3 at *
  generalize (c2 &&& 51) + (c2 / 4 &&& 51) = c3 at *
  generalize (d2 &&& 51) + (d2 / 4 &&& 51) = d3 at *
  refine ⟨Nat.lt_of_lt_of_le (bcH A1 B1 C1 D1 (by decide)) (by decide), ?_⟩
  have f3 : bc3 (a3 + 256 * (b3 + 256 * (c3 + 256 * d3))) = (a3 + a3 / 16) % 16 + 256 * ((b3 + b3 / 16) % 16 + 256 * ((c3 + c3 / 16) % 16 + 256 * ((d3 + d3 / 16) % 16))) := by
    unfold bc3
    rw [bcC]
    have := ln_and4 (d := d3 + d3 / 16) 15 0 (bcD A1 B2) (bcD B1 C2) (bcD C1 D2) (by decide) (by decide) (by decide)
    simp only [Nat.pow_zero, Nat.div_one] at this
    rw [show (252645135 : Nat) = 15 + 256 * (15 + 256 * (15 + 256 * 15)) from rfl, this]
    have m15 : ∀ y, y &&& 15 = y % 16 := fun y => Nat.and_two_pow_sub_one_eq_mod y 4
    rw [m15, m15, m15, m15, bcE, bcE, bcE]
  rw [f3]
  have a4 := bcF A1 A2
  have b4 := bcF B1 B2
  have c4 := bcF C1 C2
  have d4 := bcF D1 D2
  clear f3
  generalize (a3 + a3 / 16) % 16 = a5 at *
  generalize (b3 + b3 / 16) % 16 = b5 at *
  generalize (c3 + c3 / 16) % 16 = c5 at *
  generalize (d3 + d3 / 16) % 16 = d5 at *
  clear A1 A2 B1 B2 C1 C2 D1 D2 ha2 hb2 hc2 hd2
  have l9 := bcH (n := 9) (by omega : a5 < 9) (by omega : b5 < 9) (by omega : c5 < 9) (by omega : d5 < 9) (by decide)
  refine ⟨Nat.lt_of_lt_of_le l9 (by decide), ?_, bcG a4 b4 c4 d4⟩
  unfold bc4
  omega
theorem us_l : ∀ n, n < 32 → (((nI n).toUInt32 &&& Int32.toUInt32 31).toBitVec % 32).toNat = n := by decide +kernel
theorem nI_ushr {a k : Nat} (ha : a < 2 ^ 32) (hk : k < 32) : ((nI a).toUInt32 >>> ((nI k).toUInt32 &&& Int32.toUInt32 31)).toInt32 = nI (a / 2 ^ k) := pk_ushrN ha _ k (us_l k hk)
theorem CJ_bitCount (Y : List Sh) (d : Nat) (σ : St) (x : Nat) (hx : x < 2 ^ 32) : Mt Y mJ6_bitCount_0f7a4 d [.int (nI x)] σ (fun r τ => r = some (.int (nI (pc32 x))) ∧ τ = σ) := by
  refine Mt.ofA [some (.int (nI x))] (by decide) (fun _ => Nat.le_of_ble_eq_true rfl) (fun _ => rfl) (fun g hc => ?_)
  obtain ⟨h1, h2, h3, h5, h6, h7⟩ := bc_all hx
  have e1 : ((nI x).toUInt32 >>> (Int32.toUInt32 1 &&& Int32.toUInt32 31)).toInt32 = nI (x / 2) := nI_ushr (k := 1) hx (by decide)
  have e2 : ((nI (bc1 x)).toUInt32 >>> (Int32.toUInt32 2 &&& Int32.toUInt32 31)).toInt32 = nI (bc1 x / 4) := nI_ushr (k := 2) h2 (by decide)
  have e3 : ((nI (bc2 (bc1 x))).toUInt32 >>> (Int32.toUInt32 4 &&& Int32.toUInt32 31)).toInt32 = nI (bc2 (bc1 x) / 16) := nI_ushr (k := 4) (by omega) (by decide)
  have e4 : ((nI (bc3 (bc2 (bc1 x)))).toUInt32 >>> (Int32.toUInt32 8 &&& Int32.toUInt32 31)).toInt32 = nI (bc3 (bc2 (bc1 x)) / 256) := nI_ushr (k := 8) (by omega) (by decide)
  have e5 : ((nI (bc4 (bc3 (bc2 (bc1 x))))).toUInt32 >>> (Int32.toUInt32 16 &&& Int32.toUInt32 31)).toInt32 = nI (bc4 (bc3 (bc2 (bc1 x))) / 65536) := nI_ushr (k := 16) (by omega) (by decide)
  have w1 : (1431655765 : Int32) = nI 1431655765 := rfl
  have w2 : (858993459 : Int32) = nI 858993459 := rfl
  have w3 : (252645135 : Int32) = nI 252645135 := rfl
  have w4 : (63 : Int32) = nI 63 := rfl
  refine st_iload_n hc dJ6_bitCount_0f7a4_0 rfl rfl ?_
  refine st_iload_n hc dJ6_bitCount_0f7a4_1 rfl rfl ?_
  refine st_iconst (v := 1) hc dJ6_bitCount_0f7a4_2 (by decide) ?_
  refine st_iushr hc dJ6_bitCount_0f7a4_3 ?_
  refine st_ldcw hc dJ6_bitCount_0f7a4_4 kcJ6_265 ?_
  refine st_iand hc dJ6_bitCount_0f7a4_7 ?_
  refine st_isub hc dJ6_bitCount_0f7a4_8 ?_
  rw [e1, w1, nI_and, nI_sub h1]
  show aW g Y 1 _ _ _ (.int (nI (bc1 x)) :: []) σ
  refine st_istore_n hc dJ6_bitCount_0f7a4_9 rfl (by decide) rfl ?_
  refine st_iload_n hc dJ6_bitCount_0f7a4_10 rfl rfl ?_
  refine st_ldcw hc dJ6_bitCount_0f7a4_11 kcJ6_266 ?_
  refine st_iand hc dJ6_bitCount_0f7a4_14 ?_
  refine st_iload_n hc dJ6_bitCount_0f7a4_15 rfl rfl ?_
  refine st_iconst (v := 2) hc dJ6_bitCount_0f7a4_16 (by decide) ?_
  refine st_iushr hc dJ6_bitCount_0f7a4_17 ?_
  refine st_ldcw hc dJ6_bitCount_0f7a4_18 kcJ6_266 ?_
  refine st_iand hc dJ6_bitCount_0f7a4_21 ?_
  refine st_iadd hc dJ6_bitCount_0f7a4_22 ?_
  rw [w2, nI_and, e2, nI_and, nI_add]
  show aW g Y 1 _ _ _ (.int (nI (bc2 (bc1 x))) :: []) σ
  refine st_istore_n hc dJ6_bitCount_0f7a4_23 rfl (by decide) rfl ?_
  refine st_iload_n hc dJ6_bitCount_0f7a4_24 rfl rfl ?_
  refine st_iload_n hc dJ6_bitCount_0f7a4_25 rfl rfl ?_
  refine st_iconst (v := 4) hc dJ6_bitCount_0f7a4_26 (by decide) ?_
  refine st_iushr hc dJ6_bitCount_0f7a4_27 ?_
  refine st_iadd hc dJ6_bitCount_0f7a4_28 ?_
  refine st_ldcw hc dJ6_bitCount_0f7a4_29 kcJ6_267 ?_
  refine st_iand hc dJ6_bitCount_0f7a4_32 ?_
  rw [e3, nI_add, w3, nI_and]
  show aW g Y 1 _ _ _ (.int (nI (bc3 (bc2 (bc1 x)))) :: []) σ
  refine st_istore_n hc dJ6_bitCount_0f7a4_33 rfl (by decide) rfl ?_
  refine st_iload_n hc dJ6_bitCount_0f7a4_34 rfl rfl ?_
  refine st_iload_n hc dJ6_bitCount_0f7a4_35 rfl rfl ?_
  refine st_bipush (v := 8) hc dJ6_bitCount_0f7a4_36 (by decide) ?_
  refine st_iushr hc dJ6_bitCount_0f7a4_38 ?_
  refine st_iadd hc dJ6_bitCount_0f7a4_39 ?_
  rw [e4, nI_add]
  show aW g Y 1 _ _ _ (.int (nI (bc4 (bc3 (bc2 (bc1 x))))) :: []) σ
  refine st_istore_n hc dJ6_bitCount_0f7a4_40 rfl (by decide) rfl ?_
  refine st_iload_n hc dJ6_bitCount_0f7a4_41 rfl rfl ?_
  refine st_iload_n hc dJ6_bitCount_0f7a4_42 rfl rfl ?_
  refine st_bipush (v := 16) hc dJ6_bitCount_0f7a4_43 (by decide) ?_
  refine st_iushr hc dJ6_bitCount_0f7a4_45 ?_
  refine st_iadd hc dJ6_bitCount_0f7a4_46 ?_
  rw [e5, nI_add]
  show aW g Y 1 _ _ _ (.int (nI (bc5 (bc4 (bc3 (bc2 (bc1 x)))))) :: []) σ
  refine st_istore_n hc dJ6_bitCount_0f7a4_47 rfl (by decide) rfl ?_
  refine st_iload_n hc dJ6_bitCount_0f7a4_48 rfl rfl ?_
  refine st_bipush (v := 63) hc dJ6_bitCount_0f7a4_49 (by decide) ?_
  refine st_iand hc dJ6_bitCount_0f7a4_51 ?_
  rw [w4, nI_and, show (63 : Nat) = 2 ^ 6 - 1 from rfl, Nat.and_two_pow_sub_one_eq_mod, show (2 : Nat) ^ 6 = 64 from rfl, h7]
  refine st_iret (st := []) hc dJ6_bitCount_0f7a4_52 rfl ?_
  exact ⟨rfl, rfl⟩

