/-! ===== the class: a forest is made to stand for what is left ===== -/
def ext (lb : Nat → Nat) (i x : Nat) : Nat → Nat := fun k => if k = i then x else lb k
theorem ext_s {lb : Nat → Nat} {i x : Nat} : ext lb i x i = x := if_pos rfl
theorem ext_n {lb : Nat → Nat} {i x k : Nat} (h : ¬ k = i) : ext lb i x k = lb k := if_neg h
theorem Lab_fu {A : Nat → Nat} {fu i M : Nat} {lb : Nat → Nat} (h : Lab A fu i M lb) (ha : A i = fu) : Lab A fu (i + 1) M (ext lb i 15) := by
  obtain ⟨l1, l2, l3, l4, l5⟩ := h
  refine ⟨by omega, fun k hk e => ?_, fun k hk e => ?_, fun j k hj hk e1 e2 => ?_, fun m hm => ?_⟩
  · by_cases q : k = i
    · rw [q, ext_s]
    · rw [ext_n q]; exact l2 k (by omega) e
  · have q : ¬ k = i := fun z => e (by rw [z]; exact ha)
    rw [ext_n q]; exact l3 k (by omega) e
  · have q1 : ¬ j = i := fun z => e1 (by rw [z]; exact ha)
    have q2 : ¬ k = i := fun z => e2 (by rw [z]; exact ha)
    rw [ext_n q1, ext_n q2]; exact l4 j k (by omega) (by omega) e1 e2
  · obtain ⟨k, k1, k2, k3⟩ := l5 m hm
    exact ⟨k, by omega, k2, by rw [ext_n (by omega)]; exact k3⟩
theorem Lab_old {A : Nat → Nat} {fu i M k0 : Nat} {lb : Nat → Nat} (h : Lab A fu i M lb) (ha : ¬ A i = fu) (hk0 : k0 < i) (he : A k0 = A i) : Lab A fu (i + 1) M (ext lb i (lb k0)) := by
  obtain ⟨l1, l2, l3, l4, l5⟩ := h
  have h0 : ¬ A k0 = fu := by rw [he]; exact ha
  refine ⟨by omega, fun k hk e => ?_, fun k hk e => ?_, fun j k hj hk e1 e2 => ?_, fun m hm => ?_⟩
  · have q : ¬ k = i := fun z => ha (by rw [← z]; exact e)
    rw [ext_n q]; exact l2 k (by omega) e
  · by_cases q : k = i
    · rw [q, ext_s]; exact l3 k0 hk0 h0
    · rw [ext_n q]; exact l3 k (by omega) e
  · by_cases q1 : j = i
    · by_cases q2 : k = i
      · rw [q1, q2]; exact ⟨fun _ => rfl, fun _ => rfl⟩
      · rw [q1, ext_s, ext_n q2, ← he]; exact l4 k0 k hk0 (by omega) h0 e2
    · by_cases q2 : k = i
      · rw [q2, ext_s, ext_n q1, ← he]; exact l4 j k0 (by omega) hk0 e1 h0
      · rw [ext_n q1, ext_n q2]; exact l4 j k (by omega) (by omega) e1 e2
  · obtain ⟨k, k1, k2, k3⟩ := l5 m hm
    exact ⟨k, by omega, k2, by rw [ext_n (by omega)]; exact k3⟩
theorem Lab_new {A : Nat → Nat} {fu i M : Nat} {lb : Nat → Nat} (h : Lab A fu i M lb) (ha : ¬ A i = fu) (hn : ∀ k, k < i → ¬ A k = A i) : Lab A fu (i + 1) (M + 1) (ext lb i M) := by
  obtain ⟨l1, l2, l3, l4, l5⟩ := h
  refine ⟨by omega, fun k hk e => ?_, fun k hk e => ?_, fun j k hj hk e1 e2 => ?_, fun m hm => ?_⟩
  · have q : ¬ k = i := fun z => ha (by rw [← z]; exact e)
    rw [ext_n q]; exact l2 k (by omega) e
  · by_cases q : k = i
    · rw [q, ext_s]; omega
    · rw [ext_n q]; have := l3 k (by omega) e; omega
  · by_cases q1 : j = i
    · by_cases q2 : k = i
      · rw [q1, q2]; exact ⟨fun _ => rfl, fun _ => rfl⟩
      · rw [q1, ext_s, ext_n q2]
        have := l3 k (by omega) e2
        exact ⟨fun z => by omega, fun z => absurd z.symm (hn k (by omega))⟩
    · by_cases q2 : k = i
      · rw [q2, ext_s, ext_n q1]
        have := l3 j (by omega) e1
        exact ⟨fun z => by omega, fun z => absurd z (hn j (by omega))⟩
      · rw [ext_n q1, ext_n q2]; exact l4 j k (by omega) (by omega) e1 e2
  · by_cases q : m = M
    · exact ⟨i, by omega, ha, by rw [ext_s]; exact q.symm⟩
    · obtain ⟨k, k1, k2, k3⟩ := l5 m (by omega)
      exact ⟨k, by omega, k2, by rw [ext_n (by omega)]; exact k3⟩
theorem cls_n {lb : Nat → Nat} {i x m : Nat} (h : ¬ x = m) : fbits (i + 1) (fun k => ext lb i x k == m) = fbits i (fun k => lb k == m) := by
  rw [fbits_n (by rw [ext_s]; exact beq_false_of_ne h)]
  exact fbits_congr (fun k hk => by rw [ext_n (by omega)])
theorem cls_y {lb : Nat → Nat} {i m : Nat} : fbits (i + 1) (fun k => ext lb i m k == m) = fbits i (fun k => lb k == m) ||| 2 ^ i := by
  rw [fbits_p (by rw [ext_s]; simp)]
  rw [fbits_congr (q := fun k => lb k == m) (fun k hk => by rw [ext_n (by omega)])]
/-- classify's loop -/
def claI (σ : St) (b n E : Nat) (A : Nat → Nat) (fu i M : Nat) (lb : Nat → Nat) (τ : St) : Prop := Lab A fu i M lb ∧ (∀ a, ¬ (a = b + 5 ∨ a = b + 8) → τ a = σ a) ∧ (∀ x, ¬ (10 * E ≤ x ∧ x < 10 * E + 10) → τ (b + 5) x = σ (b + 5) x) ∧ (∀ m, m < M → τ (b + 5) (10 * E + m) = nI (fbits i (fun k => lb k == m))) ∧ τ (b + 8) fu = nI 15 ∧ (∀ k, k < i → τ (b + 8) (A k) = nI (lb k)) ∧ ∀ a, a < 51 → ¬ a = fu → (∀ k, k < i → ¬ A k = a) → τ (b + 8) a = -1
abbrev clA (σ : St) (b n E : Nat) (A : Nat → Nat) (fu : Nat) (r : Option Value) (τ : St) : Prop := ∃ M lb, Lab A fu n M lb ∧ r = some (.long (lN (shp n lb))) ∧ τ (b + 4) E = nI M ∧ (∀ m, m < M → τ (b + 5) (10 * E + m) = nI (fbits n (fun k => lb k == m))) ∧ (∀ x, ¬ x = E → τ (b + 4) x = σ (b + 4) x) ∧ (∀ x, ¬ (10 * E ≤ x ∧ x < 10 * E + 10) → τ (b + 5) x = σ (b + 5) x) ∧ ∀ a, ¬ (a = b + 4 ∨ a = b + 5 ∨ a = b + 8) → τ a = σ a
theorem C1_classify (d : Nat) (σ : St) {b R SL : Nat} (hY : frY b R SL) {P C n E gg : Nat} {L : Nat → Nat} (hb : bkI σ P C) (hn : σ b 3 = nI n) (h10 : n ≤ 10) (hL : ∀ k, k < n → σ (b + 1) k = nI (L k) ∧ L k < C ^ P) (hE : σ b 6 = nI E) (hER : E < R) (hg : gg < C ^ P) : Mt YC mX1_classify (d + 3) [.ref b, .int (nI gg)] σ (clA σ b n E (fun k => ans P C (cw P C gg) (L k)) (10 * P)) := by
  obtain ⟨y0, y1, y2, y3, y4, y5, y6, y7, y8, y9, yR, -, yb1, yb2⟩ := id hY
  have hP5 := hb.1.1.2.1
  have h50 : ∀ k, ans P C (cw P C gg) (L k) ≤ 50 := fun k => by have := ans_50 hP5 (C := C) (cw P C gg) (L k); omega
  generalize hA : (fun k => ans P C (cw P C gg) (L k)) = A at *
  have hAk : ∀ k, ans P C (cw P C gg) (L k) = A k := fun k => by rw [← hA]
  have h50 : ∀ k, A k < 51 := fun k => by have := h50 k; rw [hAk] at this; omega
  refine Mt.ofA [some (.ref b), some (.int (nI gg)), none, none, none, none, none, none, none] (by decide) (fun _ => Nat.le_of_ble_eq_true rfl) (fun _ => rfl) (fun g hc => ?_)
  have k38 : ∀ x7 x8 τ M lb, claI σ b n E A (10 * P) 0 M lb τ → aW g YC 9 (clA σ b n E A (10 * P)) 38 [some (.ref b), some (.int (nI gg)), some (.int (nI (10 * E))), some (.int (nI M)), some (.long (lN (shp 0 lb))), none, some (.int (nI 0)), x7, x8] [] τ := by
    refine lpN (n := n) (F := fun i => ∀ x7 x8 τ M lb, claI σ b n E A (10 * P) i M lb τ → aW g YC 9 (clA σ b n E A (10 * P)) 38 [some (.ref b), some (.int (nI gg)), some (.int (nI (10 * E))), some (.int (nI M)), some (.long (lN (shp i lb))), none, some (.int (nI i)), x7, x8] [] τ) (fun x7 x8 τ M lb h => ?_) (fun i hi ih x7 x8 τ M lb h => ?_)
    · obtain ⟨c1, c2, c3, c4, c5, c6, c7⟩ := h
      refine st_iload hc dX1_classify_38 rfl ?_
      refine st_aload_n hc dX1_classify_40 rfl rfl ?_
      refine st_getE hc dX1_classify_41 flX1_74 y0 rfl ((by rw [c2 b (by omega)]; exact hn : _ = nI n)) ?_
      refine st_icmp_ge (tgt := 146) hc dX1_classify_44 (by decide) (fun h44 => ?_) (fun h44 => ?_)
      · refine st_aload_n hc dX1_classify_146 rfl rfl ?_
        refine st_getr hc dX1_classify_147 flX1_35 y0 rfl ?_
        refine st_aload_n hc dX1_classify_150 rfl rfl ?_
        refine st_getE hc dX1_classify_151 flX1_92 y0 rfl ((by rw [c2 b (by omega)]; exact hE : _ = nI E)) ?_
        refine st_iload_n hc dX1_classify_154 rfl rfl ?_
        refine st_iastN (k := E) hc dX1_classify_155 y4 (rfl) (by omega) (by first | decide | omega)  ?_
        refine st_lload hc dX1_classify_156 rfl ?_
        refine st_lret (st := []) hc dX1_classify_158 rfl ?_
        refine ⟨M, lb, c1, rfl, by simp [up_eq], fun m hm => ?_, fun x hx => ?_, fun x hx => ?_, fun a ha => ?_⟩
        · rw [up_o (b + 5) (by omega)]; exact c4 m hm
        · rw [up_eq, if_neg (fun q => hx q.2), c2 (b + 4) (by omega)]
        · rw [up_o (b + 5) (by omega)]; exact c3 x hx
        · rw [up_o a (by omega)]; exact c2 a (by omega)
      · exact absurd (nI_le (Nat.le_refl _) (by omega)) h44
    · obtain ⟨c1, c2, c3, c4, c5, c6, c7⟩ := id h
      have hbk : bkI τ P C := hb.eq (c2 1 (by omega)) (c2 2 (by omega)) (c2 3 (by omega)) (c2 4 (by omega))
      obtain ⟨m1, m2⟩ := hL i hi
      have hMi := c1.1
      have hai := h50 i
      have hsl := shp_lt i lb
      have hshp : ∀ x, x < 16 → shp i lb ||| x * 2 ^ (4 * i) = shp (i + 1) (ext lb i x) := fun x hx => by
        have := shp_s (n := i) (lb := ext lb i x) (by omega) (by rw [ext_s]; exact hx)
        rw [ext_s, shp_congr (lc := lb) (fun k hk => ext_n (by omega))] at this
        exact this
      have hx64 : ∀ x, x < 16 → x * 2 ^ (4 * i) < 2 ^ 64 := fun x hx => by
        have : 2 ^ (4 * i) ≤ 2 ^ 36 := Nat.pow_le_pow_right (by decide) (by omega)
        calc x * 2 ^ (4 * i) ≤ 15 * 2 ^ 36 := Nat.mul_le_mul (by omega) this
          _ < 2 ^ 64 := by decide
      by_cases hfu : A i = 10 * P
      · have hnx : ∀ x7 x8, aW g YC 9 (clA σ b n E A (10 * P)) 38 [some (.ref b), some (.int (nI gg)), some (.int (nI (10 * E))), some (.int (nI M)), some (.long (lN (shp i lb ||| 15 * 2 ^ (4 * i)))), none, some (.int (nI (i + 1))), x7, x8] [] τ := fun x7 x8 => by
          rw [hshp 15 (by decide)]
          refine ih x7 x8 τ M _ ⟨Lab_fu c1 hfu, c2, c3, fun m hm => ?_, c5, fun k hk => ?_, fun a ha1 ha2 ha3 => c7 a ha1 ha2 (fun k hk => ha3 k (by omega))⟩
          · rw [cls_n (by omega)]; exact c4 m hm
          · by_cases q : k = i
            · rw [q, ext_s, hfu]; exact c5
            · rw [ext_n q]; exact c6 k (by omega)
        refine st_iload hc dX1_classify_38 rfl ?_
        refine st_aload_n hc dX1_classify_40 rfl rfl ?_
        refine st_getE hc dX1_classify_41 flX1_74 y0 rfl ((by rw [c2 b (by omega)]; exact hn : _ = nI n)) ?_
        refine st_icmp_ge (tgt := 146) hc dX1_classify_44 (by decide) (fun h44 => ?_) (fun h44 => ?_)
        · exact absurd h44 (nI_ge hi (by omega))
        · refine st_aload_n hc dX1_classify_47 rfl rfl ?_
          refine st_getr hc dX1_classify_48 flX1_21 y0 rfl ?_
          refine st_iload_n hc dX1_classify_51 rfl rfl ?_
          refine st_aload_n hc dX1_classify_52 rfl rfl ?_
          refine st_getr hc dX1_classify_53 flX1_11 y0 rfl ?_
          refine st_iload hc dX1_classify_56 rfl ?_
          refine st_ialdN (k := i) hc dX1_classify_58 y1 (rfl) (by omega) (by first | decide | omega) ((by rw [c2 (b + 1) (by omega)]; exact m1 : _ = nI (L i))) ?_
          refine st_callVp hc dX1_classify_59 (C0_answerOfCodes d τ hbk hg m2) mvX1_118 (by omega) rfl rfl rfl (Nat.le_of_ble_eq_true rfl) ?_
          rw [hAk]
          refine st_istore hc dX1_classify_62 (by decide) rfl ?_
          refine st_aload_n hc dX1_classify_64 rfl rfl ?_
          refine st_getr hc dX1_classify_65 flX1_15 y0 rfl ?_
          refine st_iload hc dX1_classify_68 rfl ?_
          refine st_ialdN (k := A i) hc dX1_classify_70 y8 (rfl) (by omega) (by first | decide | omega) ((by rw [hfu]; exact c5 : _ = nI 15)) ?_
          refine st_iconst (v := (-1)) hc dX1_classify_71 (by decide) ?_
          refine st_icmp_ne (tgt := 95) hc dX1_classify_72 (by decide) (fun h72 => ?_) (fun h72 => ?_)
          · refine st_aload_n hc dX1_classify_95 rfl rfl ?_
            refine st_getr hc dX1_classify_96 flX1_15 y0 rfl ?_
            refine st_iload hc dX1_classify_99 rfl ?_
            refine st_ialdN (k := A i) hc dX1_classify_101 y8 (rfl) (by omega) (by first | decide | omega) ((by rw [hfu]; exact c5 : _ = nI 15)) ?_
            refine st_istore hc dX1_classify_102 (by decide) rfl ?_
            refine st_iload hc dX1_classify_104 rfl ?_
            refine st_bipush (v := 15) hc dX1_classify_106 (by decide) ?_
            refine st_icmp_eq (tgt := 127) hc dX1_classify_108 (by decide) (fun h108 => ?_) (fun h108 => ?_)
            · refine st_lload hc dX1_classify_127 rfl ?_
              refine st_iload hc dX1_classify_129 rfl ?_
              refine st_i2l hc dX1_classify_131 ?_
              rw [nI_l (by decide)]
              refine st_iconst (v := 4) hc dX1_classify_132 (by decide) ?_
              refine st_iload hc dX1_classify_133 rfl ?_
              refine st_imul hc dX1_classify_135 ?_
              rw [show (4 : Int32) = nI 4 from rfl, pk_mul]
              refine st_lshl hc dX1_classify_136 ?_
              rw [wb_shl 15 (by omega)]
              refine st_lor hc dX1_classify_137 ?_
              rw [wb_or (by omega) (hx64 15 (by decide))]
              refine st_lstore hc dX1_classify_138 (by decide) rfl ?_
              refine st_inc hc dX1_classify_140 rfl (by decide) rfl ?_
              rw [nI_1]
              refine st_goto (tgt := 38) hc dX1_classify_143 (by decide) ?_
              exact hnx _ _
            · exact absurd (by decide) h108
          · exact absurd h72 (by decide)
      · rcases hold : anyN i (fun k => A k == A i) with _ | _
        · have hno : ∀ k, k < i → ¬ A k = A i := fun k hk q => by
            have := anyN_false hold k hk
            rw [q] at this
            simp at this
          have hnx : ∀ x7 x8 τ', (∀ a, ¬ (a = b + 5 ∨ a = b + 8) → τ' a = τ a) → (∀ x, ¬ x = 10 * E + M → τ' (b + 5) x = τ (b + 5) x) → τ' (b + 5) (10 * E + M) = nI (2 ^ i) → (∀ x, ¬ x = A i → τ' (b + 8) x = τ (b + 8) x) → τ' (b + 8) (A i) = nI M → aW g YC 9 (clA σ b n E A (10 * P)) 38 [some (.ref b), some (.int (nI gg)), some (.int (nI (10 * E))), some (.int (nI (M + 1))), some (.long (lN (shp i lb ||| M * 2 ^ (4 * i)))), none, some (.int (nI (i + 1))), x7, x8] [] τ' := fun x7 x8 τ' u1 u2 u3 u4 u5 => by
            rw [hshp M (by omega)]
            refine ih x7 x8 τ' (M + 1) _ ⟨Lab_new c1 hfu hno, fun a ha => (u1 a ha).trans (c2 a ha), fun x hx => ?_, fun m hm => ?_, ?_, fun k hk => ?_, fun a ha1 ha2 ha3 => ?_⟩
            · rw [u2 x (by omega)]; exact c3 x hx
            · by_cases q : m = M
              · rw [q, u3, cls_y, fbits_z, Nat.zero_or]
                rcases hz : anyN i (fun k => lb k == M) with _ | _
                · rfl
                · obtain ⟨k, hk, z⟩ := (anyN_iff _ _).mp hz
                  have z := eq_of_beq z
                  by_cases y : A k = 10 * P
                  · have := c1.2.1 k hk y; omega
                  · have := c1.2.2.1 k hk y; omega
              · rw [u2 _ (by omega), cls_n (fun z => q z.symm)]; exact c4 m (by omega)
            · rw [u4 _ (fun z => hfu z.symm)]; exact c5
            · by_cases q : k = i
              · rw [q, ext_s]; exact u5
              · rw [ext_n q, u4 _ (hno k (by omega))]; exact c6 k (by omega)
            · rw [u4 a (fun z => ha3 i (by omega) z.symm)]; exact c7 a ha1 ha2 (fun k hk => ha3 k (by omega))
          refine st_iload hc dX1_classify_38 rfl ?_
          refine st_aload_n hc dX1_classify_40 rfl rfl ?_
          refine st_getE hc dX1_classify_41 flX1_74 y0 rfl ((by rw [c2 b (by omega)]; exact hn : _ = nI n)) ?_
          refine st_icmp_ge (tgt := 146) hc dX1_classify_44 (by decide) (fun h44 => ?_) (fun h44 => ?_)
          · exact absurd h44 (nI_ge hi (by omega))
          · refine st_aload_n hc dX1_classify_47 rfl rfl ?_
            refine st_getr hc dX1_classify_48 flX1_21 y0 rfl ?_
            refine st_iload_n hc dX1_classify_51 rfl rfl ?_
            refine st_aload_n hc dX1_classify_52 rfl rfl ?_
            refine st_getr hc dX1_classify_53 flX1_11 y0 rfl ?_
            refine st_iload hc dX1_classify_56 rfl ?_
            refine st_ialdN (k := i) hc dX1_classify_58 y1 (rfl) (by omega) (by first | decide | omega) ((by rw [c2 (b + 1) (by omega)]; exact m1 : _ = nI (L i))) ?_
            refine st_callVp hc dX1_classify_59 (C0_answerOfCodes d τ hbk hg m2) mvX1_118 (by omega) rfl rfl rfl (Nat.le_of_ble_eq_true rfl) ?_
            rw [hAk]
            refine st_istore hc dX1_classify_62 (by decide) rfl ?_
            refine st_aload_n hc dX1_classify_64 rfl rfl ?_
            refine st_getr hc dX1_classify_65 flX1_15 y0 rfl ?_
            refine st_iload hc dX1_classify_68 rfl ?_
            refine st_ialdN (k := A i) hc dX1_classify_70 y8 (rfl) (by omega) (by first | decide | omega) (c7 (A i) hai hfu hno) ?_
            refine st_iconst (v := (-1)) hc dX1_classify_71 (by decide) ?_
            refine st_icmp_ne (tgt := 95) hc dX1_classify_72 (by decide) (fun h72 => ?_) (fun h72 => ?_)
            · exact absurd rfl h72
            · refine st_aload_n hc dX1_classify_75 rfl rfl ?_
              refine st_getr hc dX1_classify_76 flX1_15 y0 rfl ?_
              refine st_iload hc dX1_classify_79 rfl ?_
              refine st_iload_n hc dX1_classify_81 rfl rfl ?_
              refine st_iastN (k := A i) hc dX1_classify_82 y8 (rfl) (by omega) (by first | decide | omega)  ?_
              refine st_aload_n hc dX1_classify_83 rfl rfl ?_
              refine st_getr hc dX1_classify_84 flX1_38 y0 rfl ?_
              refine st_iload_n hc dX1_classify_87 rfl rfl ?_
              refine st_iload_n hc dX1_classify_88 rfl rfl ?_
              refine st_iadd hc dX1_classify_89 ?_
              refine st_iconst (v := 0) hc dX1_classify_90 (by decide) ?_
              refine st_iastN (k := 10 * E + M) hc dX1_classify_91 y5 (by rw [nI_add]) (by omega) (by first | decide | omega)  ?_
              refine st_inc hc dX1_classify_92 rfl (by decide) rfl ?_
              rw [nI_1]
              refine st_aload_n hc dX1_classify_95 rfl rfl ?_
              refine st_getr hc dX1_classify_96 flX1_15 y0 rfl ?_
              refine st_iload hc dX1_classify_99 rfl ?_
              refine st_ialdN (k := A i) hc dX1_classify_101 y8 (rfl) (by omega) (by first | decide | omega) ((by simp [up_eq] : _ = nI M)) ?_
              refine st_istore hc dX1_classify_102 (by decide) rfl ?_
              refine st_iload hc dX1_classify_104 rfl ?_
              refine st_bipush (v := 15) hc dX1_classify_106 (by decide) ?_
              refine st_icmp_eq (tgt := 127) hc dX1_classify_108 (by decide) (fun h108 => ?_) (fun h108 => ?_)
              · exact absurd (nI_inj (b := 15) (by omega) (by decide) h108) (by omega)
              · refine st_aload_n hc dX1_classify_111 rfl rfl ?_
                refine st_getr hc dX1_classify_112 flX1_38 y0 rfl ?_
                refine st_iload_n hc dX1_classify_115 rfl rfl ?_
                refine st_iload hc dX1_classify_116 rfl ?_
                refine st_iadd hc dX1_classify_118 ?_
                refine st_dup2 hc dX1_classify_119 rfl rfl ?_
                refine st_ialdN (k := 10 * E + M) hc dX1_classify_120 y5 (by rw [nI_add]) (by omega) (by first | decide | omega) ((by simp [up_eq, nI_0] : _ = nI 0)) ?_
                refine st_iconst (v := 1) hc dX1_classify_121 (by decide) ?_
                refine st_iload hc dX1_classify_122 rfl ?_
                refine st_ishl hc dX1_classify_124 ?_
                rw [nI_shl1 (by omega)]
                refine st_ior hc dX1_classify_125 ?_
                rw [nI_or, Nat.zero_or]
                refine st_iastN (k := 10 * E + M) hc dX1_classify_126 y5 (by rw [nI_add]) (by omega) (by first | decide | omega)  ?_
                refine st_lload hc dX1_classify_127 rfl ?_
                refine st_iload hc dX1_classify_129 rfl ?_
                refine st_i2l hc dX1_classify_131 ?_
                rw [nI_l (by omega)]
                refine st_iconst (v := 4) hc dX1_classify_132 (by decide) ?_
                refine st_iload hc dX1_classify_133 rfl ?_
                refine st_imul hc dX1_classify_135 ?_
                rw [show (4 : Int32) = nI 4 from rfl, pk_mul]
                refine st_lshl hc dX1_classify_136 ?_
                rw [wb_shl M (by omega)]
                refine st_lor hc dX1_classify_137 ?_
                rw [wb_or (by omega) (hx64 M (by omega))]
                refine st_lstore hc dX1_classify_138 (by decide) rfl ?_
                refine st_inc hc dX1_classify_140 rfl (by decide) rfl ?_
                rw [nI_1]
                refine st_goto (tgt := 38) hc dX1_classify_143 (by decide) ?_
                refine hnx _ _ _ (fun a ha => ?_) (fun x hx => by simp [up_eq, hx]) (by simp [up_eq]) (fun x hx => by simp [up_eq, hx]) (by simp [up_eq])
                rw [up_o a (by omega), up_o a (by omega), up_o a (by omega)]
        · obtain ⟨k0, hk0, hk1⟩ := (anyN_iff _ _).mp hold
          have hk1 : A k0 = A i := eq_of_beq hk1
          have hk2 : ¬ A k0 = 10 * P := by rw [hk1]; exact hfu
          have hlb := c1.2.2.1 k0 hk0 hk2
          have hcv : τ (b + 8) (A i) = nI (lb k0) := by rw [← hk1]; exact c6 k0 hk0
          have hnx : ∀ x7 x8 τ', (∀ a, ¬ a = b + 5 → τ' a = τ a) → (∀ x, ¬ x = 10 * E + lb k0 → τ' (b + 5) x = τ (b + 5) x) → τ' (b + 5) (10 * E + lb k0) = nI (fbits i (fun k => lb k == lb k0) ||| 2 ^ i) → aW g YC 9 (clA σ b n E A (10 * P)) 38 [some (.ref b), some (.int (nI gg)), some (.int (nI (10 * E))), some (.int (nI M)), some (.long (lN (shp i lb ||| lb k0 * 2 ^ (4 * i)))), none, some (.int (nI (i + 1))), x7, x8] [] τ' := fun x7 x8 τ' u1 u2 u3 => by
            rw [hshp (lb k0) (by omega)]
            refine ih x7 x8 τ' M _ ⟨Lab_old c1 hfu hk0 hk1, fun a ha => (u1 a (by omega)).trans (c2 a ha), fun x hx => ?_, fun m hm => ?_, ?_, fun k hk => ?_, fun a ha1 ha2 ha3 => ?_⟩
            · rw [u2 x (by omega)]; exact c3 x hx
            · by_cases q : m = lb k0
              · rw [q, u3, cls_y]
              · rw [u2 _ (by omega), cls_n (fun z => q z.symm)]; exact c4 m hm
            · rw [u1 (b + 8) (by omega)]; exact c5
            · rw [u1 (b + 8) (by omega)]
              by_cases q : k = i
              · rw [q, ext_s]; exact hcv
              · rw [ext_n q]; exact c6 k (by omega)
            · rw [u1 (b + 8) (by omega)]; exact c7 a ha1 ha2 (fun k hk => ha3 k (by omega))
          refine st_iload hc dX1_classify_38 rfl ?_
          refine st_aload_n hc dX1_classify_40 rfl rfl ?_
          refine st_getE hc dX1_classify_41 flX1_74 y0 rfl ((by rw [c2 b (by omega)]; exact hn : _ = nI n)) ?_
          refine st_icmp_ge (tgt := 146) hc dX1_classify_44 (by decide) (fun h44 => ?_) (fun h44 => ?_)
          · exact absurd h44 (nI_ge hi (by omega))
          · refine st_aload_n hc dX1_classify_47 rfl rfl ?_
            refine st_getr hc dX1_classify_48 flX1_21 y0 rfl ?_
            refine st_iload_n hc dX1_classify_51 rfl rfl ?_
            refine st_aload_n hc dX1_classify_52 rfl rfl ?_
            refine st_getr hc dX1_classify_53 flX1_11 y0 rfl ?_
            refine st_iload hc dX1_classify_56 rfl ?_
            refine st_ialdN (k := i) hc dX1_classify_58 y1 (rfl) (by omega) (by first | decide | omega) ((by rw [c2 (b + 1) (by omega)]; exact m1 : _ = nI (L i))) ?_
            refine st_callVp hc dX1_classify_59 (C0_answerOfCodes d τ hbk hg m2) mvX1_118 (by omega) rfl rfl rfl (Nat.le_of_ble_eq_true rfl) ?_
            rw [hAk]
            refine st_istore hc dX1_classify_62 (by decide) rfl ?_
            refine st_aload_n hc dX1_classify_64 rfl rfl ?_
            refine st_getr hc dX1_classify_65 flX1_15 y0 rfl ?_
            refine st_iload hc dX1_classify_68 rfl ?_
            refine st_ialdN (k := A i) hc dX1_classify_70 y8 (rfl) (by omega) (by first | decide | omega) (hcv) ?_
            refine st_iconst (v := (-1)) hc dX1_classify_71 (by decide) ?_
            refine st_icmp_ne (tgt := 95) hc dX1_classify_72 (by decide) (fun h72 => ?_) (fun h72 => ?_)
            · refine st_aload_n hc dX1_classify_95 rfl rfl ?_
              refine st_getr hc dX1_classify_96 flX1_15 y0 rfl ?_
              refine st_iload hc dX1_classify_99 rfl ?_
              refine st_ialdN (k := A i) hc dX1_classify_101 y8 (rfl) (by omega) (by first | decide | omega) (hcv) ?_
              refine st_istore hc dX1_classify_102 (by decide) rfl ?_
              refine st_iload hc dX1_classify_104 rfl ?_
              refine st_bipush (v := 15) hc dX1_classify_106 (by decide) ?_
              refine st_icmp_eq (tgt := 127) hc dX1_classify_108 (by decide) (fun h108 => ?_) (fun h108 => ?_)
              · exact absurd (nI_inj (b := 15) (by omega) (by decide) h108) (by omega)
              · refine st_aload_n hc dX1_classify_111 rfl rfl ?_
                refine st_getr hc dX1_classify_112 flX1_38 y0 rfl ?_
                refine st_iload_n hc dX1_classify_115 rfl rfl ?_
                refine st_iload hc dX1_classify_116 rfl ?_
                refine st_iadd hc dX1_classify_118 ?_
                refine st_dup2 hc dX1_classify_119 rfl rfl ?_
                refine st_ialdN (k := 10 * E + lb k0) hc dX1_classify_120 y5 (by rw [nI_add]) (by omega) (by first | decide | omega) (c4 (lb k0) hlb) ?_
                refine st_iconst (v := 1) hc dX1_classify_121 (by decide) ?_
                refine st_iload hc dX1_classify_122 rfl ?_
                refine st_ishl hc dX1_classify_124 ?_
                rw [nI_shl1 (by omega)]
                refine st_ior hc dX1_classify_125 ?_
                rw [nI_or]
                refine st_iastN (k := 10 * E + lb k0) hc dX1_classify_126 y5 (by rw [nI_add]) (by omega) (by first | decide | omega)  ?_
                refine st_lload hc dX1_classify_127 rfl ?_
                refine st_iload hc dX1_classify_129 rfl ?_
                refine st_i2l hc dX1_classify_131 ?_
                rw [nI_l (by omega)]
                refine st_iconst (v := 4) hc dX1_classify_132 (by decide) ?_
                refine st_iload hc dX1_classify_133 rfl ?_
                refine st_imul hc dX1_classify_135 ?_
                rw [show (4 : Int32) = nI 4 from rfl, pk_mul]
                refine st_lshl hc dX1_classify_136 ?_
                rw [wb_shl (lb k0) (by omega)]
                refine st_lor hc dX1_classify_137 ?_
                rw [wb_or (by omega) (hx64 (lb k0) (by omega))]
                refine st_lstore hc dX1_classify_138 (by decide) rfl ?_
                refine st_inc hc dX1_classify_140 rfl (by decide) rfl ?_
                rw [nI_1]
                refine st_goto (tgt := 38) hc dX1_classify_143 (by decide) ?_
                exact hnx _ _ _ (fun a ha => up_o a ha) (fun x hx => by simp [up_eq, hx]) (by simp [up_eq])
            · exact absurd h72.symm (nI_neg1 (by omega))
  refine st_aload_n hc dX1_classify_0 rfl rfl ?_
  refine st_getE hc dX1_classify_1 flX1_92 y0 rfl (hE) ?_
  refine st_bipush (v := 10) hc dX1_classify_4 (by decide) ?_
  refine st_imul hc dX1_classify_6 ?_
  rw [show (10 : Int32) = nI 10 from rfl, pk_mul, Nat.mul_comm E 10]
  refine st_istore_n hc dX1_classify_7 rfl (by decide) rfl ?_
  refine st_iconst (v := 0) hc dX1_classify_8 (by decide) ?_
  refine st_istore_n hc dX1_classify_9 rfl (by decide) rfl ?_
  refine st_lconst (v := 0) hc dX1_classify_10 (by decide) ?_
  refine st_lstore hc dX1_classify_11 (by decide) rfl ?_
  refine st_aload_n hc dX1_classify_13 rfl rfl ?_
  refine st_getr hc dX1_classify_14 flX1_15 y0 rfl ?_
  refine st_iconst (v := (-1)) hc dX1_classify_17 (by decide) ?_
  refine st_callSn hc dX1_classify_18 (CJ_fill (d + 2) σ y8 (by decide) (-1)) msX1_86 (by omega) rfl rfl (Nat.le_of_ble_eq_true rfl) ?_
  rintro τ1 e
  subst e
  refine st_aload_n hc dX1_classify_21 rfl rfl ?_
  refine st_getr hc dX1_classify_22 flX1_15 y0 rfl ?_
  refine st_aload_n hc dX1_classify_25 rfl rfl ?_
  refine st_getr hc dX1_classify_26 flX1_21 y0 rfl ?_
  refine st_callVp hc dX1_classify_29 (C0_fullAnswer (d + 2) _ (P := P) (by rw [vu_n (by omega)]; exact hb.1.2.2.1)) mvX1_114 (by omega) rfl rfl rfl (Nat.le_of_ble_eq_true rfl) ?_
  refine st_bipush (v := 15) hc dX1_classify_32 (by decide) ?_
  refine st_iastN (k := 10 * P) hc dX1_classify_34 y8 (rfl) (by omega) (by first | decide | omega)  ?_
  refine st_iconst (v := 0) hc dX1_classify_35 (by decide) ?_
  refine st_istore hc dX1_classify_36 (by decide) rfl ?_
  have h9 := k38 none none (up (va_up σ (b + 8) (clr 51 (-1) (σ (b + 8)))) (b + 8) (10 * P) 15) 0 (fun _ => 0) ⟨⟨Nat.le_refl _, fun k hk => by omega, fun k hk => by omega, fun j k hj => by omega, fun m hm => by omega⟩, fun a ha => by rw [up_o a (by omega), vu_n (by omega)], fun x _ => by rw [up_o (b + 5) (by omega), vu_n (by omega)], fun m hm => by omega, by simp [up_eq]; rfl, fun k hk => by omega, fun a ha1 ha2 _ => by simp [up_eq, ha2, va_up, clr, ha1]⟩
  rw [shp_0] at h9
  exact h9
theorem C1_bitOf (d : Nat) (σ : St) {b R SL : Nat} (hY : frY b R SL) {n gg : Nat} {L : Nat → Nat} (hn : σ b 3 = nI n) (h10 : n ≤ 10) (hL : ∀ k, k < n → σ (b + 1) k = nI (L k) ∧ L k < 4096) (hinj : ∀ j k, j < n → k < n → L j = L k → j = k) (hg : gg < 4096) : Mt YC mX1_bitOf d [.ref b, .int (nI gg)] σ (fun r τ => r = some (.int (nI (fbits n (fun k => L k == gg)))) ∧ τ = σ) := by
  obtain ⟨y0, y1, -⟩ := id hY
  refine Mt.ofA [some (.ref b), some (.int (nI gg)), none] (by decide) (fun _ => Nat.le_of_ble_eq_true rfl) (fun _ => rfl) (fun g hc => ?_)
  have k2 : (∀ k, k < 0 → ¬ L k = gg) → aW g YC 3 (fun r τ => r = some (.int (nI (fbits n (fun k => L k == gg)))) ∧ τ = σ) 2 [some (.ref b), some (.int (nI gg)), some (.int (nI 0))] [] σ := by
    refine lpN (n := n) (F := fun i => (∀ k, k < i → ¬ L k = gg) → aW g YC 3 (fun r τ => r = some (.int (nI (fbits n (fun k => L k == gg)))) ∧ τ = σ) 2 [some (.ref b), some (.int (nI gg)), some (.int (nI i))] [] σ) (fun hz => ?_) (fun i hi ih hz => ?_)
    · have e : fbits n (fun k => L k == gg) = 0 := fbits_z (by
        rcases hy : anyN n (fun k => L k == gg) with _ | _
        · rfl
        · obtain ⟨k, hk, q⟩ := (anyN_iff _ _).mp hy
          exact absurd (eq_of_beq q) (hz k hk))
      refine st_iload_n hc dX1_bitOf_2 rfl rfl ?_
      refine st_aload_n hc dX1_bitOf_3 rfl rfl ?_
      refine st_getE hc dX1_bitOf_4 flX1_74 y0 rfl (hn) ?_
      refine st_icmp_ge (tgt := 30) hc dX1_bitOf_7 (by decide) (fun h7 => ?_) (fun h7 => ?_)
      · refine st_iconst (v := 0) hc dX1_bitOf_30 (by decide) ?_
        refine st_iret (st := []) hc dX1_bitOf_31 rfl ?_
        rw [e]
        exact ⟨rfl, rfl⟩
      · exact absurd (nI_le (Nat.le_refl _) (by omega)) h7
    · obtain ⟨m1, m2⟩ := hL i hi
      refine st_iload_n hc dX1_bitOf_2 rfl rfl ?_
      refine st_aload_n hc dX1_bitOf_3 rfl rfl ?_
      refine st_getE hc dX1_bitOf_4 flX1_74 y0 rfl (hn) ?_
      refine st_icmp_ge (tgt := 30) hc dX1_bitOf_7 (by decide) (fun h7 => ?_) (fun h7 => ?_)
      · exact absurd h7 (nI_ge hi (by omega))
      · refine st_aload_n hc dX1_bitOf_10 rfl rfl ?_
        refine st_getr hc dX1_bitOf_11 flX1_11 y0 rfl ?_
        refine st_iload_n hc dX1_bitOf_14 rfl rfl ?_
        refine st_ialdN (k := i) hc dX1_bitOf_15 y1 (rfl) (by omega) (by first | decide | omega) (m1) ?_
        refine st_iload_n hc dX1_bitOf_16 rfl rfl ?_
        refine st_icmp_ne (tgt := 24) hc dX1_bitOf_17 (by decide) (fun h17 => ?_) (fun h17 => ?_)
        · have hz2 : ∀ k, k < i + 1 → ¬ L k = gg := fun k hk => by
            by_cases q : k = i
            · rw [q]; exact fun z => h17 (by rw [z])
            · exact hz k (by omega)
          refine st_inc hc dX1_bitOf_24 rfl (by decide) rfl ?_
          rw [nI_1]
          refine st_goto (tgt := 2) hc dX1_bitOf_27 (by decide) ?_
          exact ih hz2
        · have h17 : L i = gg := nI_inj (by omega) (by omega) h17
          have e : fbits n (fun k => L k == gg) = 2 ^ i := by
            apply Nat.eq_of_testBit_eq
            intro j
            rw [fbits_bit, Nat.testBit_two_pow]
            by_cases q : i = j
            · subst q; simp [hi, h17]
            · rw [decide_eq_false q]
              rcases hy : (decide (j < n) && L j == gg) with _ | _
              · rfl
              · rw [Bool.and_eq_true] at hy
                exact absurd (hinj i j hi (of_decide_eq_true hy.1) (h17.trans (eq_of_beq hy.2).symm)) q
          refine st_iconst (v := 1) hc dX1_bitOf_20 (by decide) ?_
          refine st_iload_n hc dX1_bitOf_21 rfl rfl ?_
          refine st_ishl hc dX1_bitOf_22 ?_
          rw [nI_shl1 (by omega)]
          refine st_iret (st := []) hc dX1_bitOf_23 rfl ?_
          rw [e]
          exact ⟨rfl, rfl⟩
  refine st_iconst (v := 0) hc dX1_bitOf_0 (by decide) ?_
  refine st_istore_n hc dX1_bitOf_1 rfl (by decide) rfl ?_
  exact k2 (fun k hk => absurd hk (Nat.not_lt_zero k))

