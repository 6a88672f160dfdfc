/-! ===== calls of the class: what they rest on ===== -/
def scr (a : Nat) : Bool := [5, 6, 8, 9, 10, 19, 20, 22, 23, 24, 25, 59, 60].contains a
theorem frV.eq {σ τ : St} {b R : Nat} {any : Bool} (h : frV σ b R any) (e : ∀ a, b ≤ a → a ≤ b + 9 → τ a = σ a) : frV τ b R any := by
  unfold frV frF frD enR meO at *
  rw [e b (by omega) (by omega), e (b + 1) (by omega) (by omega), e (b + 2) (by omega) (by omega), e (b + 3) (by omega) (by omega), e (b + 4) (by omega) (by omega), e (b + 5) (by omega) (by omega), e (b + 9) (by omega) (by omega)]
  exact h
theorem RelC.eqC {k : Nat} {σ τ μ : St} (h : RelC k σ μ) (e : ∀ a, scr a = false → ¬ a = 0 → ¬ a = 52 → τ a = σ a) (e8 : τ 52 8 = σ 52 8) (e9 : τ 52 9 = σ 52 9) : RelC k τ μ := by
  obtain ⟨m, hb, hP, hQ, hH, hS, hF, hT, hR, hV⟩ := h
  have c := fun a (h1 : scr a = false) (h2 : ¬ (a = 0 ∨ a = 52)) => e a h1 (by omega) (by omega)
  refine ⟨m, hb.eq (c 1 rfl (by decide)) (c 2 rfl (by decide)) (c 3 rfl (by decide)) (c 4 rfl (by decide)), ?_, ?_, ?_, ?_, ⟨hF.1.eq (fun a h1 h2 => ?_), hF.2.eq (fun a h1 h2 => ?_)⟩, ?_, ?_, ?_⟩
  · unfold rlP at *; rw [c 7 rfl (by decide), c 11 rfl (by decide), c 12 rfl (by decide), c 13 rfl (by decide), c 14 rfl (by decide), c 15 rfl (by decide), c 16 rfl (by decide)]; exact hP
  · unfold rlQ at *; rw [c 7 rfl (by decide)]; exact hQ
  · unfold rlH at *; rw [c 17 rfl (by decide), c 18 rfl (by decide)]; exact hH
  · unfold rlS svF at *; rw [c 7 rfl (by decide), c 21 rfl (by decide)]; exact hS
  · exact c a (by unfold scr; rcases (show a = 26 ∨ a = 27 ∨ a = 28 ∨ a = 29 ∨ a = 30 ∨ a = 31 ∨ a = 32 ∨ a = 33 ∨ a = 34 ∨ a = 35 by omega) with rfl | rfl | rfl | rfl | rfl | rfl | rfl | rfl | rfl | rfl <;> rfl) (by omega)
  · exact c a (by unfold scr; rcases (show a = 36 ∨ a = 37 ∨ a = 38 ∨ a = 39 ∨ a = 40 ∨ a = 41 ∨ a = 42 ∨ a = 43 ∨ a = 44 ∨ a = 45 by omega) with rfl | rfl | rfl | rfl | rfl | rfl | rfl | rfl | rfl | rfl <;> rfl) (by omega)
  · unfold rlT at *; rw [c 46 rfl (by decide), c 47 rfl (by decide), c 48 rfl (by decide), c 49 rfl (by decide), c 50 rfl (by decide), c 51 rfl (by decide)]; exact hT
  · unfold plR lg at *; rw [e8, e9, c 53 rfl (by decide), c 54 rfl (by decide), c 55 rfl (by decide), c 56 rfl (by decide), c 57 rfl (by decide), c 58 rfl (by decide)]; exact hR
  · intro d hd
    have := hV d hd
    rcases (show d = 0 ∨ d = 1 ∨ d = 2 ∨ d = 3 ∨ d = 4 ∨ d = 5 by omega) with rfl | rfl | rfl | rfl | rfl | rfl
    · rw [c 62 rfl (by decide), c 63 rfl (by decide)]; exact this
    · rw [c 64 rfl (by decide), c 65 rfl (by decide)]; exact this
    · rw [c 66 rfl (by decide), c 67 rfl (by decide)]; exact this
    · rw [c 68 rfl (by decide), c 69 rfl (by decide)]; exact this
    · rw [c 70 rfl (by decide), c 71 rfl (by decide)]; exact this
    · rw [c 72 rfl (by decide), c 73 rfl (by decide)]; exact this
theorem Rel.eqC {k : Nat} {σ τ μ : St} (h : Rel k σ μ) (e : ∀ a, scr a = false → ¬ a = 52 → τ a = σ a) (e8 : τ 52 8 = σ 52 8) (e9 : τ 52 9 = σ 52 9) : Rel k τ μ := ⟨h.1.eqC (fun a h1 _ h2 => e a h1 h2) e8 e9, by rw [e 0 rfl (by decide)]; exact h.2⟩
theorem Rel.eqD {k : Nat} {σ τ μ : St} (h : Rel k σ μ) (e : ∀ a, ¬ (a = 19 ∨ a = 20) → τ a = σ a) : Rel k τ μ := h.eqC (fun a h1 h2 => e a (fun q => by rcases q with rfl | rfl <;> exact absurd h1 (by decide))) (by rw [e 52 (by decide)]) (by rw [e 52 (by decide)])
theorem Rel.sE {k : Nat} {σ μ ν : St} (h : Rel k σ μ) (e : sE μ ν) : Rel k σ ν := ⟨h.1.mE (mE.of e), by rw [e 0 14 rfl]; exact h.2⟩
theorem Rel.t {k : Nat} {σ μ : St} (h : Rel k σ μ) : Rel (k + 1) σ (t0 μ) := ⟨(h.1.mE (mE.t0 μ)).up (by omega), by rw [h.2]; simp [up_eq]⟩
/-- a refusal is counted on both sides -/
theorem Rel.fd {k : Nat} {σ μ : St} (h : Rel k σ μ) : Rel (k + 1) (up σ 0 11 (σ 0 11 + 1)) (fnd μ) := by
  have e : mE μ (fnd μ) := by
    refine ⟨fun a h0 _ => (up_o a h0).trans (up_o a h0), fun i hi => ?_⟩
    simp only [List.mem_cons, List.not_mem_nil, or_false] at hi
    rcases hi with rfl | rfl | rfl | rfl | rfl | rfl | rfl | rfl | rfl | rfl | rfl <;> simp [up_eq]
  exact ⟨((h.1.mE e).up (by omega)).eqC (fun a _ h0 _ => up_o a h0) (by simp [up_eq]) (by simp [up_eq]), by rw [h.2]; simp [up_eq]⟩
/-- the numbers, and what the play's methods want -/
theorem Rel.f {k : Nat} {σ μ : St} (h : Rel k σ μ) : (1 ≤ pN μ ∧ pN μ ≤ 5 ∧ 1 ≤ cN μ ∧ cN μ ≤ 8) ∧ (nN μ = cN μ ^ pN μ ∧ nN μ ≤ 4096 ∧ tN μ ≤ 10 ∧ liN μ ≤ 2) ∧ (σ 1 0 = nI (pN μ) ∧ σ 1 1 = nI (cN μ) ∧ σ 1 2 = nI (nN μ)) ∧ (μ 0 0 = nI (pN μ) ∧ μ 0 1 = nI (cN μ) ∧ μ 0 9 = nI (tN μ) ∧ μ 0 5 = nI (liN μ)) := by
  obtain ⟨⟨⟨⟨m1, m2⟩, -⟩, hb, -⟩, -⟩ := h
  obtain ⟨⟨p1, p2, p3, p4, p5, p6⟩, n2, n3, n4, t1, t2, l1, l2, -⟩ := m1
  obtain ⟨⟨hz, h4, b0, b1, b2⟩, -⟩ := hb
  exact ⟨⟨p3, p4, p5, p6⟩, ⟨n3, n4, m2, l2⟩, ⟨b0, b1, by rw [n3]; exact b2⟩, ⟨p1, p2, t1, l1⟩⟩
theorem fbN_lt {μ : St} (h : tN μ ≤ 10) (c : Nat) : fbN μ c < 2 ^ 11 := Nat.lt_of_lt_of_le (fbits_lt _ _) (Nat.pow_le_pow_right (by decide) (by omega))
theorem Rel.A {k : Nat} {σ μ : St} (h : Rel k σ μ) : plA σ (nN μ) (okN μ) (fbN μ) (liN μ) := by
  obtain ⟨-, ⟨f1, f2, f3, f4⟩, ⟨g1, g2, g3⟩, ⟨u1, u2, u3, u4⟩⟩ := h.f
  obtain ⟨p1, p2, p3, p4, p5, p6, p7, p8, -⟩ := h.1.2.2.1
  exact ⟨g3, f2, by rw [p3]; exact u4, f4, fun c hc => ⟨(p8 c hc).2.1, (p8 c hc).2.2, fbN_lt f3 c⟩⟩
theorem lm_le (μ : St) : lm μ ≤ nN μ := cnt_le _ _
theorem Rel.L {k : Nat} {σ μ : St} (h : Rel k σ μ) : lfI σ (nN μ) (lm μ) (lth μ) := by
  obtain ⟨-, ⟨f1, f2, f3, f4⟩, -⟩ := h.f
  obtain ⟨p1, p2, p3, p4, p5, p6, p7, p8, p9, -⟩ := h.1.2.2.1
  have := lm_le μ
  exact ⟨p6, by omega, fun k hk => ⟨p9 k hk, lth_lt hk⟩⟩
theorem Rel.row {k : Nat} {σ μ : St} (h : Rel k σ μ) : rowOK (pN μ) (cN μ) (σ 18) := fun i hi => by
  rw [h.1.2.2.2.2.1.1 i hi]
  exact h.1.1.2.1 i hi
theorem C11_refused (d : Nat) (σ : St) (x : Int32) : Mt YC mX11_refused d [.ref 0, .int x] σ (fun r τ => r = some (.int x) ∧ τ = up σ 0 11 (σ 0 11 + 1)) := by
  refine Mt.ofA [some (.ref 0), some (.int x)] (by decide) (fun _ => Nat.le_of_ble_eq_true rfl) (fun _ => rfl) (fun g hc => ?_)
  refine st_aload_n hc dX11_refused_0 rfl rfl ?_
  refine st_dup hc dX11_refused_1 rfl ?_
  refine st_getE hc dX11_refused_2 flX11_116 rfl rfl rfl ?_
  refine st_iconst (v := 1) hc dX11_refused_5 (by decide) ?_
  refine st_iadd hc dX11_refused_6 ?_
  refine st_put hc dX11_refused_7 fpX11_116 rfl rfl  ?_
  refine st_iload_n hc dX11_refused_10 rfl rfl ?_
  refine st_iret (st := []) hc dX11_refused_11 rfl ?_
  exact ⟨rfl, rfl⟩
theorem C11_hand {k : Nat} {σ μ : St} (h : Rel k σ μ) (i : Int32) : Mt YC mX11_hand 70 [.ref 0, .int i] σ (fun r τ => r = some (.int (sp_hand μ i).1) ∧ Rel (k + 1) τ (sp_hand μ i).2) := by
  obtain ⟨⟨f1, f2, f3, f4⟩, -, ⟨g1, g2, g3⟩, -⟩ := h.f
  refine Mt.ofA [some (.ref 0), some (.int i)] (by decide) (fun _ => Nat.le_of_ble_eq_true rfl) (fun _ => rfl) (fun g hc => ?_)
  refine st_aload_n hc dX11_hand_0 rfl rfl ?_
  refine st_getr hc dX11_hand_1 flX11_12 rfl rfl ?_
  refine st_iload_n hc dX11_hand_4 rfl rfl ?_
  refine st_callVp hc dX11_hand_5 (C0_hasPlace 60 σ g1 (by omega) i) mvX11_148 (by omega) rfl rfl rfl (Nat.le_of_ble_eq_true rfl) ?_
  refine st_if_eq (tgt := 23) hc dX11_hand_8 (by decide) (fun h8 => ?_) (fun h8 => ?_)
  · have e : sp_hand μ i = (-13, fnd μ) := if_neg (of_decide_eq_false (bI_0.mp h8))
    have hR := h.fd
    refine st_aload_n hc dX11_hand_23 rfl rfl ?_
    refine st_bipush (v := (-13)) hc dX11_hand_24 (by decide) ?_
    refine st_callVq hc dX11_hand_26 (C11_refused 60 σ (-13)) mvX11_151 (by omega) rfl rfl rfl (Nat.le_of_ble_eq_true rfl) ?_
    rintro τ1 e1
    subst e1
    refine st_iret (st := []) hc dX11_hand_29 rfl ?_
    rw [e]
    exact ⟨rfl, hR⟩
  · obtain ⟨q1, q2⟩ := of_decide_eq_true (bI_t h8)
    have e : sp_hand μ i = (μ 2 (nat i), t0 μ) := if_pos ⟨q1, q2⟩
    have hR := h.t
    refine st_aload_n hc dX11_hand_11 rfl rfl ?_
    refine st_getr hc dX11_hand_12 flX11_28 rfl rfl ?_
    refine st_getr hc dX11_hand_15 flX11_158 rfl rfl ?_
    refine st_iload_n hc dX11_hand_18 rfl rfl ?_
    refine st_ialdN (k := nat i) hc dX11_hand_19 rfl ((nI_nat q1).symm) (by omega) (by first | decide | omega) (h.1.2.2.2.2.1.1 (nat i) q2) ?_
    refine st_goto (tgt := 29) hc dX11_hand_20 (by decide) ?_
    refine st_iret (st := []) hc dX11_hand_29 rfl ?_
    rw [e]
    exact ⟨rfl, hR⟩
theorem C11_answer {k : Nat} {σ μ : St} (h : Rel k σ μ) (a b : Int32) : Mt YC mX11_answer 70 [.ref 0, .int a, .int b] σ (fun r τ => r = some (.int (sp_answer μ a b).1) ∧ Rel (k + 1) τ (sp_answer μ a b).2) := by
  obtain ⟨-, ⟨f1, f2, -, -⟩, ⟨g1, g2, g3⟩, -⟩ := h.f
  refine Mt.ofA [some (.ref 0), some (.int a), some (.int b)] (by decide) (fun _ => Nat.le_of_ble_eq_true rfl) (fun _ => rfl) (fun g hc => ?_)
  refine st_aload_n hc dX11_answer_0 rfl rfl ?_
  refine st_getr hc dX11_answer_1 flX11_12 rfl rfl ?_
  refine st_iload_n hc dX11_answer_4 rfl rfl ?_
  refine st_callVp hc dX11_answer_5 (C0_has 60 σ g3 f2 a) mvX11_128 (by omega) rfl rfl rfl (Nat.le_of_ble_eq_true rfl) ?_
  refine st_if_eq (tgt := 34) hc dX11_answer_8 (by decide) (fun h8 => ?_) (fun h8 => ?_)
  · have e : sp_answer μ a b = (-1, t0 μ) := if_neg (fun q => of_decide_eq_false (bI_0.mp h8) q.1)
    refine st_iconst (v := (-1)) hc dX11_answer_34 (by decide) ?_
    refine st_iret (st := []) hc dX11_answer_35 rfl ?_
    rw [e]
    exact ⟨rfl, h.t⟩
  · have q1 := of_decide_eq_true (bI_t h8)
    refine st_aload_n hc dX11_answer_11 rfl rfl ?_
    refine st_getr hc dX11_answer_12 flX11_12 rfl rfl ?_
    refine st_iload_n hc dX11_answer_15 rfl rfl ?_
    refine st_callVp hc dX11_answer_16 (C0_has 60 σ g3 f2 b) mvX11_128 (by omega) rfl rfl rfl (Nat.le_of_ble_eq_true rfl) ?_
    refine st_if_eq (tgt := 34) hc dX11_answer_19 (by decide) (fun h19 => ?_) (fun h19 => ?_)
    · have e : sp_answer μ a b = (-1, t0 μ) := if_neg (fun q => of_decide_eq_false (bI_0.mp h19) q.2)
      refine st_iconst (v := (-1)) hc dX11_answer_34 (by decide) ?_
      refine st_iret (st := []) hc dX11_answer_35 rfl ?_
      rw [e]
      exact ⟨rfl, h.t⟩
    · have q2 := of_decide_eq_true (bI_t h19)
      have e : sp_answer μ a b = (nI (ans (pN μ) (cN μ) (fun i => nI (pegOf (pN μ) (cN μ) (nat a) i)) (nat b)), t0 μ) := if_pos ⟨q1, q2⟩
      have hco := C0_answerOfCodes 60 σ h.1.2.1 (x := nat a) (code := nat b) (by rw [← f1]; exact q1.2) (by rw [← f1]; exact q2.2)
      rw [nI_nat q1.1, nI_nat q2.1] at hco
      refine st_aload_n hc dX11_answer_22 rfl rfl ?_
      refine st_getr hc dX11_answer_23 flX11_12 rfl rfl ?_
      refine st_iload_n hc dX11_answer_26 rfl rfl ?_
      refine st_iload_n hc dX11_answer_27 rfl rfl ?_
      refine st_callVp hc dX11_answer_28 (hco) mvX11_198 (by omega) rfl rfl rfl (Nat.le_of_ble_eq_true rfl) ?_
      refine st_goto (tgt := 35) hc dX11_answer_31 (by decide) ?_
      refine st_iret (st := []) hc dX11_answer_35 rfl ?_
      rw [e]
      exact ⟨rfl, h.t⟩
theorem C11_reply {k : Nat} {σ μ : St} (h : Rel k σ μ) (b : Int32) : Mt YC mX11_reply 70 [.ref 0, .int b] σ (fun r τ => r = some (.int (sp_reply μ b).1) ∧ Rel (k + 1) τ (sp_reply μ b).2) := by
  obtain ⟨-, ⟨f1, f2, -, -⟩, ⟨g1, g2, g3⟩, -⟩ := h.f
  obtain ⟨H1, H2, H3⟩ := h.1.2.2.2.2.1
  refine Mt.ofA [some (.ref 0), some (.int b)] (by decide) (fun _ => Nat.le_of_ble_eq_true rfl) (fun _ => rfl) (fun g hc => ?_)
  refine st_aload_n hc dX11_reply_0 rfl rfl ?_
  refine st_getr hc dX11_reply_1 flX11_12 rfl rfl ?_
  refine st_iload_n hc dX11_reply_4 rfl rfl ?_
  refine st_callVp hc dX11_reply_5 (C0_has 60 σ g3 f2 b) mvX11_128 (by omega) rfl rfl rfl (Nat.le_of_ble_eq_true rfl) ?_
  refine st_if_eq (tgt := 36) hc dX11_reply_8 (by decide) (fun h8 => ?_) (fun h8 => ?_)
  · have e : sp_reply μ b = (-1, t0 μ) := if_neg (of_decide_eq_false (bI_0.mp h8))
    refine st_iconst (v := (-1)) hc dX11_reply_36 (by decide) ?_
    refine st_iret (st := []) hc dX11_reply_37 rfl ?_
    rw [e]
    exact ⟨rfl, h.t⟩
  · have q2 := of_decide_eq_true (bI_t h8)
    have e : sp_reply μ b = (nI (ans (pN μ) (cN μ) (μ 2) (nat b)), t0 μ) := if_pos q2
    have hco := C0_answerTo 60 σ h.1.2.1 (μ 2) (code := nat b) (by rw [← f1]; exact q2.2)
    rw [nI_nat q2.1] at hco
    refine st_aload_n hc dX11_reply_11 rfl rfl ?_
    refine st_getr hc dX11_reply_12 flX11_12 rfl rfl ?_
    refine st_aload_n hc dX11_reply_15 rfl rfl ?_
    refine st_getr hc dX11_reply_16 flX11_28 rfl rfl ?_
    refine st_getE hc dX11_reply_19 flX11_185 rfl rfl (H2) ?_
    refine st_aload_n hc dX11_reply_22 rfl rfl ?_
    refine st_getr hc dX11_reply_23 flX11_28 rfl rfl ?_
    refine st_getE hc dX11_reply_26 flX11_188 rfl rfl (H3) ?_
    refine st_iload_n hc dX11_reply_29 rfl rfl ?_
    refine st_callVp hc dX11_reply_30 (hco) mvX11_201 (by omega) rfl rfl rfl (Nat.le_of_ble_eq_true rfl) ?_
    refine st_goto (tgt := 37) hc dX11_reply_33 (by decide) ?_
    refine st_iret (st := []) hc dX11_reply_37 rfl ?_
    rw [e]
    exact ⟨rfl, h.t⟩
theorem C11_left {k : Nat} {σ μ : St} (h : Rel k σ μ) (i : Int32) : Mt YC mX11_left 70 [.ref 0, .int i] σ (fun r τ => r = some (.int (sp_left μ i).1) ∧ Rel (k + 1) τ (sp_left μ i).2) := by
  obtain ⟨l1, l2, l3⟩ := h.L
  have hn := nat_lt i
  refine Mt.ofA [some (.ref 0), some (.int i)] (by decide) (fun _ => Nat.le_of_ble_eq_true rfl) (fun _ => rfl) (fun g hc => ?_)
  refine st_iload_n hc dX11_left_0 rfl rfl ?_
  refine st_if_lt (tgt := 27) hc dX11_left_1 (by decide) (fun h1 => ?_) (fun h1 => ?_)
  · have e : sp_left μ i = (-1, t0 μ) := if_neg (fun q => absurd h1 (Int32.not_lt.mpr q.1))
    refine st_iconst (v := (-1)) hc dX11_left_27 (by decide) ?_
    refine st_iret (st := []) hc dX11_left_28 rfl ?_
    rw [e]
    exact ⟨rfl, h.t⟩
  · have h1 := Int32.not_lt.mp h1
    refine st_iload_n hc dX11_left_4 rfl rfl ?_
    refine st_aload_n hc dX11_left_5 rfl rfl ?_
    refine st_getr hc dX11_left_6 flX11_21 rfl rfl ?_
    refine st_getE hc dX11_left_9 flX11_182 rfl rfl (l1) ?_
    refine st_icmp_ge (tgt := 27) hc dX11_left_12 (by decide) (fun h12 => ?_) (fun h12 => ?_)
    · have e : sp_left μ i = (-1, t0 μ) := if_neg (fun q => by
        rw [← nI_nat h1] at h12
        have := (nI_leI (by omega) hn).mp h12
        omega)
      refine st_iconst (v := (-1)) hc dX11_left_27 (by decide) ?_
      refine st_iret (st := []) hc dX11_left_28 rfl ?_
      rw [e]
      exact ⟨rfl, h.t⟩
    · have h12 : nat i < lm μ := Nat.lt_of_not_le (fun q => h12 (by have := nI_le q hn; rw [nI_nat h1] at this; exact this))
      have e : sp_left μ i = (nI (nthT (nN μ) (mLs μ) (nat i)), t0 μ) := if_pos ⟨h1, h12⟩
      refine st_aload_n hc dX11_left_15 rfl rfl ?_
      refine st_getr hc dX11_left_16 flX11_21 rfl rfl ?_
      refine st_getr hc dX11_left_19 flX11_233 rfl rfl ?_
      refine st_iload_n hc dX11_left_22 rfl rfl ?_
      refine st_ialdN (k := nat i) hc dX11_left_23 rfl ((nI_nat h1).symm) (by omega) (by first | decide | omega) ((l3 (nat i) h12).1) ?_
      refine st_goto (tgt := 28) hc dX11_left_24 (by decide) ?_
      refine st_iret (st := []) hc dX11_left_28 rfl ?_
      rw [e]
      exact ⟨rfl, h.t⟩
theorem C11_falses {k : Nat} {σ μ : St} (h : Rel k σ μ) (b : Int32) : Mt YC mX11_falses 70 [.ref 0, .int b] σ (fun r τ => r = some (.int (sp_falses μ b).1) ∧ Rel (k + 1) τ (sp_falses μ b).2) := by
  obtain ⟨-, ⟨f1, f2, f3, -⟩, ⟨g1, g2, g3⟩, -⟩ := h.f
  obtain ⟨-, -, -, -, hA⟩ := h.A
  refine Mt.ofA [some (.ref 0), some (.int b)] (by decide) (fun _ => Nat.le_of_ble_eq_true rfl) (fun _ => rfl) (fun g hc => ?_)
  refine st_aload_n hc dX11_falses_0 rfl rfl ?_
  refine st_getr hc dX11_falses_1 flX11_12 rfl rfl ?_
  refine st_iload_n hc dX11_falses_4 rfl rfl ?_
  refine st_callVp hc dX11_falses_5 (C0_has 60 σ g3 f2 b) mvX11_128 (by omega) rfl rfl rfl (Nat.le_of_ble_eq_true rfl) ?_
  refine st_if_eq (tgt := 26) hc dX11_falses_8 (by decide) (fun h8 => ?_) (fun h8 => ?_)
  · have e : sp_falses μ b = (-1, t0 μ) := if_neg (of_decide_eq_false (bI_0.mp h8))
    refine st_iconst (v := (-1)) hc dX11_falses_26 (by decide) ?_
    refine st_iret (st := []) hc dX11_falses_27 rfl ?_
    rw [e]
    exact ⟨rfl, h.t⟩
  · have q2 := of_decide_eq_true (bI_t h8)
    have e : sp_falses μ b = (nI (pc32 (fbN μ (nat b))), t0 μ) := by rw [pc_ones (fbN_lt f3 _)]; exact if_pos q2
    refine st_aload_n hc dX11_falses_11 rfl rfl ?_
    refine st_getr hc dX11_falses_12 flX11_21 rfl rfl ?_
    refine st_getr hc dX11_falses_15 flX11_236 rfl rfl ?_
    refine st_iload_n hc dX11_falses_18 rfl rfl ?_
    refine st_ialdN (k := nat b) hc dX11_falses_19 rfl ((nI_nat q2.1).symm) (by omega) (by first | decide | omega) ((hA (nat b) q2.2).2.1) ?_
    refine st_callSp hc dX11_falses_20 (CJ_bitCount YC 60 σ _ (Nat.lt_trans (fbN_lt f3 _) (by decide))) msX11_218 (by omega) rfl rfl (Nat.le_of_ble_eq_true rfl) ?_
    refine st_goto (tgt := 27) hc dX11_falses_23 (by decide) ?_
    refine st_iret (st := []) hc dX11_falses_27 rfl ?_
    rw [e]
    exact ⟨rfl, h.t⟩
theorem C11_memberOf (d : Nat) (σ : St) {S : Nat} (hS : S < 1024) (i : Int32) : Mt YC mX11_memberOf d [.int (nI S), .int i] σ (fun r τ => r = some (.int (if 0 ≤ i ∧ nat i < cnt 10 (fun t => S.testBit t) then nI (nthT 10 (fun t => S.testBit t) (nat i)) else -1)) ∧ τ = σ) := by
  refine Mt.ofA [some (.int (nI S)), some (.int i), none, none] (by decide) (fun _ => Nat.le_of_ble_eq_true rfl) (fun _ => rfl) (fun g hc => ?_)
  have k4 : (0 ≤ i → cnt 0 (fun t => S.testBit t) ≤ nat i) → aW g YC 4 (fun r τ => r = some (.int (if 0 ≤ i ∧ nat i < cnt 10 (fun t => S.testBit t) then nI (nthT 10 (fun t => S.testBit t) (nat i)) else -1)) ∧ τ = σ) 4 [some (.int (nI S)), some (.int i), some (.int (nI (cnt 0 (fun t => S.testBit t)))), some (.int (nI 0))] [] σ := by
    refine lpN (n := 10) (F := fun a => (0 ≤ i → cnt a (fun t => S.testBit t) ≤ nat i) → aW g YC 4 (fun r τ => r = some (.int (if 0 ≤ i ∧ nat i < cnt 10 (fun t => S.testBit t) then nI (nthT 10 (fun t => S.testBit t) (nat i)) else -1)) ∧ τ = σ) 4 [some (.int (nI S)), some (.int i), some (.int (nI (cnt a (fun t => S.testBit t)))), some (.int (nI a))] [] σ) (fun hz => ?_) (fun a ha ih hz => ?_)
    · refine st_iload_n hc dX11_memberOf_4 rfl rfl ?_
      refine st_bipush (v := 10) hc dX11_memberOf_5 (by decide) ?_
      refine st_icmp_ge (tgt := 34) hc dX11_memberOf_7 (by decide) (fun h7 => ?_) (fun h7 => ?_)
      · refine st_iconst (v := (-1)) hc dX11_memberOf_34 (by decide) ?_
        refine st_iret (st := []) hc dX11_memberOf_35 rfl ?_
        rw [if_neg (fun q => absurd (hz q.1) (by omega))]
        exact ⟨rfl, rfl⟩
      · exact absurd (by decide) h7
    · have hle := cnt_le a (fun t => S.testBit t)
      have hs : cnt (a + 1) (fun t => S.testBit t) = cnt a (fun t => S.testBit t) + (if S.testBit a = true then 1 else 0) := rfl
      refine st_iload_n hc dX11_memberOf_4 rfl rfl ?_
      refine st_bipush (v := 10) hc dX11_memberOf_5 (by decide) ?_
      refine st_icmp_ge (tgt := 34) hc dX11_memberOf_7 (by decide) (fun h7 => ?_) (fun h7 => ?_)
      · exact absurd h7 (nI_ge (a := a) (b := 10) ha (by decide))
      · refine st_iload_n hc dX11_memberOf_10 rfl rfl ?_
        refine st_iload_n hc dX11_memberOf_11 rfl rfl ?_
        refine st_iushr hc dX11_memberOf_12 ?_
        refine st_iconst (v := 1) hc dX11_memberOf_13 (by decide) ?_
        refine st_iand hc dX11_memberOf_14 ?_
        rw [ubit (by omega) (by omega)]
        refine st_if_eq (tgt := 28) hc dX11_memberOf_15 (by decide) (fun h15 => ?_) (fun h15 => ?_)
        · have h15 := ubit0.mp h15
          rw [h15] at hs
          simp only [Bool.false_eq_true, if_false, Nat.add_zero] at hs
          rw [hs] at ih
          refine st_inc hc dX11_memberOf_28 rfl (by decide) rfl ?_
          rw [nI_1]
          refine st_goto (tgt := 4) hc dX11_memberOf_31 (by decide) ?_
          first
           | exact ih hz
           | (refine ih (fun q => ?_)
              have h3 := hz q
              rcases Nat.lt_or_ge (cnt a (fun t => S.testBit t)) (nat i) with z | z
              · omega
              · exact absurd (by rw [show cnt a (fun t => S.testBit t) = nat i by omega, nI_nat q]) h20)
        · have h15 : S.testBit a = true := by
            rcases hz : S.testBit a with _ | _
            · exact absurd (ubit0.mpr hz) h15
            · rfl
          rw [h15] at hs
          simp only [if_true] at hs
          rw [hs] at ih
          refine st_iload_n hc dX11_memberOf_18 rfl rfl ?_
          refine st_iload_n hc dX11_memberOf_19 rfl rfl ?_
          refine st_icmp_ne (tgt := 25) hc dX11_memberOf_20 (by decide) (fun h20 => ?_) (fun h20 => ?_)
          · refine st_inc hc dX11_memberOf_25 rfl (by decide) rfl ?_
            rw [nI_1]
            refine st_inc hc dX11_memberOf_28 rfl (by decide) rfl ?_
            rw [nI_1]
            refine st_goto (tgt := 4) hc dX11_memberOf_31 (by decide) ?_
            first
             | exact ih hz
             | (refine ih (fun q => ?_)
                have h3 := hz q
                rcases Nat.lt_or_ge (cnt a (fun t => S.testBit t)) (nat i) with z | z
                · omega
                · exact absurd (by rw [show cnt a (fun t => S.testBit t) = nat i by omega, nI_nat q]) h20)
          · have h20 : i = nI (cnt a (fun t => S.testBit t)) := h20.symm
            have hn : nat i = cnt a (fun t => S.testBit t) := by rw [h20, nat_nI (by omega)]
            have h0 : 0 ≤ i := by rw [h20]; exact Int32.not_lt.mp (nI_pos (by omega))
            have hlt := cnt_lt (p := fun t => S.testBit t) (i := a) (j := 10) ha h15
            refine st_iload_n hc dX11_memberOf_23 rfl rfl ?_
            refine st_iret (st := []) hc dX11_memberOf_24 rfl ?_
            rw [if_pos ⟨h0, by rw [hn]; exact hlt⟩, nthT_eq ha h15 hn.symm]
            exact ⟨rfl, rfl⟩
  refine st_iconst (v := 0) hc dX11_memberOf_0 (by decide) ?_
  refine st_istore_n hc dX11_memberOf_1 rfl (by decide) rfl ?_
  refine st_iconst (v := 0) hc dX11_memberOf_2 (by decide) ?_
  refine st_istore_n hc dX11_memberOf_3 rfl (by decide) rfl ?_
  exact k4 (fun _ => Nat.zero_le _)
theorem C11_quarrel {k : Nat} {σ μ : St} (h : Rel k σ μ) (i : Int32) : Mt YC mX11_quarrel 70 [.ref 0, .int i] σ (fun r τ => r = some (.int (sp_quarrel μ i).1) ∧ Rel (k + 1) τ (sp_quarrel μ i).2) := by
  have hQ := h.1.2.2.2.1
  have hR : Rel (k + 1) σ (sp_quarrel μ i).2 := h.t
  refine Mt.ofA [some (.ref 0), some (.int i)] (by decide) (fun _ => Nat.le_of_ble_eq_true rfl) (fun _ => rfl) (fun g hc => ?_)
  rcases hQ with ⟨q1, q2⟩ | ⟨S, s1, s2, s3, s4⟩
  · refine st_aload_n hc dX11_quarrel_0 rfl rfl ?_
    refine st_getr hc dX11_quarrel_1 flX11_21 rfl rfl ?_
    refine st_getE hc dX11_quarrel_4 flX11_215 rfl rfl (q1) ?_
    refine st_iconst (v := (-1)) hc dX11_quarrel_7 (by decide) ?_
    refine st_icmp_ne (tgt := 13) hc dX11_quarrel_8 (by decide) (fun h8 => ?_) (fun h8 => ?_)
    · exact absurd rfl h8
    · refine st_iconst (v := (-1)) hc dX11_quarrel_11 (by decide) ?_
      refine st_iret (st := []) hc dX11_quarrel_12 rfl ?_
      refine ⟨?_, hR⟩
      unfold sp_quarrel
      rw [q2]
      rfl
  · have hcl := cnt_le 10 (fun t => S.testBit t)
    have hpo : pc32 S = cnt 10 (fun t => S.testBit t) := by
      unfold pc32
      rw [show (32 : Nat) = 10 + 22 from rfl, cnt_add, cnt_zero (p := fun k => S.testBit (10 + k)) (fun k _ => Nat.testBit_lt_two_pow (Nat.lt_of_lt_of_le s1 (show 2 ^ 10 ≤ 2 ^ (10 + k) from Nat.pow_le_pow_right (by decide) (by omega)))), Nat.add_zero]
    have hnn : nat (μ 0 13) = cnt 10 (fun t => S.testBit t) := by rw [s3, nat_nI (by omega)]
    have h0 : ¬ μ 0 13 < 0 := by rw [s3]; exact nI_pos (by omega)
    refine st_aload_n hc dX11_quarrel_0 rfl rfl ?_
    refine st_getr hc dX11_quarrel_1 flX11_21 rfl rfl ?_
    refine st_getE hc dX11_quarrel_4 flX11_215 rfl rfl (s2) ?_
    refine st_iconst (v := (-1)) hc dX11_quarrel_7 (by decide) ?_
    refine st_icmp_ne (tgt := 13) hc dX11_quarrel_8 (by decide) (fun h8 => ?_) (fun h8 => ?_)
    · refine st_iload_n hc dX11_quarrel_13 rfl rfl ?_
      refine st_iconst (v := (-1)) hc dX11_quarrel_14 (by decide) ?_
      refine st_icmp_ne (tgt := 31) hc dX11_quarrel_15 (by decide) (fun h15 => ?_) (fun h15 => ?_)
      · refine st_aload_n hc dX11_quarrel_31 rfl rfl ?_
        refine st_getr hc dX11_quarrel_32 flX11_21 rfl rfl ?_
        refine st_getE hc dX11_quarrel_35 flX11_215 rfl rfl (s2) ?_
        refine st_iload_n hc dX11_quarrel_38 rfl rfl ?_
        refine st_callSp hc dX11_quarrel_39 (C11_memberOf 60 σ s1 i) msX11_223 (by omega) rfl rfl (Nat.le_of_ble_eq_true rfl) ?_
        refine st_iret (st := []) hc dX11_quarrel_42 rfl ?_
        refine ⟨?_, hR⟩
        unfold sp_quarrel
        rw [if_neg h0]
        first
         | (rw [if_pos h15, s3, hpo]; done)
         | (rw [if_neg h15, hnn]
            by_cases q : 0 ≤ i ∧ nat i < cnt 10 (fun t => S.testBit t)
            · rw [if_pos q, if_pos q, s4 _ q.2]
            · rw [if_neg q, if_neg q])
      · refine st_aload_n hc dX11_quarrel_18 rfl rfl ?_
        refine st_getr hc dX11_quarrel_19 flX11_21 rfl rfl ?_
        refine st_getE hc dX11_quarrel_22 flX11_215 rfl rfl (s2) ?_
        refine st_callSp hc dX11_quarrel_25 (CJ_bitCount YC 60 σ S (by omega)) msX11_218 (by omega) rfl rfl (Nat.le_of_ble_eq_true rfl) ?_
        refine st_goto (tgt := 42) hc dX11_quarrel_28 (by decide) ?_
        refine st_iret (st := []) hc dX11_quarrel_42 rfl ?_
        refine ⟨?_, hR⟩
        unfold sp_quarrel
        rw [if_neg h0]
        first
         | (rw [if_pos h15, s3, hpo]; done)
         | (rw [if_neg h15, hnn]
            by_cases q : 0 ≤ i ∧ nat i < cnt 10 (fun t => S.testBit t)
            · rw [if_pos q, if_pos q, s4 _ q.2]
            · rw [if_neg q, if_neg q])
    · exact absurd h8.symm (nI_neg1 (by omega))

