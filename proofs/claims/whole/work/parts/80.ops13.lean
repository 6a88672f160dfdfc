/-! ===== calls of the class: shelves ===== -/
theorem C11_isShelf (d : Nat) (σ : St) (p : Int32) : Mt YC mX11_isShelf d [.int p] σ (fun r τ => r = some (.int (bI (decide (0 ≤ p ∧ p ≤ 5)))) ∧ τ = σ) := by
  have hpm : p ≤ 5 ↔ p < 6 := lt_pm (x := p) (n := 6) (by decide) (by decide)
  refine Mt.ofA [some (.int p)] (by decide) (fun _ => Nat.le_of_ble_eq_true rfl) (fun _ => rfl) (fun g hc => ?_)
  refine st_iload_n hc dX11_isShelf_0 rfl rfl ?_
  refine st_if_lt (tgt := 14) hc dX11_isShelf_1 (by decide) (fun h1 => ?_) (fun h1 => ?_)
  · have e : decide (0 ≤ p ∧ p ≤ 5) = false := decide_eq_false (fun q => absurd h1 (Int32.not_lt.mpr q.1))
    refine st_iconst (v := 0) hc dX11_isShelf_14 (by decide) ?_
    refine st_zret (st := []) hc dX11_isShelf_15 rfl (by first | exact Or.inl rfl | exact Or.inr rfl | (split <;> simp)) ?_
    refine ⟨?_, rfl⟩
    first
     | (rw [e]; rfl)
     | (by_cases q : p < 6
        · rw [decide_eq_true ⟨h1, hpm.mpr q⟩, if_neg (Int32.not_le.mpr q)]; rfl
        · rw [decide_eq_false (fun z => q (hpm.mp z.2)), if_pos (Int32.not_lt.mp q)]; rfl)
  · have h1 := Int32.not_lt.mp h1
    refine st_iload_n hc dX11_isShelf_4 rfl rfl ?_
    refine st_bipush (v := 6) hc dX11_isShelf_5 (by decide) ?_
    refine st_t_icmp_ge (a := 1) (b := 0) hc dX11_isShelf_7 dX11_isShelf_10 dX11_isShelf_11 dX11_isShelf_14 (by decide) (by decide) ?_
    refine st_zret (st := []) hc dX11_isShelf_15 rfl (by first | exact Or.inl rfl | exact Or.inr rfl | (split <;> simp)) ?_
    refine ⟨?_, rfl⟩
    first
     | (rw [e]; rfl)
     | (by_cases q : p < 6
        · rw [decide_eq_true ⟨h1, hpm.mpr q⟩, if_neg (Int32.not_le.mpr q)]; rfl
        · rw [decide_eq_false (fun z => q (hpm.mp z.2)), if_pos (Int32.not_lt.mp q)]; rfl)
theorem sh_q {d : Nat} (h : d < 6) : ([62, 64, 66, 68, 70, 72] : List Nat)[d]? = some (62 + 2 * d) := by
  rcases (show d = 0 ∨ d = 1 ∨ d = 2 ∨ d = 3 ∨ d = 4 ∨ d = 5 by omega) with rfl | rfl | rfl | rfl | rfl | rfl <;> rfl
/-- the shelves of both sides change -/
theorem Rel.sv {k : Nat} {σ τ μ ν : St} (h : Rel k σ μ) (e : ∀ a, ¬ (62 ≤ a ∧ a ≤ 73) → τ a = σ a) (f : ∀ a b, ¬ (34 ≤ a ∧ a ≤ 37) → ¬ (a = 0 ∧ b = 15) → ν a b = μ a b) (ho : shOK ν) (hV : rlV τ ν) : Rel (k + 1) τ ν := by
  obtain ⟨⟨⟨m1, m2, m3, m4, m5, m6⟩, hb, hP, hQ, hH, hS, hF, hT, hR, -⟩, hN⟩ := h
  have c : ∀ a, ¬ (34 ≤ a ∧ a ≤ 37) → ¬ a = 0 → ν a = μ a := fun a h1 h0 => funext (fun b => f a b h1 (fun q => h0 q.1))
  have z : ∀ i, ¬ i = 15 → ν 0 i = μ 0 i := fun i hi => f 0 i (by decide) (fun q => hi q.2)
  have hmu : muP μ ν := ⟨⟨z 0 (by decide), z 1 (by decide), z 2 (by decide)⟩, z 3 (by decide), z 4 (by decide), z 5 (by decide), z 7 (by decide), z 9 (by decide), c 1 (by decide) (by decide), c 3 (by decide) (by decide), c 4 (by decide) (by decide)⟩
  refine ⟨⟨⟨kMI m1 hmu.1 (z 5 (by decide)) (z 9 (by decide)) (c 1 (by decide) (by decide)), khO m2 hmu.1 (c 2 (by decide) (by decide)), kqO m3 (z 13 (by decide)), ho, kpO m5 hmu.1 (z 43 (by decide)) (c 30 (by decide) (by decide)) (c 31 (by decide) (by decide)) (c 32 (by decide) (by decide)), knO m6 (z 33 (by decide))⟩, kB hb hmu.1 (e 1 (by decide)) (e 2 (by decide)) (e 3 (by decide)) (e 4 (by decide)), kP hP hmu (fun i _ _ => by rw [e 7 (by decide)]) (e 11 (by decide)) (e 12 (by decide)) (e 13 (by decide)) (e 14 (by decide)) (e 15 (by decide)) (e 16 (by decide)), kQ hQ (by rw [e 7 (by decide)]) (z 13 (by decide)) (c 5 (by decide) (by decide)), kH hH hmu.1 (e 17 (by decide)) (e 18 (by decide)) (c 2 (by decide) (by decide)), kS hS hmu (by rw [e 7 (by decide)]) (e 21 (by decide)), kF hF (fun a h1 h2 => e a (by omega)), kT hT (fun a h1 h2 => e a (by omega)) (z 33 (by decide)) (fun a h1 h2 => c a (by omega) (by omega)), kR hR (by rw [e 52 (by decide)]) (by rw [e 52 (by decide)]) (fun a h1 h2 => e a (by omega)) (z 43 (by decide)) (c 30 (by decide) (by decide)) (c 31 (by decide) (by decide)) (c 32 (by decide) (by decide)), hV⟩, by rw [e 0 (by decide), z 14 (by decide)]; exact hN⟩
theorem rlV_k {σ τ μ ν : St} {D : Nat} (h : rlV σ μ) (e : ∀ a, ¬ a = 62 + 2 * D → ¬ a = 63 + 2 * D → τ a = σ a) (f34 : ∀ d, ¬ d = D → ν 34 d = μ 34 d) (f35 : ∀ d, ¬ d = D → ν 35 d = μ 35 d) (f37 : ∀ d, ¬ d = D → ν 37 d = μ 37 d) (f36 : ∀ d, ¬ d = D → ∀ i, i < 60 → ν 36 (60 * d + i) = μ 36 (60 * d + i)) (hso : shOK μ) (n1 : τ (62 + 2 * D) 1 = ν 34 D) (n2 : τ (62 + 2 * D) 2 = ν 35 D) (n3 : τ (62 + 2 * D) 3 = ν 37 D) (n4 : ∀ i, i < 60 → τ (63 + 2 * D) i = ν 36 (60 * D + i)) (n5 : ∃ h, h ≤ 4 ∧ ν 34 D = nI h) (n6 : ν 34 D = 4 → (∃ s, s < 5 ∧ ν 37 D = nI s) ∧ ∀ i, i < nat (ν 35 D) → ν 36 (60 * D + i) = -1 ∨ 0 ≤ ν 36 (60 * D + i)) (n7 : ν 34 D = 2 → ∀ i, i < 60 → ¬ ν 36 (60 * D + i) = -1) : rlV τ ν := by
  intro d hd
  by_cases q : d = D
  · subst q; exact ⟨n1, n2, n3, n4, n5, n6, n7⟩
  · obtain ⟨h1, h2, h3, h4, h5, h6, h7⟩ := h d hd
    have h60 := (hso d hd).2
    rw [e _ (by omega) (by omega), e _ (by omega) (by omega), f34 d q, f35 d q, f37 d q]
    exact ⟨h1, h2, h3, fun i hi => by rw [f36 d q i hi]; exact h4 i hi, h5, fun z => ⟨(h6 z).1, fun i hi => by rw [f36 d q i (by omega)]; exact (h6 z).2 i hi⟩, fun z i hi => by rw [f36 d q i hi]; exact h7 z i hi⟩
theorem C11_clear {k : Nat} {σ μ : St} (h : Rel k σ μ) (p : Int32) : Mt YC mX11_clear 70 [.ref 0, .int p] σ (fun r τ => r = some (.int (sp_clear μ p).1) ∧ Rel (k + 1) τ (sp_clear μ p).2) := by
  have hV : rlV σ μ := h.1.2.2.2.2.2.2.2.2.2
  refine Mt.ofA [some (.ref 0), some (.int p), none] (by decide) (fun _ => Nat.le_of_ble_eq_true rfl) (fun _ => rfl) (fun g hc => ?_)
  refine st_iload_n hc dX11_clear_0 rfl rfl ?_
  refine st_callSp hc dX11_clear_1 (C11_isShelf 60 σ p) msX11_331 (by omega) rfl rfl (Nat.le_of_ble_eq_true rfl) ?_
  refine st_if_ne (tgt := 9) hc dX11_clear_4 (by decide) (fun h4 => ?_) (fun h4 => ?_)
  · have hin := of_decide_eq_true (bI_t h4)
    obtain ⟨ep, hD⟩ := sh_n hin
    have e : sp_clear μ p = (μ 34 (nat p), up (t0 μ) 34 (nat p) 0) := if_pos hin
    obtain ⟨hyo, hyc, hne, -, -⟩ := shY_d hD
    obtain ⟨v1, v2, v3, v4, v5, v6⟩ := hV (nat p) hD
    refine st_aload_n hc dX11_clear_9 rfl rfl ?_
    refine st_getr hc dX11_clear_10 flX11_81 rfl rfl ?_
    refine st_iload_n hc dX11_clear_13 rfl rfl ?_
    refine st_aaldN (k := nat p) hc dX11_clear_14 rfl (ep) (by omega) (by first | decide | omega) (sh_q hD) ?_
    refine st_getE hc dX11_clear_15 flX11_341 hyo rfl (v1) ?_
    refine st_istore_n hc dX11_clear_18 rfl (by decide) rfl ?_
    refine st_aload_n hc dX11_clear_19 rfl rfl ?_
    refine st_getr hc dX11_clear_20 flX11_81 rfl rfl ?_
    refine st_iload_n hc dX11_clear_23 rfl rfl ?_
    refine st_aaldN (k := nat p) hc dX11_clear_24 rfl (ep) (by omega) (by first | decide | omega) (sh_q hD) ?_
    refine st_iconst (v := 0) hc dX11_clear_25 (by decide) ?_
    refine st_put hc dX11_clear_26 fpX11_341 hyo rfl  ?_
    refine st_iload_n hc dX11_clear_29 rfl rfl ?_
    refine st_iret (st := []) hc dX11_clear_30 rfl ?_
    rw [e]
    refine ⟨rfl, ?_⟩
    show Rel (k + 1) _ (up (up μ 0 15 0) 34 (nat p) 0)
    refine h.sv (fun a ha => up_o a (by omega)) (fun a b ha hb => ?_) (fun d hd => ?_) (rlV_k (D := nat p) hV (fun a h1 h2 => up_o a h1) (fun d hd => ?_) (fun d hd => ?_) (fun d hd => ?_) (fun d hd i hi => ?_) h.1.1.2.2.2.1 ?_ ?_ ?_ (fun i hi => ?_) ?_ (fun q => ?_) (fun q => ?_))
    · rw [up_o a (by omega), up_eq, if_neg hb]
    · rw [up_o 35 (by decide), up_o 35 (by decide)]; exact h.1.1.2.2.2.1 d hd
    · rw [up_eq, if_neg (fun q => hd q.2), up_o 34 (by decide)]
    · rw [up_o 35 (by decide), up_o 35 (by decide)]
    · rw [up_o 37 (by decide), up_o 37 (by decide)]
    · rw [up_o 36 (by decide), up_o 36 (by decide)]
    · simp [up_eq]
    · rw [up_o 35 (by decide), up_o 35 (by decide), up_eq, if_neg (by omega)]; exact v2
    · rw [up_o 37 (by decide), up_o 37 (by decide), up_eq, if_neg (by omega)]; exact v3
    · rw [up_o 36 (by decide), up_o 36 (by decide), up_o _ (by omega)]; exact v4 i hi
    · exact ⟨0, by decide, by simp [up_eq]; rfl⟩
    · exfalso; simp [up_eq] at q
    · exfalso; simp [up_eq] at q
  · have e : sp_clear μ p = (-1, t0 μ) := if_neg (of_decide_eq_false (bI_0.mp h4))
    refine st_iconst (v := (-1)) hc dX11_clear_7 (by decide) ?_
    refine st_iret (st := []) hc dX11_clear_8 rfl ?_
    rw [e]
    exact ⟨rfl, h.t⟩

