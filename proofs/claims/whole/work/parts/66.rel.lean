/-! ===== plant; trees by the cut row; the relation of class and reference ===== -/
theorem C1_plant {b R SL : Nat} (hY : frY b R SL) {P C n x : Nat} {L : Nat → Nat} {any : Bool} {E : Ent} (hx : x ≤ 20) (σ : St) (hS : frS σ b R P C n L any E) {q : Nat × Nat} (hq : ms (tdC P C n L any) (bdN n x) (2 ^ n - 1) = some q) : Mt YC mX1_plant 61 [.ref b, .ref 46, .int (nI x)] σ (fun r τ => r = none ∧ (∀ a, ¬ (a = b + 9 ∨ (46 ≤ a ∧ a ≤ 51)) → τ a = σ a) ∧ frS τ b R P C n L any E ∧ (runT (tdC P C n L any) (if 10 < x then 0 else x) 20 [(2 ^ n - 1, -1, -1, 1)] 0).length ≤ 20 ∧ tnR τ (runT (tdC P C n L any) (if 10 < x then 0 else x) 20 [(2 ^ n - 1, -1, -1, 1)] 0)) := by
  obtain ⟨y0, y1, y2, y3, y4, y5, y6, y7, y8, y9, yR, -, yb1, yb2⟩ := id hY
  have ht := hS.2.1.1
  have h1 : 1 ≤ n := ht.2.1
  have h10 : n ≤ 10 := ht.1.1
  obtain ⟨a1, a2⟩ := all_pos h1
  have hoa : ones (2 ^ n - 1) = n := ones_all h10
  obtain ⟨b1, b2⟩ := bd_ok (x := x) h1 h10
  have hE0 : ∀ e, e ≤ 45 → up σ 46 5 0 e = σ e := fun e he => up_o e (by omega)
  have hS1 : frS (up σ 46 5 0) b R P C n L any E := hS.eq yb1 yb2 hE0
  have hw10 : (if 10 < x then 0 else x) ≤ 10 := by split <;> omega
  have hdR : dR (if 10 < x then 0 else x) 1 (bdN n x) (2 ^ n - 1) := by
    unfold dR lev bdN
    rw [hoa]
    by_cases e1 : 10 < x
    · rw [if_pos e1, if_pos rfl, if_pos (Or.inr (by omega))]; exact Or.inr ⟨Nat.le_refl _, Or.inl rfl⟩
    · rw [if_neg e1]
      by_cases e2 : x = 0
      · rw [if_pos e2, if_pos (Or.inl e2)]; exact Or.inr ⟨Nat.le_refl _, Or.inl rfl⟩
      · rw [if_neg e2]
        by_cases e3 : n < x
        · rw [if_pos (Or.inr e3)]; exact Or.inr ⟨Nat.le_refl _, Or.inr (by omega)⟩
        · rw [if_neg (fun z => by omega)]; exact Or.inl (by omega)
  have hit : itOK (tdC P C n L any) (if 10 < x then 0 else x) (2 ^ n - 1, -1, -1, 1) := by
    refine ⟨a1, a2, ⟨q, ?_⟩, Nat.le_refl 1, (by show (1 : Nat) ≤ 30; decide), ?_⟩
    · show ms _ (lev _ 1) (2 ^ n - 1) = _
      rw [dR_ms ht.1 b1 a1 a2 hdR]; exact hq
    · show (if 10 < x then 0 else x) = 0 ∨ 1 ≤ (if 10 < x then 0 else x)
      split <;> omega
  have hgr := C1_grow hY hw10 11 (2 ^ n - 1) (bdN n x) 1 (-1) (-1) [] (up σ 46 5 0) a1 a2 (by rw [hoa]; omega) b1 b2 hdR hit (by rw [hoa]; omega) (by rw [hoa]; show 0 + _ ≤ 20; omega) (Or.inl ⟨by decide, rfl⟩) hS1 ⟨by simp [up_eq, nI_0], fun k y hy => by simp at hy⟩
  refine Mt.ofA [some (.ref b), some (.ref 46), some (.int (nI x))] (by decide) (fun _ => Nat.le_of_ble_eq_true rfl) (fun _ => rfl) (fun g hc => ?_)
  refine st_aload_n hc dX1_plant_0 rfl rfl ?_
  refine st_iconst (v := 0) hc dX1_plant_1 (by decide) ?_
  refine st_put hc dX1_plant_2 fpX1_157 rfl rfl  ?_
  refine st_aload_n hc dX1_plant_5 rfl rfl ?_
  refine st_aload_n hc dX1_plant_6 rfl rfl ?_
  refine st_aload_n hc dX1_plant_7 rfl rfl ?_
  refine st_callVp hc dX1_plant_8 (C1_allMembers 1 _ hY hS1.2.1.2.1.2.1 h10) mvX1_123 (by omega) rfl y0 rfl (Nat.le_of_ble_eq_true rfl) ?_
  refine st_aload_n hc dX1_plant_11 rfl rfl ?_
  refine st_iload_n hc dX1_plant_12 rfl rfl ?_
  refine st_callVp hc dX1_plant_13 (C1_bounded 1 _ hY hS1.2.1.2.1.2.1 h10 hx) mvX1_126 (by omega) rfl y0 rfl (Nat.le_of_ble_eq_true rfl) ?_
  refine st_iconst (v := (-1)) hc dX1_plant_16 (by decide) ?_
  refine st_iconst (v := (-1)) hc dX1_plant_17 (by decide) ?_
  refine st_callVn hc dX1_plant_18 (hgr) mvX1_162 (by omega) rfl y0 rfl (Nat.le_of_ble_eq_true rfl) ?_
  rintro τ1 ⟨f1, f2, X, f3, f4, f5⟩
  refine st_vret (st := []) hc dX1_plant_21 rfl ?_
  have f4 : X.length ≤ 2 * ones (2 ^ n - 1) - 1 := f4
  rw [hoa] at f4
  have hrun := f5 [] 20 (by omega)
  have hX : runT (tdC P C n L any) (if 10 < x then 0 else x) 20 [(2 ^ n - 1, -1, -1, 1)] 0 = X := by
    refine Eq.trans hrun ?_
    have : ∀ F c, runT (tdC P C n L any) (if 10 < x then 0 else x) F [] c = [] := fun F c => by cases F <;> rfl
    rw [this, List.append_nil]
  rw [hX]
  exact ⟨rfl, fun a ha => by rw [f1 a ha, up_o a (by omega)], f2, by omega, f3⟩
/-! two rows of data that agree on the members -/
def tdE (t u : TD) : Prop := tn u = tn t ∧ tN2 u = tN2 t ∧ tfu u = tfu t ∧ tpo u = tpo t ∧ (∀ g k, k < tn t → tA u g k = tA t g k) ∧ ∀ k, k < tn t → tL u k = tL t k
theorem pA_c {t u : TD} (h : tdE t u) (g s a : Nat) : pA u g s a = pA t g s a := by
  obtain ⟨h1, h2, h3, h4, h5, h6⟩ := h
  unfold pA
  rw [h3, h1]
  congr 1
  exact fbits_congr (fun k hk => by show (s.testBit k && tA u g k == a) = _; rw [h5 g k hk]; rfl)
theorem cand_c {t u : TD} (h : tdE t u) (g s : Nat) : cand u g s = cand t g s := by
  have e1 : npt u g s = npt t g s := cnt_congr (n := 60) (p := fun a => decide (¬ pA u g s a = 0)) (q := fun a => decide (¬ pA t g s a = 0)) (fun a _ => by rw [pA_c h])
  obtain ⟨h1, h2, h3, h4, h5, h6⟩ := h
  have anyc : ∀ (n : Nat) (p q : Nat → Bool), (∀ k, k < n → p k = q k) → anyN n p = anyN n q := fun n => by
    induction n with
    | zero => intro p q _; rfl
    | succ n ih => intro p q hh; rw [anyN_s, anyN_s, ih p q (fun k hk => hh k (by omega)), hh n (by omega)]
  have e2 : hasFu u g s = hasFu t g s := by
    unfold hasFu
    rw [h1, h3]
    exact anyc _ _ _ (fun k hk => by show (s.testBit k && tA u g k == tfu t) = _; rw [h5 g k hk]; rfl)
  have e3 : inS (tn u) (tL u) s g = inS (tn t) (tL t) s g := by
    unfold inS
    rw [h1]
    exact anyc _ _ _ (fun k hk => by rw [h6 k hk])
  unfold cand
  rw [e1, e2, e3, h4]
theorem msT_c {t u : TD} (h : tdE t u) : ∀ f, msT u f = msT t f := by
  intro f
  induction f with
  | zero => rfl
  | succ f ih =>
    funext d s
    show bstO (msC u (msT u f) d s) (tN2 u) = bstO (msC t (msT t f) d s) (tN2 t)
    rw [h.2.1]
    refine bstO_congr _ (fun g _ => ?_)
    unfold msC
    rw [cand_c h, ih]
    congr 2
    exact sumO_congr 60 (fun a _ => by rw [pA_c h])
theorem ms_c {t u : TD} (h : tdE t u) (d s : Nat) : ms u d s = ms t d s := by show msT u 1024 d s = msT t 1024 d s; rw [msT_c h]
theorem mdT_c {t u : TD} (h : tdE t u) : ∀ f, mdT u f = mdT t f := by
  intro f
  induction f with
  | zero => rfl
  | succ f ih =>
    funext s
    show bstO (mdC u (mdT u f) s) (tN2 u) = bstO (mdC t (mdT t f) s) (tN2 t)
    rw [h.2.1]
    refine bstO_congr _ (fun g _ => ?_)
    unfold mdC
    rw [cand_c h, ih]
    congr 2
    exact maxO_congr 60 (fun a _ => by rw [pA_c h])
theorem md_c {t u : TD} (h : tdE t u) (s : Nat) : md u s = md t s := by show mdT u 1024 s = mdT t 1024 s; rw [mdT_c h]
theorem kdF_c {t u : TD} (h : tdE t u) (g s c dp : Nat) : ∀ j, kdF u g s c dp j = kdF t g s c dp j := by
  intro j
  induction j with
  | zero => rfl
  | succ j ih => unfold kdF; rw [pA_c h, ih]
theorem runT_c {t u : TD} (h : tdE t u) (w : Nat) : ∀ f st c, runT u w f st c = runT t w f st c := by
  have hb : ∀ d s, bg u d s = bg t d s := fun d s => by unfold bg; rw [ms_c h]
  intro f
  induction f with
  | zero => intro st c; cases st <;> rfl
  | succ f ih =>
    intro st c
    cases st with
    | nil => rfl
    | cons i r =>
      show ndO u w i :: runT u w f (kdF u (bg u (lev w i.2.2.2) i.1) i.1 c i.2.2.2 60 ++ r) (c + 1) = _
      rw [ih, hb, kdF_c h]
      unfold ndO
      rw [hb]
      rfl
/-! ===== the relation ===== -/
abbrev okN (μ : St) : Nat → Bool := okM μ (pN μ) (cN μ)
abbrev fbN (μ : St) : Nat → Nat := fbM μ (pN μ) (cN μ) (tN μ)
def rlP (σ μ : St) : Prop := σ 7 8 = μ 0 3 ∧ σ 7 9 = μ 0 4 ∧ σ 7 10 = μ 0 5 ∧ σ 7 11 = μ 0 7 ∧ σ 7 12 = nI (cnt (nN μ) (okN μ)) ∧ σ 7 13 = nI (lm μ) ∧ σ 7 14 = μ 0 9 ∧ (∀ c, c < nN μ → σ 13 c = μ 1 c ∧ σ 14 c = bI (okN μ c) ∧ σ 15 c = nI (fbN μ c)) ∧ (∀ k, k < lm μ → σ 16 k = nI (lth μ k)) ∧ (∀ t, t < tN μ → σ 12 t = μ 4 t ∧ ∀ i, i < pN μ → σ 11 (5 * t + i) = μ 3 (5 * t + i)) ∧ (∃ lw, lw < 4 ∧ μ 0 3 = nI lw) ∧ ∃ m, m ≤ 300 ∧ μ 0 7 = nI m
def rlQ (σ μ : St) : Prop := (σ 7 15 = -1 ∧ μ 0 13 = -1) ∨ ∃ S, S < 1024 ∧ σ 7 15 = nI S ∧ μ 0 13 = nI (cnt 10 (fun t => S.testBit t)) ∧ ∀ j, j < cnt 10 (fun t => S.testBit t) → μ 5 j = nI (nthT 10 (fun t => S.testBit t) j)
def rlH (σ μ : St) : Prop := (∀ i, i < pN μ → σ 18 i = μ 2 i) ∧ σ 17 1 = nI (spotsN (pN μ) (cN μ) (μ 2)) ∧ σ 17 2 = nI (sharesN (pN μ) (cN μ) (μ 2))
def rlS (k : Nat) (σ μ : St) : Prop := ∃ x, σ 7 16 = nI x ∧ x ≤ k + 2 ∧ (σ 21 4 = -1 ∨ ∃ y, y ≤ x ∧ σ 21 4 = nI y ∧ (y = x → svF σ (nN μ) (grC (pN μ) (cN μ) (lm μ) (lth μ)) (naC (pN μ) (cN μ) (lm μ) (lth μ))))
def rlF (σ : St) : Prop := frV σ 26 1296 true ∧ frV σ 36 10 false
def rlT (σ μ : St) : Prop := σ 46 5 = μ 0 33 ∧ nat (μ 0 33) ≤ 20 ∧ ∀ k, k < nat (μ 0 33) → σ 47 k = μ 21 k ∧ σ 48 k = μ 22 k ∧ σ 49 k = μ 23 k ∧ σ 50 k = μ 24 k ∧ σ 51 k = μ 25 k
def rlV (σ μ : St) : Prop := ∀ d, d < 6 → σ (62 + 2 * d) 1 = μ 34 d ∧ σ (62 + 2 * d) 2 = μ 35 d ∧ σ (62 + 2 * d) 3 = μ 37 d ∧ (∀ i, i < 60 → σ (63 + 2 * d) i = μ 36 (60 * d + i)) ∧ (∃ h, h ≤ 4 ∧ μ 34 d = nI h) ∧ (μ 34 d = 4 → (∃ s, s < 5 ∧ μ 37 d = nI s) ∧ ∀ i, i < nat (μ 35 d) → μ 36 (60 * d + i) = -1 ∨ 0 ≤ μ 36 (60 * d + i)) ∧ (μ 34 d = 2 → ∀ i, i < 60 → ¬ μ 36 (60 * d + i) = -1)
def rlM (μ : St) : Prop := MI μ ∧ hOK μ ∧ qOK μ ∧ shOK μ ∧ plOK μ ∧ ndOK μ
def RelC (k : Nat) (σ μ : St) : Prop := rlM μ ∧ bkI σ (pN μ) (cN μ) ∧ rlP σ μ ∧ rlQ σ μ ∧ rlH σ μ ∧ rlS k σ μ ∧ rlF σ ∧ rlT σ μ ∧ plR σ μ ∧ rlV σ μ
def Rel (k : Nat) (σ μ : St) : Prop := RelC k σ μ ∧ σ 0 11 = μ 0 14
/-- stores of the reference that are alike in what the relation speaks of -/
def mE (μ ν : St) : Prop := (∀ a, ¬ a = 0 → perM a 0 = true → ν a = μ a) ∧ ∀ i, i ∈ [0, 1, 2, 3, 4, 5, 7, 9, 13, 33, 43] → ν 0 i = μ 0 i
theorem mE.of {μ ν : St} (h : sE μ ν) : mE μ ν := by
  refine ⟨fun a h0 hp => h.c a h0 hp, fun i hi => h 0 i ?_⟩
  simp only [List.mem_cons, List.not_mem_nil, or_false] at hi
  rcases hi with rfl | rfl | rfl | rfl | rfl | rfl | rfl | rfl | rfl | rfl | rfl <;> rfl
theorem mE.t0 (μ : St) : mE μ (t0 μ) := by
  refine ⟨fun a h0 _ => up_o a h0, fun i hi => ?_⟩
  simp only [List.mem_cons, List.not_mem_nil, or_false] at hi
  rcases hi with rfl | rfl | rfl | rfl | rfl | rfl | rfl | rfl | rfl | rfl | rfl <;> simp [up_eq]
theorem mE_l {μ ν : St} (h : mE μ ν) : mLs ν = mLs μ ∧ lm ν = lm μ ∧ lth ν = lth μ := by
  have e : mLs ν = mLs μ := by
    unfold mLs mL pN cN tN liN
    rw [h.2 0 (by simp), h.2 1 (by simp), h.2 3 (by simp), h.2 4 (by simp), h.2 5 (by simp), h.2 9 (by simp), h.1 1 (by decide) rfl, h.1 3 (by decide) rfl, h.1 4 (by decide) rfl]
  refine ⟨e, ?_, ?_⟩
  · show cnt (nat (ν 0 2)) (mLs ν) = cnt (nat (μ 0 2)) (mLs μ); rw [e, h.2 2 (by simp)]
  · funext k; show nthT (nat (ν 0 2)) (mLs ν) k = nthT (nat (μ 0 2)) (mLs μ) k; rw [e, h.2 2 (by simp)]
theorem dpt_c {μ ν : St} (h : ν 30 = μ 30) : ∀ f n, dpt ν f n = dpt μ f n := by
  intro f
  induction f with
  | zero => intro n; rfl
  | succ f ih =>
    intro n
    show (if n = 0 then 1 else dpt ν f (pf ν n) + 1) = (if n = 0 then 1 else dpt μ f (pf μ n) + 1)
    rw [ih, show pf ν n = pf μ n by unfold pf; rw [h]]
theorem RelC.mE {k : Nat} {σ μ ν : St} (h : RelC k σ μ) (e : mE μ ν) : RelC k σ ν := by
  obtain ⟨l1, l2, l3⟩ := mE_l e
  obtain ⟨⟨m1, m2, m3, m4, m5, m6⟩, hb, hP, hQ, hH, hS, hF, hT, hR, hV⟩ := h
  have e0 := e.2 0 (by simp)
  have e1 := e.2 1 (by simp)
  have e2 := e.2 2 (by simp)
  have e3 := e.2 3 (by simp)
  have e4 := e.2 4 (by simp)
  have e5 := e.2 5 (by simp)
  have e7 := e.2 7 (by simp)
  have e9 := e.2 9 (by simp)
  have e13 := e.2 13 (by simp)
  have e33 := e.2 33 (by simp)
  have e43 := e.2 43 (by simp)
  have c := fun a h0 hp => e.1 a h0 hp
  have c1 := c 1 (by decide) rfl
  have c2 := c 2 (by decide) rfl
  have c3 := c 3 (by decide) rfl
  have c4 := c 4 (by decide) rfl
  have c5 := c 5 (by decide) rfl
  have c21 := c 21 (by decide) rfl
  have c22 := c 22 (by decide) rfl
  have c23 := c 23 (by decide) rfl
  have c24 := c 24 (by decide) rfl
  have c25 := c 25 (by decide) rfl
  have c30 := c 30 (by decide) rfl
  have c31 := c 31 (by decide) rfl
  have c32 := c 32 (by decide) rfl
  have c34 := c 34 (by decide) rfl
  have c35 := c 35 (by decide) rfl
  have c36 := c 36 (by decide) rfl
  have c37 := c 37 (by decide) rfl
  refine ⟨⟨?_, ?_, ?_, ?_, ?_, ?_⟩, ?_, ?_, ?_, ?_, ?_, hF, ?_, ?_, ?_⟩
  · unfold MI mOK mPC pN cN nN tN liN at *; rw [e0, e1, e2, e5, e9, c1]; exact m1
  · unfold hOK pN cN at *; rw [e0, e1, c2]; exact m2
  · unfold qOK at *; rw [e13]; exact m3
  · unfold shOK at *; rw [c35]; exact m4
  · unfold plOK at *; unfold pg pf plN nN pN at *; rw [e43, e2, e0, c30, c31, c32]; exact m5
  · unfold ndOK at *; rw [e33]; exact m6
  · unfold pN cN; rw [e0, e1]; exact hb
  · unfold rlP at *
    rw [l2, l3]
    unfold okN fbN okM fbM pN cN nN tN at *
    rw [e0, e1, e2, e3, e4, e5, e7, e9, c1, c3, c4]
    exact hP
  · unfold rlQ at *; rw [e13, c5]; exact hQ
  · unfold rlH pN cN at *; rw [e0, e1, c2]; exact hH
  · unfold rlS at *; rw [l2, l3]; unfold pN cN nN at *; rw [e0, e1, e2]; exact hS
  · unfold rlT at *; rw [e33, c21, c22, c23, c24, c25]; exact hT
  · have hd : dpt ν 40 = dpt μ 40 := funext (fun n => dpt_c c30 40 n)
    have hch : chN ν = chN μ := by funext n a; unfold chN chP plN; rw [e43, c30, c31]
    unfold plR plm plt at *
    rw [hd, hch]
    unfold plN at *
    rw [e43, c30, c31, c32]
    exact hR
  · unfold rlV at *; rw [c34, c35, c36, c37]; exact hV
theorem RelC.up {k j : Nat} {σ μ : St} (h : RelC k σ μ) (hk : k ≤ j) : RelC j σ μ := by
  obtain ⟨m, hb, hP, hQ, hH, ⟨x, s1, s2, s3⟩, hF, hT, hR, hV⟩ := h
  exact ⟨m, hb, hP, hQ, hH, ⟨x, s1, by omega, s3⟩, hF, hT, hR, hV⟩

