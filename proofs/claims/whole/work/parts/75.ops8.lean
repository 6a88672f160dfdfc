/-! ===== calls of the class: the law, the lies, the list, turns ===== -/
theorem nthT_c {p q : Nat → Bool} : ∀ n k, (∀ c, c < n → p c = q c) → nthT n p k = nthT n q k := by
  intro n
  induction n with
  | zero => intro k _; rfl
  | succ n ih =>
    intro k h
    show (if (p n && cnt n p == k) = true then n else nthT n p k) = (if (q n && cnt n q == k) = true then n else nthT n q k)
    rw [ih k (fun c hc => h c (by omega)), h n (by omega), cnt_congr (fun i hi => h i (by omega))]
/-- the plays of both sides change -/
theorem Rel.py {k : Nat} {σ τ μ ν : St} (h : Rel k σ μ) (e : ∀ a, ¬ (7 ≤ a ∧ a ≤ 16) → τ a = σ a) (f : ∀ a b, ¬ (a = 1 ∨ a = 3 ∨ a = 4 ∨ a = 5) → ¬ (a = 0 ∧ (b = 3 ∨ b = 4 ∨ b = 5 ∨ b = 7 ∨ b = 9 ∨ b = 13 ∨ b = 15)) → ν a b = μ a b) (hM : MI ν) (hq : qOK ν) (hP : rlP τ ν) (hQ : rlQ τ ν) (hS : rlS (k + 1) τ ν) : Rel (k + 1) τ ν := by
  obtain ⟨⟨⟨m1, m2, m3, m4, m5, m6⟩, hb, -, -, hH, -, hF, hT, hR, hV⟩, hN⟩ := h
  have c : ∀ a, ¬ (a = 1 ∨ a = 3 ∨ a = 4 ∨ a = 5) → ¬ a = 0 → ν a = μ a := fun a h1 h0 => funext (fun b => f a b h1 (fun q => h0 q.1))
  have z : ∀ i, ¬ (i = 3 ∨ i = 4 ∨ i = 5 ∨ i = 7 ∨ i = 9 ∨ i = 13 ∨ i = 15) → ν 0 i = μ 0 i := fun i hi => f 0 i (by decide) (fun q => hi q.2)
  have hmu : muA μ ν := ⟨z 0 (by decide), z 1 (by decide), z 2 (by decide)⟩
  refine ⟨⟨⟨hM, khO m2 hmu (c 2 (by decide) (by decide)), hq, ksO m4 (c 35 (by decide) (by decide)), kpO m5 hmu (z 43 (by decide)) (c 30 (by decide) (by decide)) (c 31 (by decide) (by decide)) (c 32 (by decide) (by decide)), knO m6 (z 33 (by decide))⟩, kB hb hmu (e 1 (by decide)) (e 2 (by decide)) (e 3 (by decide)) (e 4 (by decide)), hP, hQ, kH hH hmu (e 17 (by decide)) (e 18 (by decide)) (c 2 (by decide) (by decide)), hS, kF hF (fun a h1 h2 => e a (by omega)), kT hT (fun a h1 h2 => e a (by omega)) (z 33 (by decide)) (fun a h1 h2 => c a (by omega) (by omega)), kR hR (by rw [e 52 (by decide)]) (by rw [e 52 (by decide)]) (fun a h1 h2 => e a (by omega)) (z 43 (by decide)) (c 30 (by decide) (by decide)) (c 31 (by decide) (by decide)) (c 32 (by decide) (by decide)), kV hV (fun a h1 h2 => e a (by omega)) (fun a h1 h2 => c a (by omega) (by omega))⟩, by rw [e 0 (by decide), z 14 (by decide)]; exact hN⟩
/-- behind findLeft -/
theorem rlP_fl {ρ ν : St} {N : Nat} {p : Nat → Bool} (hN : nN ν = N) (hp : ∀ c, c < N → p c = mLs ν c) (a8 : ρ 7 8 = ν 0 3) (a9 : ρ 7 9 = ν 0 4) (a10 : ρ 7 10 = ν 0 5) (a11 : ρ 7 11 = ν 0 7) (a12 : ρ 7 12 = nI (cnt N (okN ν))) (a14 : ρ 7 14 = ν 0 9) (h13 : ∀ c, c < N → ρ 13 c = ν 1 c ∧ ρ 14 c = bI (okN ν c) ∧ ρ 15 c = nI (fbN ν c)) (hT : ∀ t, t < tN ν → ρ 12 t = ν 4 t ∧ ∀ i, i < pN ν → ρ 11 (5 * t + i) = ν 3 (5 * t + i)) (hl : ∃ lw, lw < 4 ∧ ν 0 3 = nI lw) (hm : ∃ m, m ≤ 300 ∧ ν 0 7 = nI m) : rlP (flS ρ N p) ν := by
  have hlm : lm ν = cnt N p := by show cnt (nN ν) (mLs ν) = _; rw [hN]; exact cnt_congr (fun i hi => (hp i hi).symm)
  have s7 : ∀ i, ¬ i = 13 → ¬ i = 16 → flS ρ N p 7 i = ρ 7 i := fun i h1 h2 => by simp [va_up, up_eq, h1, h2]
  have s : ∀ a, ¬ a = 7 → ¬ a = 16 → flS ρ N p a = ρ a := fun a h1 h2 => by
    show up (va_up (up ρ 7 13 _) 16 _) 7 16 _ a = ρ a
    rw [up_o a h1, vu_n h2, up_o a h1]
  unfold rlP
  rw [s7 8 (by decide) (by decide), s7 9 (by decide) (by decide), s7 10 (by decide) (by decide), s7 11 (by decide) (by decide), s7 12 (by decide) (by decide), s7 14 (by decide) (by decide), s 11 (by decide) (by decide), s 12 (by decide) (by decide), s 13 (by decide) (by decide), s 14 (by decide) (by decide), s 15 (by decide) (by decide), hN]
  refine ⟨a8, a9, a10, a11, a12, ?_, a14, h13, fun k hk => ?_, hT, hl, hm⟩
  · rw [hlm]; simp [va_up, up_eq]
  · have e16 : flS ρ N p 16 = qrow (ρ 16) N p := by
      show up (va_up (up ρ 7 13 _) 16 _) 7 16 _ 16 = _
      rw [up_o 16 (by decide), vu_s]
    rw [e16]
    rw [hlm] at hk
    unfold qrow
    rw [if_pos hk]
    congr 1
    show _ = nthT (nN ν) (mLs ν) k
    rw [hN]
    exact nthT_c _ _ hp
theorem fl_e {ρ : St} {N : Nat} {p : Nat → Bool} : (∀ a, ¬ a = 7 → ¬ a = 16 → flS ρ N p a = ρ a) ∧ flS ρ N p 7 15 = ρ 7 15 ∧ flS ρ N p 7 16 = ρ 7 16 + 1 := ⟨fun a h1 h2 => by
    show up (va_up (up ρ 7 13 _) 16 _) 7 16 _ a = ρ a
    rw [up_o a h1, vu_n h2, up_o a h1], by simp [va_up, up_eq], by simp [up_eq]⟩
theorem okLaw_c {P C : Nat} {law told : Int32} {l m : Nat → Int32} {c : Nat} (h : l c = m c) : okLaw P C law told l c = okLaw P C law told m c := by unfold okLaw; rw [h]
theorem C11_law {k : Nat} {σ μ : St} (h : Rel k σ μ) (a b : Int32) : Mt YC mX11_law 70 [.ref 0, .int a, .int b] σ (fun r τ => r = some (.int (sp_law μ a b).1) ∧ Rel (k + 1) τ (sp_law μ a b).2) := by
  obtain ⟨⟨f1, f2, f3, f4⟩, ⟨e1, e2, e3, e4⟩, ⟨g1, g2, g3⟩, ⟨u0, u1, u9, u5⟩⟩ := h.f
  obtain ⟨p1, p2, p3, p4, p5, p6, p7, p8, p9, p10, p11, p12⟩ := id h.1.2.2.1
  obtain ⟨A1, A2, A3, A4, A5⟩ := id h.A
  have hL01 := h.1.1.1.1.2.2.2.2.2.2.2.2
  refine Mt.ofA [some (.ref 0), some (.int a), some (.int b)] (by decide) (fun _ => Nat.le_of_ble_eq_true rfl) (fun _ => rfl) (fun g hc => ?_)
  refine st_iload_n hc dX11_law_0 rfl rfl ?_
  refine st_if_lt (tgt := 9) hc dX11_law_1 (by decide) (fun h1 => ?_) (fun h1 => ?_)
  · have e : sp_law μ a b = (-1, t0 μ) := if_pos (fun q => absurd h1 (Int32.not_lt.mpr q.1))
    refine st_iconst (v := (-1)) hc dX11_law_9 (by decide) ?_
    refine st_iret (st := []) hc dX11_law_10 rfl ?_
    rw [e]
    exact ⟨rfl, h.t⟩
  · have h1 := Int32.not_lt.mp h1
    refine st_iload_n hc dX11_law_4 rfl rfl ?_
    refine st_iconst (v := 3) hc dX11_law_5 (by decide) ?_
    refine st_icmp_le (tgt := 11) hc dX11_law_6 (by decide) (fun h6 => ?_) (fun h6 => ?_)
    · refine st_aload_n hc dX11_law_11 rfl rfl ?_
      refine st_getr hc dX11_law_12 flX11_21 rfl rfl ?_
      refine st_getE hc dX11_law_15 flX11_119 rfl rfl ((p7.trans u9)) ?_
      refine st_if_le (tgt := 24) hc dX11_law_18 (by decide) (fun h18 => ?_) (fun h18 => ?_)
      · have h18 : ¬ 0 < tN μ := fun q => by have := (nI_leI (b := 0) (by omega) (by decide)).mp h18; omega
        have e : sp_law μ a b = (nI (cnt (nN μ) (okLaw (pN μ) (cN μ) a b (μ 1))), up (up (t0 μ) 0 3 a) 0 4 b) := (if_neg (fun q => q ⟨h1, h6⟩)).trans (if_neg h18)
        have hal : nat a < 4 := by
          have h6' := h6
          rw [← nI_nat h1] at h6'
          have := (nI_leI (b := 3) (nat_lt a) (by decide)).mp h6'
          omega
        have hsl := C5_setLaw 60 σ (lw := nat a) (L := liN μ) (fb := fbN μ) h.1.2.1 hal (fun c hc => by rw [(p8 c (by rw [e1]; exact hc)).1]; exact hL01 c (by omega)) A3 e4 (fun c hc => ⟨(p8 c (by rw [e1]; exact hc)).2.2, fbN_lt e3 c⟩) b
        rw [nI_nat h1, ← e1] at hsl
        refine st_aload_n hc dX11_law_24 rfl rfl ?_
        refine st_getr hc dX11_law_25 flX11_21 rfl rfl ?_
        refine st_iload_n hc dX11_law_28 rfl rfl ?_
        refine st_iload_n hc dX11_law_29 rfl rfl ?_
        refine st_callVn hc dX11_law_30 (hsl) mvX11_122 (by omega) rfl rfl rfl (Nat.le_of_ble_eq_true rfl) ?_
        rintro τ1 ⟨v, hv, ee⟩
        subst ee
        have hok : ∀ c, c < nN μ → okLaw (pN μ) (cN μ) a b (σ 13) c = okLaw (pN μ) (cN μ) a b (μ 1) c := fun c hc => okLaw_c (p8 c hc).1
        have hcnt : cnt (nN μ) (okLaw (pN μ) (cN μ) a b (σ 13)) = cnt (nN μ) (okLaw (pN μ) (cN μ) a b (μ 1)) := cnt_congr hok
        refine st_aload_n hc dX11_law_33 rfl rfl ?_
        refine st_getr hc dX11_law_34 flX11_21 rfl rfl ?_
        refine st_getE hc dX11_law_37 flX11_125 rfl rfl ((by rw [← hcnt]; simp [va_up, up_eq] : _ = nI (cnt (nN μ) (okLaw (pN μ) (cN μ) a b (μ 1))))) ?_
        refine st_iret (st := []) hc dX11_law_40 rfl ?_
        rw [e]
        have nz : ∀ i, ¬ (i = 3 ∨ i = 4 ∨ i = 15) → up (up (t0 μ) 0 3 a) 0 4 b 0 i = μ 0 i := fun i hi => by
          show up (up (up μ 0 15 0) 0 3 a) 0 4 b 0 i = μ 0 i
          rw [up_eq, if_neg (fun q => by omega), up_eq, if_neg (fun q => by omega), up_eq, if_neg (fun q => by omega)]
        have nc : ∀ x, ¬ x = 0 → up (up (t0 μ) 0 3 a) 0 4 b x = μ x := fun x hx => by
          show up (up (up μ 0 15 0) 0 3 a) 0 4 b x = μ x
          rw [up_o x hx, up_o x hx, up_o x hx]
        have n3 : up (up (t0 μ) 0 3 a) 0 4 b 0 3 = a := by simp [up_eq]
        have n4 : up (up (t0 μ) 0 3 a) 0 4 b 0 4 = b := by simp [up_eq]
        generalize hν : up (up (t0 μ) 0 3 a) 0 4 b = ν at *
        have hPn : pN ν = pN μ := by unfold pN; rw [nz 0 (by decide)]
        have hCn : cN ν = cN μ := by unfold cN; rw [nz 1 (by decide)]
        have hNn : nN ν = nN μ := by unfold nN; rw [nz 2 (by decide)]
        have hTn : tN ν = tN μ := by unfold tN; rw [nz 9 (by decide)]
        have hLn : liN ν = liN μ := by unfold liN; rw [nz 5 (by decide)]
        have okν : okN ν = okLaw (pN μ) (cN μ) a b (μ 1) := by unfold okN okM; rw [hPn, hCn, n3, n4, nc 1 (by decide)]
        have fbν : fbN ν = fbN μ := by unfold fbN fbM; rw [hPn, hCn, hTn, nc 3 (by decide), nc 4 (by decide)]
        obtain ⟨fe1, fe2, fe3⟩ := fl_e (ρ := slS σ (nN μ) a b (okLaw (pN μ) (cN μ) a b (σ 13)) v) (N := nN μ) (p := lf (okLaw (pN μ) (cN μ) a b (σ 13)) (fbN μ) (liN μ))
        have sl : ∀ x, ¬ x = 7 → ¬ x = 14 → slS σ (nN μ) a b (okLaw (pN μ) (cN μ) a b (σ 13)) v x = σ x := fun x h7 h14 => by funext y; simp [va_up, up_eq, h7, h14]
        refine ⟨rfl, ?_⟩
        show Rel (k + 1) _ ν
        refine h.py (fun x hx => by rw [fe1 x (by omega) (by omega), sl x (by omega) (by omega)]) (fun x y h1 h2 => ?_) (kMI h.1.1.1 ⟨nz 0 (by decide), nz 1 (by decide), nz 2 (by decide)⟩ (nz 5 (by decide)) (nz 9 (by decide)) (nc 1 (by decide))) (kqO h.1.1.2.2.1 (nz 13 (by decide))) (rlP_fl hNn (fun c hc => ?_) ?_ ?_ ?_ ?_ ?_ ?_ (fun c hc => ?_) (fun t ht => ?_) ⟨nat a, hal, by rw [n3]; exact (nI_nat h1).symm⟩ ?_) (kQ h.1.2.2.2.1 (by rw [fe2]; simp [va_up, up_eq]) (nz 13 (by decide)) (nc 5 (by decide))) (kS' h.1.2.2.2.2.2.1 (by rw [fe3]; simp [va_up, up_eq]) (by rw [fe1 21 (by decide) (by decide), sl 21 (by decide) (by decide)]))
        · by_cases hx : x = 0
          · subst hx; exact nz y (fun q => h2 ⟨rfl, by omega⟩)
          · rw [nc x hx]
        · show (okLaw (pN μ) (cN μ) a b (σ 13) c && decide (ones (fbN μ c) ≤ liN μ)) = (okN ν c && decide (ones (fbN ν c) ≤ liN ν))
          rw [hok c hc, okν, fbν, hLn]
        · rw [n3]; simp [va_up, up_eq]
        · rw [n4]; simp [va_up, up_eq]
        · rw [nz 5 (by decide), ← p3]; simp [va_up, up_eq]
        · rw [nz 7 (by decide), ← p4]; simp [va_up, up_eq]
        · rw [okν, ← hcnt]; simp [va_up, up_eq]
        · rw [nz 9 (by decide), ← p7]; simp [va_up, up_eq]
        · rw [sl 13 (by decide) (by decide), sl 15 (by decide) (by decide), nc 1 (by decide), okν, fbν]
          refine ⟨(p8 c hc).1, ?_, (p8 c hc).2.2⟩
          rw [← hok c hc, ← hv c hc]
          simp [va_up, up_eq]
        · rw [sl 12 (by decide) (by decide), sl 11 (by decide) (by decide), nc 4 (by decide), nc 3 (by decide)]
          rw [hTn] at ht
          rw [hPn]
          exact p10 t ht
        · rw [nz 7 (by decide)]; exact p12
      · have h18 : 0 < tN μ := Nat.lt_of_not_le (fun q => h18 (nI_le (b := 0) q (by decide)))
        have e : sp_law μ a b = (-3, t0 μ) := (if_neg (fun q => q ⟨h1, h6⟩)).trans (if_pos h18)
        refine st_bipush (v := (-3)) hc dX11_law_21 (by decide) ?_
        refine st_iret (st := []) hc dX11_law_23 rfl ?_
        rw [e]
        exact ⟨rfl, h.t⟩
    · have e : sp_law μ a b = (-1, t0 μ) := if_pos (fun q => h6 q.2)
      refine st_iconst (v := (-1)) hc dX11_law_9 (by decide) ?_
      refine st_iret (st := []) hc dX11_law_10 rfl ?_
      rw [e]
      exact ⟨rfl, h.t⟩

