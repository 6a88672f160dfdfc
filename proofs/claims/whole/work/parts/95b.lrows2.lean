theorem cwX11_toss : Cond.codeWith yX11_toss cX11_toss 5 (some .int) hhT ∈ gw := gw1 1016 (by decide +kernel) rfl
theorem cwL_at : Cond.codeWith yL_at cL_at 5 (some .int) hhA ∈ gw := gw1 1099 (by decide +kernel) rfl
/-- toss on the court -/
theorem lt_T {g : Gx} {b0 L : Nat} {xs : Nat → Int32} {a b o : Nat} {Z : State → Prop} {nc ns pc : Nat} {lv : List (Option Value)} {rest st0 : List Value} {σ μ : St} {w : Nat → Int32} {k : Nat} {x : Int32} (hlc : lC g b0 L xs a b o) (hcl : nc + 1 ≤ 601024 ∧ ns + 6 ≤ 7293033) (hd : decode cL_law pc = .ok (.invokevirtual 174, 3)) (h : Rel k σ μ) (hst : st0 = .int x :: .ref a :: rest) (hw : (rest.map fun v => v.category).sum ≤ 8)
    (kk : ∀ τ, Rel (k + 1) τ (sp_toss μ x).2 → gW g 7 Z (nc + 1) (ns + 6) (lA g) (pc + 3) lv (.int (sp_toss μ x).1 :: rest) (lP (gD g) (gdA g) a b o τ μ w)) : gW g 7 Z nc ns (lA g) pc lv st0 (lP (gD g) (gdA g) a b o σ μ w) := by
  obtain ⟨p, l, e, R, s, m, args, below, meth, c, D, dA, ad⟩ := g
  obtain ⟨hc, ⟨hX, hb0, hL0⟩, ⟨ha1, ha2, ha3⟩, hRm, hlt, hTk⟩ := hlc
  obtain ⟨hx, hb, hml, hrt, hlk, hown, hts, hK, hD, hR, hN⟩ := id hc
  subst hD
  have hRm : R = room_1 := hRm
  subst hRm
  intro H locs ls hP hS hl
  obtain ⟨hPC, hPM, hPO⟩ := hP
  have hsub : ∀ q, cA (adC a) YC q → s.heap.size ≤ q := fun q hq => Nat.le_trans ha1 (cA_C hq).1
  have hpre : PreV s H RX11 a (fun v U => cP D dA (adC a) YC [.ref 0, .int x] σ v U ∧ tK (adC a) YC U) [.int x] := ⟨tP_blind, va_recv hK hPC (q := (RX11, TX11, 12)) rfl (wW_at (k := 0) (σ := σ) (ad := adC a) (dA := dA) yc0), fun U hU hW => ⟨⟨rfl, by rw [hU]; exact hPC, va_K.moved hW.alike hK, adC_inj a, hN.warm hW⟩, hTk.to hW hU hS hsub⟩⟩
  have hst' : st0.map (cvv (fun k => k)) = ([.int x] : List Value).reverse ++ .ref a :: rest := by rw [cvv_idm]; exact hst
  have hGd : GoodIn gw (Cond.codeWith yX11_toss cX11_toss 5 (some .int) hhT :: gw) := gw_good (fun w hw => by rcases List.mem_cons.mp hw with rfl | hw; exact cwX11_toss; exact hw)
  have hr := vx_Run.va (vx_runVX (As := [.int x]) (rest := rest) (g := F0 m pc ls (st0.map (cvv (fun k => k)))) (locs := locs) (cells := nc) (slots := ns) (below := below) (meth := meth) (e := e) ⟨hx, hb, hml, hown, hts⟩ (C11_toss h x l hlt D dA (adC a)) (vx_cwVW (R := room_1) (own := RL) (C := RX11) (index := 174) 1 hts (gw_good (fun w hw => by
    rcases List.mem_append.mp hw with hw | hw
    · simp only [List.mem_cons, List.not_mem_nil, or_false] at hw
      rcases hw with rfl | rfl | rfl | rfl
      · exact gw1 1013 (by decide +kernel) rfl
      · exact gw_in (by decide +kernel) rfl
      · exact gw_in (by decide +kernel) rfl
      · exact gw1 1 (by decide +kernel) rfl
    · exact (hGd w hw).1)) rfl rfl rfl ⟨rfl, by decide, by decide, by decide +kernel⟩ (by simp only [rmE, room_1]; omega)) hpre rfl rfl hl.1 hst' (lv_room hw) hd ⟨hcl.1, hcl.2⟩)
  refine lt_run (F := fun τ => lP D dA a b o τ μ w) hr hS hsub hl (fun τ H1 hP1 hk => ⟨hP1, hPM.far hk (fun k hk z => ?_), hPO.far hk (fun k hk z => ?_)⟩) (fun r τ hp => ?_)
  · have h9 := cA_C z
    unfold adM at h9
    omega
  · have h9 := cA_C z
    omega
  · obtain ⟨rfl, hp⟩ := hp
    exact kk τ hp
def adL (a o k : Nat) : Nat := if k = 74 then o else adC a k
theorem adL_ref (a o : Nat) : (fun i : Nat => (([62, 64, 66, 68, 70, 72] : List Nat)[i]?).map (adL a o)) = (fun i : Nat => (([62, 64, 66, 68, 70, 72] : List Nat)[i]?).map (adC a)) := by
  funext i
  match i with
  | 0 => rfl
  | 1 => rfl
  | 2 => rfl
  | 3 => rfl
  | 4 => rfl
  | 5 => rfl
  | n + 6 => simp
theorem adL_E (dA : Nat → ClassId) (a o : Nat) (τ : St) (k : Nat) (h : k < 74) : (YC[k]?).map (fun h => wE dA (adL a o) τ k h) = (YC[k]?).map (fun h => wE dA (adC a) τ k h) := by
  match k, h with
  | 0, _ => rfl
  | 1, _ => rfl
  | 2, _ => rfl
  | 3, _ => rfl
  | 4, _ => rfl
  | 5, _ => rfl
  | 6, _ => rfl
  | 7, _ => rfl
  | 8, _ => rfl
  | 9, _ => rfl
  | 10, _ => rfl
  | 11, _ => rfl
  | 12, _ => rfl
  | 13, _ => rfl
  | 14, _ => rfl
  | 15, _ => rfl
  | 16, _ => rfl
  | 17, _ => rfl
  | 18, _ => rfl
  | 19, _ => rfl
  | 20, _ => rfl
  | 21, _ => rfl
  | 22, _ => rfl
  | 23, _ => rfl
  | 24, _ => rfl
  | 25, _ => rfl
  | 26, _ => rfl
  | 27, _ => rfl
  | 28, _ => rfl
  | 29, _ => rfl
  | 30, _ => rfl
  | 31, _ => rfl
  | 32, _ => rfl
  | 33, _ => rfl
  | 34, _ => rfl
  | 35, _ => rfl
  | 36, _ => rfl
  | 37, _ => rfl
  | 38, _ => rfl
  | 39, _ => rfl
  | 40, _ => rfl
  | 41, _ => rfl
  | 42, _ => rfl
  | 43, _ => rfl
  | 44, _ => rfl
  | 45, _ => rfl
  | 46, _ => rfl
  | 47, _ => rfl
  | 48, _ => rfl
  | 49, _ => rfl
  | 50, _ => rfl
  | 51, _ => rfl
  | 52, _ => rfl
  | 53, _ => rfl
  | 54, _ => rfl
  | 55, _ => rfl
  | 56, _ => rfl
  | 57, _ => rfl
  | 58, _ => rfl
  | 59, _ => rfl
  | 60, _ => rfl
  | 61, _ => exact congrArg (fun f => some (Sum.inl (dA 3, 6, Sum.inr (Sum.inr (Sum.inr (Sum.inr f)))) : va_E)) (adL_ref a o)
  | 62, _ => rfl
  | 63, _ => rfl
  | 64, _ => rfl
  | 65, _ => rfl
  | 66, _ => rfl
  | 67, _ => rfl
  | 68, _ => rfl
  | 69, _ => rfl
  | 70, _ => rfl
  | 71, _ => rfl
  | 72, _ => rfl
  | 73, _ => rfl
  | n + 74, h => exact absurd h (by omega)
theorem adL_W (dA : Nat → ClassId) (a o : Nat) {τ σ : St} (hs : ∀ k, k < 74 → τ k = σ k) : wW dA (adL a o) τ 0 YC = wW dA (adC a) σ 0 YC := by
  rw [← wW_cong (dA := dA) (ad := adC a) (Y := YC) (σ := σ) (σ' := τ) hs]
  apply List.ext_getElem?
  intro k
  rw [wW_get, wW_get, Nat.zero_add]
  by_cases hk : k < 74
  · have h1 := adL_E dA a o τ k hk
    have h2 : adL a o k = adC a k := if_neg (by omega)
    rw [h2]
    generalize YC[k]? = z at h1 ⊢
    cases z with
    | none => rw [Option.map_none, Option.map_none]
    | some y =>
      simp only [Option.map_some, Option.some.injEq] at h1 ⊢
      rw [h1]
  · rw [List.getElem?_eq_none (l := YC) (by show 74 ≤ k; omega), Option.map_none, Option.map_none]
theorem adL_inj {a o : Nat} (h : a + 74 ≤ o) : cD (adL a o) YL := by
  intro i j hi hj e
  have hi : i < 75 := hi
  have hj : j < 75 := hj
  unfold adL at e
  by_cases qi : i = 74
  · by_cases qj : j = 74
    · omega
    · rw [if_pos qi, if_neg qj] at e
      have := adC_lt (a := a) (show j < 74 by omega)
      omega
  · by_cases qj : j = 74
    · rw [if_neg qi, if_pos qj] at e
      have := adC_lt (a := a) (show i < 74 by omega)
      omega
    · rw [if_neg qi, if_neg qj] at e
      exact adC_inj a i j (show i < 74 by omega) (show j < 74 by omega) e
theorem cA_L {a o q : Nat} (h : cA (adL a o) YL q) : (a ≤ q ∧ q < a + 74) ∨ q = o := by
  obtain ⟨k, hk, rfl⟩ := h
  have hk : k < 75 := hk
  unfold adL
  by_cases qk : k = 74
  · rw [if_pos qk]; exact Or.inr rfl
  · rw [if_neg qk]; exact Or.inl ⟨adC_ge a k, adC_lt (by omega)⟩
/-- the law's at -/
theorem lt_A {g : Gx} {b0 L : Nat} {xs : Nat → Int32} {a b o : Nat} {Z : State → Prop} {nc ns pc : Nat} {lv : List (Option Value)} {rest st0 : List Value} {σ μ : St} {w : Nat → Int32} {k : Nat} {x y : Int32} (hlc : lC g b0 L xs a b o) (hcl : nc + 1 ≤ 601024 ∧ ns + 6 ≤ 7293033) (hd : decode cL_law pc = .ok (.invokestatic 152, 3)) (h : Rel k σ μ) (hst : st0 = .ref o :: .int y :: .int x :: .ref a :: rest) (hw : (rest.map fun v => v.category).sum ≤ 8)
    (kk : ∀ w' : Nat → Int32, (thA μ x y = 0 → jn (w' 0) (w' 1) = (μ 36 (60 * nat x + nat y)).toInt64) → gW g 7 Z (nc + 1) (ns + 6) (lA g) (pc + 3) lv (.int (thA μ x y) :: rest) (lP (gD g) (gdA g) a b o σ μ w')) : gW g 7 Z nc ns (lA g) pc lv st0 (lP (gD g) (gdA g) a b o σ μ w) := by
  obtain ⟨p, l, e, R, s, m, args, below, meth, c, D, dA, ad⟩ := g
  obtain ⟨hc, ⟨hX, hb0, hL0⟩, ⟨ha1, ha2, ha3⟩, hRm, hlt, hTk⟩ := hlc
  obtain ⟨hx, hb, hml, hrt, hlk, hown, hts, hK, hD, hR, hN⟩ := id hc
  subst hD
  have hRm : R = room_1 := hRm
  subst hRm
  intro H locs ls hP hS hl
  obtain ⟨hPC, hPM, hPO⟩ := hP
  have ha1 : s.heap.size ≤ a := ha1
  have hsub : ∀ q, cA (adL a o) YL q → s.heap.size ≤ q := fun q hq => by rcases cA_L hq with h | h <;> omega
  obtain ⟨sl, hsl⟩ : ∃ sl : St, sl = fun k => if k = 74 then w else σ k := ⟨_, rfl⟩
  have hs1 : ∀ k, k < 74 → sl k = σ k := fun k hk => by rw [hsl]; exact if_neg (by omega)
  have hs2 : sl 74 = w := by rw [hsl]; rfl
  have hPL : va_P D vwCl (wW dA (adL a o) sl 0 YL) H := by
    unfold YL
    rw [wW_app, adL_W dA a o hs1]
    refine hPC.app ?_
    have e1 : wW dA (adL a o) sl (0 + YC.length) [.inl (2, 1, [])] = wW dA (fun _ => o) (fun _ => w) 0 [.inl (2, 1, [])] := by
      show [(adL a o 74, wE dA (adL a o) sl 74 (.inl (2, 1, [])))] = [(o, wE dA (fun _ => o) (fun _ => w) 0 (.inl (2, 1, [])))]
      rw [show adL a o 74 = o from rfl]
      show [(o, (Sum.inl (dA 2, 1, Sum.inr (Sum.inl (fun i => jn (sl 74 (2 * i)) (sl 74 (2 * i + 1))))) : va_E))] = [(o, Sum.inl (dA 2, 1, Sum.inr (Sum.inl (fun i => jn (w (2 * i)) (w (2 * i + 1))))))]
      rw [hs2]
    rw [e1]
    exact hPO
  have hpre : PreS s H (fun v U => cP D dA (adL a o) YL [.ref 0, .int x, .int y, .ref 74] sl v U ∧ tK (adL a o) YL U) [.ref a, .int x, .int y, .ref o] := ⟨tP_blind, fun U hU hW => ⟨⟨rfl, by rw [hU]; exact hPL, va_K.moved hW.alike hK, adL_inj (by omega), hN.warm hW⟩, hTk.to hW hU hS hsub⟩⟩
  have hst' : st0.map (cvv (fun k => k)) = ([.ref a, .int x, .int y, .ref o] : List Value).reverse ++ rest := by rw [cvv_idm]; exact hst
  have hGd : GoodIn gw (Cond.codeWith yL_at cL_at 5 (some .int) hhA :: gw) := gw_good (fun w hw => by rcases List.mem_cons.mp hw with rfl | hw; exact cwL_at; exact hw)
  have hM : hMt YL mL_at hhA 70 1 6 [.ref 0, .int x, .int y, .ref 74] sl (fun r τ => r = some (.int (thA μ x y)) ∧ (∀ k, k < 74 → τ k = σ k) ∧ (thA μ x y = 0 → jn (τ 74 0) (τ 74 1) = (μ 36 (60 * nat x + nat y)).toInt64)) := CL_at h hs1 x y
  have hr := vx_Run.va (vx_runSX (As := [.ref a, .int x, .int y, .ref o]) (rest := rest) (g := F0 m pc ls (st0.map (cvv (fun k => k)))) (locs := locs) (cells := nc) (slots := ns) (below := below) (meth := meth) (e := e) ⟨hx, hb, hml, hown, hts⟩ (hM l hlt D dA (adL a o)) (vx_cwSW (R := room_1) (own := RL) (index := 152) 4 hts (gw_good (fun w hw => by
    rcases List.mem_append.mp hw with hw | hw
    · simp only [List.mem_cons, List.not_mem_nil, or_false] at hw
      rcases hw with rfl | rfl | rfl
      · exact gw1 1097 (by decide +kernel) rfl
      · exact gw_in (by decide +kernel) rfl
      · exact gw_in (by decide +kernel) rfl
    · exact (hGd w hw).1)) rfl rfl rfl ⟨by decide, by decide, by decide +kernel⟩ (by simp only [rmE, room_1]; omega)) hpre rfl rfl hl.1 hst' (lv_room hw) hd ⟨hcl.1, hcl.2⟩)
  refine lt_run (F := fun τ H1 => (∀ k, k < 74 → τ k = σ k) → lP D dA a b o σ μ (τ 74) H1) hr hS hsub hl (fun τ H1 hP1 hk hs => ?_) (fun r τ hp => ?_)
  · unfold YL at hP1
    rw [wW_app, adL_W dA a o hs] at hP1
    refine ⟨hP1.by (fun k => k) (fun k q hq => by rw [List.getElem?_append_left (List.getElem?_eq_some_iff.mp hq).1]; exact hq), hPM.far hk (fun k hk z => ?_), ?_⟩
    · rcases cA_L z with h9 | h9
      · unfold adM at h9; omega
      · have hk : k < 39 := hk
        unfold adM at h9; omega
    · refine hP1.by (fun k => 74 + k) (fun k q hq => ?_)
      rw [List.getElem?_append_right (by rw [wW_len]; show 74 ≤ 74 + k; omega), wW_len, show 74 + k - YC.length = k from Nat.add_sub_cancel_left (n := 74) (m := k)]
      exact hq
  · obtain ⟨rfl, hp1, hp2⟩ := hp
    have := kk (τ 74) hp2
    intro H9 l9 ls9 q1 q2 q3
    exact this H9 l9 ls9 (q1 hp1) q2 q3
