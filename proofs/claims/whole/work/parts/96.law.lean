/-! ===== the law's steps ===== -/
abbrev lvJ (b0 a b o : Nat) (i : Int32) (x5 x6 : Option Value) : List (Option Value) := [some (.ref b0), some (.ref a), some (.ref b), some (.ref o), some (.int i), x5, x6]
theorem gW_wide {g : Gx} {nL : Nat} {Z : State → Prop} {nc ns nc' ns' : Nat} {A : Nat → Prop} {pc : Nat} {lv : List (Option Value)} {st : List Value} {σ : Heap → Prop} (h1 : nc ≤ nc') (h2 : ns ≤ ns') (k : gW g nL Z nc' ns' A pc lv st σ) : gW g nL Z nc ns A pc lv st σ := by
  obtain ⟨p, l, e, R, s, m, args, below, meth, c, D, dA, ad⟩ := g
  intro H locs ls hP hS hl T hT X
  exact k H locs ls hP hS hl T hT (stand_widen X h1 h2)
theorem gW_lv {g : Gx} {nL : Nat} {Z : State → Prop} {nc ns : Nat} {A : Nat → Prop} {pc : Nat} {b0 a b o : Nat} {i : Int32} {x5 x6 : Option Value} {st : List Value} {σ : Heap → Prop} (k : gW g nL Z nc ns A pc (lvJ b0 a b o i none none) st σ) : gW g nL Z nc ns A pc (lvJ b0 a b o i x5 x6) st σ := by
  obtain ⟨p, l, e, R, s, m, args, below, meth, c, D, dA, ad⟩ := g
  intro H locs ls hP hS hl
  refine k H locs ls hP hS ⟨hl.1, hl.2.1, fun q hq => hl.2.2 q ?_⟩
  obtain ⟨n, v, hn, rfl⟩ := (lvl_mem _ 0 q).mp hq
  refine (lvl_mem _ 0 _).mpr ⟨n, v, ?_, rfl⟩
  match n, hn with
  | 0, h => exact h
  | 1, h => exact h
  | 2, h => exact h
  | 3, h => exact h
  | 4, h => exact h
  | 5, h => exact absurd h (by simp)
  | 6, h => exact absurd h (by simp)
  | n + 7, h => exact absurd h (by simp)
theorem lt_sld {g : Gx} {b0 L : Nat} {xs : Nat → Int32} {a b o : Nat} {Z : State → Prop} {nc ns pc : Nat} {lv : List (Option Value)} {st : List Value} {σ : Heap → Prop} {i : Int32} {n : Nat} (hlc : lC g b0 L xs a b o) (hi : i = nI n) (hn : n < L) (hd : decode cL_law pc = .ok (.iaload, 1)) (k : gW g 7 Z nc ns (lA g) (pc + 1) lv (.int (xs n) :: st) σ) : gW g 7 Z nc ns (lA g) pc lv (.int i :: .ref b0 :: st) σ := by
  obtain ⟨p, l, e, R, s, m, args, below, meth, c, D, dA, ad⟩ := g
  obtain ⟨hc, ⟨hX, hb0, hL0⟩, -⟩ := hlc
  obtain ⟨hx, hb, hml, hrt, hlk, hown, hts, hK, hD, hR, hN⟩ := id hc
  subst hD
  subst hi
  intro H locs ls hP hS hl
  have hk := k H locs ls hP hS hl
  have hb0 : b0 < s.heap.size := hb0
  refine va_sld hx hb hX hb0 (fun z => ?_) hS (vp_in_nI hn (by omega)) hd ?_
  · have z : s.heap.size ≤ b0 := z
    omega
  · rw [nI_clamp (by omega)]
    exact hk
theorem lt_slen {g : Gx} {b0 L : Nat} {xs : Nat → Int32} {a b o : Nat} {Z : State → Prop} {nc ns pc : Nat} {lv : List (Option Value)} {st : List Value} {σ : Heap → Prop} (hlc : lC g b0 L xs a b o) (hd : decode cL_law pc = .ok (.arraylength, 1)) (k : gW g 7 Z nc ns (lA g) (pc + 1) lv (.int (nI L) :: st) σ) : gW g 7 Z nc ns (lA g) pc lv (.ref b0 :: st) σ := by
  obtain ⟨p, l, e, R, s, m, args, below, meth, c, D, dA, ad⟩ := g
  obtain ⟨hc, ⟨hX, hb0, hL0⟩, -⟩ := hlc
  obtain ⟨hx, hb, hml, hrt, hlk, hown, hts, hK, hD, hR, hN⟩ := id hc
  subst hD
  intro H locs ls hP hS hl
  have hb0 : b0 < s.heap.size := hb0
  refine va_slen hx hb hX hb0 (fun z => ?_) hS hd (k H locs ls hP hS hl)
  have z : s.heap.size ≤ b0 := z
  omega
/-- an argument out of the script -/
theorem lt_arg {g : Gx} {b0 L : Nat} {xs : Nat → Int32} {a b o : Nat} {Z : State → Prop} {nc ns pc : Nat} {x5 x6 : Option Value} {st : List Value} {σ : Heap → Prop} {j c : Nat} {ci : Int} (hlc : lC g b0 L xs a b o) (hj : 6 * j + 6 ≤ L) (hc6 : c < 6) (hci : Int32.ofInt ci = nI c) (h1 : decode cL_law pc = .ok (.aload_n 0, 1)) (h2 : decode cL_law (pc + 1) = .ok (.iload 4, 2)) (h3 : decode cL_law (pc + 3) = .ok (.iconst ci, 1)) (h4 : decode cL_law (pc + 4) = .ok (.iadd, 1)) (h5 : decode cL_law (pc + 5) = .ok (.iaload, 1)) (k : gW g 7 Z nc ns (lA g) (pc + 6) (lvJ b0 a b o (nI (6 * j)) x5 x6) (.int (xs (6 * j + c)) :: st) σ) : gW g 7 Z nc ns (lA g) pc (lvJ b0 a b o (nI (6 * j)) x5 x6) st σ := by
  refine gt_aload_n hlc.1 h1 rfl rfl ?_
  refine gt_iload hlc.1 h2 rfl ?_
  refine gt_iconst (v := nI c) hlc.1 h3 hci ?_
  refine gt_iadd hlc.1 h4 ?_
  exact lt_sld hlc (nI_add _ _) (show 6 * j + c < L by omega) h5 k
theorem lt_lald {g : Gx} {b0 L : Nat} {xs : Nat → Int32} {a b o : Nat} {Z : State → Prop} {nc ns pc : Nat} {lv : List (Option Value)} {st : List Value} {σ μ : St} {w : Nat → Int32} (hlc : lC g b0 L xs a b o) (hd : decode cL_law pc = .ok (.laload, 1)) (k : gW g 7 Z nc ns (lA g) (pc + 1) lv (.long (jn (w 0) (w 1)) :: st) (lP (gD g) (gdA g) a b o σ μ w)) : gW g 7 Z nc ns (lA g) pc lv (.int 0 :: .ref o :: st) (lP (gD g) (gdA g) a b o σ μ w) := by
  obtain ⟨p, l, e, R, s, m, args, below, meth, c, D, dA, ad⟩ := g
  obtain ⟨hc, ⟨hX, hb0, hL0⟩, -⟩ := hlc
  obtain ⟨hx, hb, hml, hrt, hlk, hown, hts, hK, hD, hR, hN⟩ := id hc
  subst hD
  intro H locs ls hP hS hl
  exact va_lald hx hb hK hP.2.2 0 2 (f := fun i => jn (w (2 * i)) (w (2 * i + 1))) (n := 1) rfl rfl (by unfold vp_in; decide) hd (k H locs ls hP hS hl)
/-- where a step ends -/
def lK1 (g : Gx) (b0 a b o : Nat) (Z : State → Prop) (j : Nat) : Prop := ∀ (τ ν : St) (w : Nat → Int32), Rel (j + 2) τ ν → gW g 7 Z (114 + (j + 1)) (160121 + 6 * (j + 1)) (lA g) 1429 (lvJ b0 a b o (nI (6 * j)) none none) [] (lP (gD g) (gdA g) a b o τ ν w)
theorem C11_judge {k : Nat} {σ μ : St} (h : Rel k σ μ) : Mt YC mX11_judge 68 [.ref 0] σ (fun r τ => r = some (.int (sp_judge μ).1) ∧ Rel (k + 1) τ (sp_judge μ).2) := Mt_mono (fun _ _ q => ⟨q.1, q.2.1⟩) (C11_judge0 h.t)
theorem C12_bestR {k : Nat} {σ μ : St} (h : Rel k σ μ) (q p x : Int32) : Mt YM mX12_best 9 [.ref 0, .int q, .int p, .int x] μ (fun r τ => r = some (.int (sp_best μ q p x).1) ∧ sE (sp_best μ q p x).2 τ) := by
  refine Mt_mono (fun r τ hq => ⟨?_, hq.2⟩) (C12_best μ h.1.1.1 q p x)
  rcases hq.1 with e | ⟨e1, e2⟩
  · exact e
  · unfold askT at e1
    by_cases hp : (0 ≤ p ∧ p ≤ 1) ∧ (0 ≤ x ∧ x ≤ 20)
    · rw [if_pos hp] at e1
      unfold rfT at e1
      rw [if_neg (fun z => z hp.1)] at e1
      obtain ⟨w, hw, -⟩ := md_K h.t hp.1 (show whyT (t0 μ) = 0 from e1)
      rw [hw] at e2
      cases e2
    · rw [if_neg hp] at e1
      cases e1
theorem Rel.th {k : Nat} {σ μ : St} (h : Rel k σ μ) (v : Int32) : Rel (k + 1) σ (up μ 0 15 v) := by
  refine ⟨(h.1.mE ?_).up (by omega), by rw [h.2]; simp [up_eq]⟩
  refine ⟨fun a h0 _ => up_o a h0, fun i hi => ?_⟩
  simp only [List.mem_cons, List.not_mem_nil, or_false] at hi
  rcases hi with rfl | rfl | rfl | rfl | rfl | rfl | rfl | rfl | rfl | rfl | rfl <;> simp [up_eq]
theorem lw_c0 {g : Gx} {b0 L : Nat} {xs : Nat → Int32} {a b o : Nat} {Z : State → Prop} {j : Nat} {σ μ : St} {w : Nat → Int32} (hlc : lC g b0 L xs a b o) (hj : 6 * j + 6 ≤ L) (h : Rel (j + 1) σ μ) (K : lK1 g b0 a b o Z j) : gW g 7 Z (114 + j) (160121 + 6 * j) (lA g) 208 (lvJ b0 a b o (nI (6 * j)) none none) [] (lP (gD g) (gdA g) a b o σ μ w) := by
  have hL := hlc.2.1.2.2
  refine gt_aload_n hlc.1 dL_law_208 rfl rfl ?_
  refine lt_arg (c := 1) hlc hj (by decide) (by decide) dL_law_209 dL_law_210 dL_law_212 dL_law_213 dL_law_214 ?_
  refine lt_arg (c := 2) hlc hj (by decide) (by decide) dL_law_215 dL_law_216 dL_law_218 dL_law_219 dL_law_220 ?_
  refine lt_C (rest := []) (As := [.int (xs (6 * j + 1)), .int (xs (6 * j + 2))]) hlc ⟨by omega, by omega⟩ dL_law_221 (C11_begin h (xs (6 * j + 1)) (xs (6 * j + 2))) mvL_21 (by decide) rfl (fun _ => rfl) rfl (Nat.le_of_ble_eq_true rfl) (fun τ hτ => ?_)
  refine gt_aload_n hlc.1 dL_law_224 rfl rfl ?_
  refine lt_arg (c := 1) hlc hj (by decide) (by decide) dL_law_225 dL_law_226 dL_law_228 dL_law_229 dL_law_230 ?_
  refine lt_arg (c := 2) hlc hj (by decide) (by decide) dL_law_231 dL_law_232 dL_law_234 dL_law_235 dL_law_236 ?_
  refine lt_M (rest := [.int (sp_begin μ (xs (6 * j + 1)) (xs (6 * j + 2))).1]) (As := [.int (xs (6 * j + 1)), .int (xs (6 * j + 2))]) hlc ⟨by omega, by omega⟩ dL_law_237 (C12_begin μ  (xs (6 * j + 1)) (xs (6 * j + 2))) mvL_24 (by decide) rfl (fun _ => rfl) rfl (Nat.le_of_ble_eq_true rfl) (fun ν hν => ?_)
  refine gt_icmp_eq (tgt := 1429) hlc.1 dL_law_240 (by omega) (fun _ => ?_) (fun h => absurd rfl h)
  exact gW_wide (by omega) (by omega) (K _ _ _ (hτ.sE hν))
theorem lw_c1 {g : Gx} {b0 L : Nat} {xs : Nat → Int32} {a b o : Nat} {Z : State → Prop} {j : Nat} {σ μ : St} {w : Nat → Int32} (hlc : lC g b0 L xs a b o) (hj : 6 * j + 6 ≤ L) (h : Rel (j + 1) σ μ) (K : lK1 g b0 a b o Z j) : gW g 7 Z (114 + j) (160121 + 6 * j) (lA g) 245 (lvJ b0 a b o (nI (6 * j)) none none) [] (lP (gD g) (gdA g) a b o σ μ w) := by
  have hL := hlc.2.1.2.2
  refine gt_aload_n hlc.1 dL_law_245 rfl rfl ?_
  refine lt_arg (c := 1) hlc hj (by decide) (by decide) dL_law_246 dL_law_247 dL_law_249 dL_law_250 dL_law_251 ?_
  refine lt_arg (c := 2) hlc hj (by decide) (by decide) dL_law_252 dL_law_253 dL_law_255 dL_law_256 dL_law_257 ?_
  refine lt_C (rest := []) (As := [.int (xs (6 * j + 1)), .int (xs (6 * j + 2))]) hlc ⟨by omega, by omega⟩ dL_law_258 (C11_law h (xs (6 * j + 1)) (xs (6 * j + 2))) mvL_25 (by decide) rfl (fun _ => rfl) rfl (Nat.le_of_ble_eq_true rfl) (fun τ hτ => ?_)
  refine gt_aload_n hlc.1 dL_law_261 rfl rfl ?_
  refine lt_arg (c := 1) hlc hj (by decide) (by decide) dL_law_262 dL_law_263 dL_law_265 dL_law_266 dL_law_267 ?_
  refine lt_arg (c := 2) hlc hj (by decide) (by decide) dL_law_268 dL_law_269 dL_law_271 dL_law_272 dL_law_273 ?_
  refine lt_M (rest := [.int (sp_law μ (xs (6 * j + 1)) (xs (6 * j + 2))).1]) (As := [.int (xs (6 * j + 1)), .int (xs (6 * j + 2))]) hlc ⟨by omega, by omega⟩ dL_law_274 (C12_law μ h.1.1.1 (xs (6 * j + 1)) (xs (6 * j + 2))) mvL_28 (by decide) rfl (fun _ => rfl) rfl (Nat.le_of_ble_eq_true rfl) (fun ν hν => ?_)
  refine gt_icmp_eq (tgt := 1429) hlc.1 dL_law_277 (by omega) (fun _ => ?_) (fun h => absurd rfl h)
  exact gW_wide (by omega) (by omega) (K _ _ _ (hτ.sE hν))
theorem lw_c2 {g : Gx} {b0 L : Nat} {xs : Nat → Int32} {a b o : Nat} {Z : State → Prop} {j : Nat} {σ μ : St} {w : Nat → Int32} (hlc : lC g b0 L xs a b o) (hj : 6 * j + 6 ≤ L) (h : Rel (j + 1) σ μ) (K : lK1 g b0 a b o Z j) : gW g 7 Z (114 + j) (160121 + 6 * j) (lA g) 282 (lvJ b0 a b o (nI (6 * j)) none none) [] (lP (gD g) (gdA g) a b o σ μ w) := by
  have hL := hlc.2.1.2.2
  refine gt_aload_n hlc.1 dL_law_282 rfl rfl ?_
  refine lt_arg (c := 1) hlc hj (by decide) (by decide) dL_law_283 dL_law_284 dL_law_286 dL_law_287 dL_law_288 ?_
  refine lt_C (rest := []) (As := [.int (xs (6 * j + 1))]) hlc ⟨by omega, by omega⟩ dL_law_289 (C11_enlist h (xs (6 * j + 1))) mvL_29 (by decide) rfl (fun _ => rfl) rfl (Nat.le_of_ble_eq_true rfl) (fun τ hτ => ?_)
  refine gt_aload_n hlc.1 dL_law_292 rfl rfl ?_
  refine lt_arg (c := 1) hlc hj (by decide) (by decide) dL_law_293 dL_law_294 dL_law_296 dL_law_297 dL_law_298 ?_
  refine lt_M (rest := [.int (sp_enlist μ (xs (6 * j + 1))).1]) (As := [.int (xs (6 * j + 1))]) hlc ⟨by omega, by omega⟩ dL_law_299 (C12_enlist μ h.1.1.1 (xs (6 * j + 1))) mvL_33 (by decide) rfl (fun _ => rfl) rfl (Nat.le_of_ble_eq_true rfl) (fun ν hν => ?_)
  refine gt_icmp_eq (tgt := 1429) hlc.1 dL_law_302 (by omega) (fun _ => ?_) (fun h => absurd rfl h)
  exact gW_wide (by omega) (by omega) (K _ _ _ (hτ.sE hν))
theorem lw_c3 {g : Gx} {b0 L : Nat} {xs : Nat → Int32} {a b o : Nat} {Z : State → Prop} {j : Nat} {σ μ : St} {w : Nat → Int32} (hlc : lC g b0 L xs a b o) (hj : 6 * j + 6 ≤ L) (h : Rel (j + 1) σ μ) (K : lK1 g b0 a b o Z j) : gW g 7 Z (114 + j) (160121 + 6 * j) (lA g) 307 (lvJ b0 a b o (nI (6 * j)) none none) [] (lP (gD g) (gdA g) a b o σ μ w) := by
  have hL := hlc.2.1.2.2
  refine gt_aload_n hlc.1 dL_law_307 rfl rfl ?_
  refine lt_arg (c := 1) hlc hj (by decide) (by decide) dL_law_308 dL_law_309 dL_law_311 dL_law_312 dL_law_313 ?_
  refine lt_C (rest := []) (As := [.int (xs (6 * j + 1))]) hlc ⟨by omega, by omega⟩ dL_law_314 (C11_lies h (xs (6 * j + 1))) mvL_34 (by decide) rfl (fun _ => rfl) rfl (Nat.le_of_ble_eq_true rfl) (fun τ hτ => ?_)
  refine gt_aload_n hlc.1 dL_law_317 rfl rfl ?_
  refine lt_arg (c := 1) hlc hj (by decide) (by decide) dL_law_318 dL_law_319 dL_law_321 dL_law_322 dL_law_323 ?_
  refine lt_M (rest := [.int (sp_lies μ (xs (6 * j + 1))).1]) (As := [.int (xs (6 * j + 1))]) hlc ⟨by omega, by omega⟩ dL_law_324 (C12_lies μ h.1.1.1 (xs (6 * j + 1))) mvL_37 (by decide) rfl (fun _ => rfl) rfl (Nat.le_of_ble_eq_true rfl) (fun ν hν => ?_)
  refine gt_icmp_eq (tgt := 1429) hlc.1 dL_law_327 (by omega) (fun _ => ?_) (fun h => absurd rfl h)
  exact gW_wide (by omega) (by omega) (K _ _ _ (hτ.sE hν))
theorem lw_c4 {g : Gx} {b0 L : Nat} {xs : Nat → Int32} {a b o : Nat} {Z : State → Prop} {j : Nat} {σ μ : St} {w : Nat → Int32} (hlc : lC g b0 L xs a b o) (hj : 6 * j + 6 ≤ L) (h : Rel (j + 1) σ μ) (K : lK1 g b0 a b o Z j) : gW g 7 Z (114 + j) (160121 + 6 * j) (lA g) 332 (lvJ b0 a b o (nI (6 * j)) none none) [] (lP (gD g) (gdA g) a b o σ μ w) := by
  have hL := hlc.2.1.2.2
  refine gt_aload_n hlc.1 dL_law_332 rfl rfl ?_
  refine lt_arg (c := 1) hlc hj (by decide) (by decide) dL_law_333 dL_law_334 dL_law_336 dL_law_337 dL_law_338 ?_
  refine lt_arg (c := 2) hlc hj (by decide) (by decide) dL_law_339 dL_law_340 dL_law_342 dL_law_343 dL_law_344 ?_
  refine lt_C (rest := []) (As := [.int (xs (6 * j + 1)), .int (xs (6 * j + 2))]) hlc ⟨by omega, by omega⟩ dL_law_345 (C11_peg h (xs (6 * j + 1)) (xs (6 * j + 2))) mvL_38 (by decide) rfl (fun _ => rfl) rfl (Nat.le_of_ble_eq_true rfl) (fun τ hτ => ?_)
  refine gt_aload_n hlc.1 dL_law_348 rfl rfl ?_
  refine lt_arg (c := 1) hlc hj (by decide) (by decide) dL_law_349 dL_law_350 dL_law_352 dL_law_353 dL_law_354 ?_
  refine lt_arg (c := 2) hlc hj (by decide) (by decide) dL_law_355 dL_law_356 dL_law_358 dL_law_359 dL_law_360 ?_
  refine lt_M (rest := [.int (sp_peg μ (xs (6 * j + 1)) (xs (6 * j + 2))).1]) (As := [.int (xs (6 * j + 1)), .int (xs (6 * j + 2))]) hlc ⟨by omega, by omega⟩ dL_law_361 (C12_peg μ h.1.1.1 (xs (6 * j + 1)) (xs (6 * j + 2))) mvL_41 (by decide) rfl (fun _ => rfl) rfl (Nat.le_of_ble_eq_true rfl) (fun ν hν => ?_)
  refine gt_icmp_eq (tgt := 1429) hlc.1 dL_law_364 (by omega) (fun _ => ?_) (fun h => absurd rfl h)
  exact gW_wide (by omega) (by omega) (K _ _ _ (hτ.sE hν))
theorem lw_c5 {g : Gx} {b0 L : Nat} {xs : Nat → Int32} {a b o : Nat} {Z : State → Prop} {j : Nat} {σ μ : St} {w : Nat → Int32} (hlc : lC g b0 L xs a b o) (hj : 6 * j + 6 ≤ L) (h : Rel (j + 1) σ μ) (K : lK1 g b0 a b o Z j) : gW g 7 Z (114 + j) (160121 + 6 * j) (lA g) 369 (lvJ b0 a b o (nI (6 * j)) none none) [] (lP (gD g) (gdA g) a b o σ μ w) := by
  have hL := hlc.2.1.2.2
  refine gt_aload_n hlc.1 dL_law_369 rfl rfl ?_
  refine lt_arg (c := 1) hlc hj (by decide) (by decide) dL_law_370 dL_law_371 dL_law_373 dL_law_374 dL_law_375 ?_
  refine lt_C (rest := []) (As := [.int (xs (6 * j + 1))]) hlc ⟨by omega, by omega⟩ dL_law_376 (C11_show h (xs (6 * j + 1))) mvL_42 (by decide) rfl (fun _ => rfl) rfl (Nat.le_of_ble_eq_true rfl) (fun τ hτ => ?_)
  refine gt_aload_n hlc.1 dL_law_379 rfl rfl ?_
  refine lt_arg (c := 1) hlc hj (by decide) (by decide) dL_law_380 dL_law_381 dL_law_383 dL_law_384 dL_law_385 ?_
  refine lt_M (rest := [.int (sp_show μ (xs (6 * j + 1))).1]) (As := [.int (xs (6 * j + 1))]) hlc ⟨by omega, by omega⟩ dL_law_386 (C12_show μ h.1.1.1 (xs (6 * j + 1))) mvL_45 (by decide) rfl (fun _ => rfl) rfl (Nat.le_of_ble_eq_true rfl) (fun ν hν => ?_)
  refine gt_icmp_eq (tgt := 1429) hlc.1 dL_law_389 (by omega) (fun _ => ?_) (fun h => absurd rfl h)
  exact gW_wide (by omega) (by omega) (K _ _ _ (hτ.sE hν))
theorem lw_c6 {g : Gx} {b0 L : Nat} {xs : Nat → Int32} {a b o : Nat} {Z : State → Prop} {j : Nat} {σ μ : St} {w : Nat → Int32} (hlc : lC g b0 L xs a b o) (hj : 6 * j + 6 ≤ L) (h : Rel (j + 1) σ μ) (K : lK1 g b0 a b o Z j) : gW g 7 Z (114 + j) (160121 + 6 * j) (lA g) 394 (lvJ b0 a b o (nI (6 * j)) none none) [] (lP (gD g) (gdA g) a b o σ μ w) := by
  have hL := hlc.2.1.2.2
  refine gt_aload_n hlc.1 dL_law_394 rfl rfl ?_
  refine lt_arg (c := 1) hlc hj (by decide) (by decide) dL_law_395 dL_law_396 dL_law_398 dL_law_399 dL_law_400 ?_
  refine lt_C (rest := []) (As := [.int (xs (6 * j + 1))]) hlc ⟨by omega, by omega⟩ dL_law_401 (C11_hand h (xs (6 * j + 1))) mvL_46 (by decide) rfl (fun _ => rfl) rfl (Nat.le_of_ble_eq_true rfl) (fun τ hτ => ?_)
  refine gt_aload_n hlc.1 dL_law_404 rfl rfl ?_
  refine lt_arg (c := 1) hlc hj (by decide) (by decide) dL_law_405 dL_law_406 dL_law_408 dL_law_409 dL_law_410 ?_
  refine lt_M (rest := [.int (sp_hand μ (xs (6 * j + 1))).1]) (As := [.int (xs (6 * j + 1))]) hlc ⟨by omega, by omega⟩ dL_law_411 (C12_hand μ h.1.1.1 (xs (6 * j + 1))) mvL_49 (by decide) rfl (fun _ => rfl) rfl (Nat.le_of_ble_eq_true rfl) (fun ν hν => ?_)
  refine gt_icmp_eq (tgt := 1429) hlc.1 dL_law_414 (by omega) (fun _ => ?_) (fun h => absurd rfl h)
  exact gW_wide (by omega) (by omega) (K _ _ _ (hτ.sE hν))
theorem lw_c7 {g : Gx} {b0 L : Nat} {xs : Nat → Int32} {a b o : Nat} {Z : State → Prop} {j : Nat} {σ μ : St} {w : Nat → Int32} (hlc : lC g b0 L xs a b o) (hj : 6 * j + 6 ≤ L) (h : Rel (j + 1) σ μ) (K : lK1 g b0 a b o Z j) : gW g 7 Z (114 + j) (160121 + 6 * j) (lA g) 419 (lvJ b0 a b o (nI (6 * j)) none none) [] (lP (gD g) (gdA g) a b o σ μ w) := by
  have hL := hlc.2.1.2.2
  refine gt_aload_n hlc.1 dL_law_419 rfl rfl ?_
  refine lt_C (rest := []) (As := []) hlc ⟨by omega, by omega⟩ dL_law_420 (C11_sort h ) mvL_50 (by decide) rfl (fun _ => rfl) rfl (Nat.le_of_ble_eq_true rfl) (fun τ hτ => ?_)
  refine gt_aload_n hlc.1 dL_law_423 rfl rfl ?_
  refine lt_M (rest := [.int (sp_sort μ ).1]) (As := []) hlc ⟨by omega, by omega⟩ dL_law_424 (C12_sort μ h.1.1.1 h.1.1.2.1 ) mvL_54 (by decide) rfl (fun _ => rfl) rfl (Nat.le_of_ble_eq_true rfl) (fun ν hν => ?_)
  refine gt_icmp_eq (tgt := 1429) hlc.1 dL_law_427 (by omega) (fun _ => ?_) (fun h => absurd rfl h)
  exact gW_wide (by omega) (by omega) (K _ _ _ (hτ.sE hν))
theorem lw_c8 {g : Gx} {b0 L : Nat} {xs : Nat → Int32} {a b o : Nat} {Z : State → Prop} {j : Nat} {σ μ : St} {w : Nat → Int32} (hlc : lC g b0 L xs a b o) (hj : 6 * j + 6 ≤ L) (h : Rel (j + 1) σ μ) (K : lK1 g b0 a b o Z j) : gW g 7 Z (114 + j) (160121 + 6 * j) (lA g) 432 (lvJ b0 a b o (nI (6 * j)) none none) [] (lP (gD g) (gdA g) a b o σ μ w) := by
  have hL := hlc.2.1.2.2
  refine gt_aload_n hlc.1 dL_law_432 rfl rfl ?_
  refine lt_arg (c := 1) hlc hj (by decide) (by decide) dL_law_433 dL_law_434 dL_law_436 dL_law_437 dL_law_438 ?_
  refine lt_arg (c := 2) hlc hj (by decide) (by decide) dL_law_439 dL_law_440 dL_law_442 dL_law_443 dL_law_444 ?_
  refine lt_C (rest := []) (As := [.int (xs (6 * j + 1)), .int (xs (6 * j + 2))]) hlc ⟨by omega, by omega⟩ dL_law_445 (C11_answer h (xs (6 * j + 1)) (xs (6 * j + 2))) mvL_55 (by decide) rfl (fun _ => rfl) rfl (Nat.le_of_ble_eq_true rfl) (fun τ hτ => ?_)
  refine gt_aload_n hlc.1 dL_law_448 rfl rfl ?_
  refine lt_arg (c := 1) hlc hj (by decide) (by decide) dL_law_449 dL_law_450 dL_law_452 dL_law_453 dL_law_454 ?_
  refine lt_arg (c := 2) hlc hj (by decide) (by decide) dL_law_455 dL_law_456 dL_law_458 dL_law_459 dL_law_460 ?_
  refine lt_M (rest := [.int (sp_answer μ (xs (6 * j + 1)) (xs (6 * j + 2))).1]) (As := [.int (xs (6 * j + 1)), .int (xs (6 * j + 2))]) hlc ⟨by omega, by omega⟩ dL_law_461 (C12_answer μ h.1.1.1 (xs (6 * j + 1)) (xs (6 * j + 2))) mvL_58 (by decide) rfl (fun _ => rfl) rfl (Nat.le_of_ble_eq_true rfl) (fun ν hν => ?_)
  refine gt_icmp_eq (tgt := 1429) hlc.1 dL_law_464 (by omega) (fun _ => ?_) (fun h => absurd rfl h)
  exact gW_wide (by omega) (by omega) (K _ _ _ (hτ.sE hν))
theorem lw_c9 {g : Gx} {b0 L : Nat} {xs : Nat → Int32} {a b o : Nat} {Z : State → Prop} {j : Nat} {σ μ : St} {w : Nat → Int32} (hlc : lC g b0 L xs a b o) (hj : 6 * j + 6 ≤ L) (h : Rel (j + 1) σ μ) (K : lK1 g b0 a b o Z j) : gW g 7 Z (114 + j) (160121 + 6 * j) (lA g) 469 (lvJ b0 a b o (nI (6 * j)) none none) [] (lP (gD g) (gdA g) a b o σ μ w) := by
  have hL := hlc.2.1.2.2
  refine gt_aload_n hlc.1 dL_law_469 rfl rfl ?_
  refine lt_arg (c := 1) hlc hj (by decide) (by decide) dL_law_470 dL_law_471 dL_law_473 dL_law_474 dL_law_475 ?_
  refine lt_C (rest := []) (As := [.int (xs (6 * j + 1))]) hlc ⟨by omega, by omega⟩ dL_law_476 (C11_reply h (xs (6 * j + 1))) mvL_59 (by decide) rfl (fun _ => rfl) rfl (Nat.le_of_ble_eq_true rfl) (fun τ hτ => ?_)
  refine gt_aload_n hlc.1 dL_law_479 rfl rfl ?_
  refine lt_arg (c := 1) hlc hj (by decide) (by decide) dL_law_480 dL_law_481 dL_law_483 dL_law_484 dL_law_485 ?_
  refine lt_M (rest := [.int (sp_reply μ (xs (6 * j + 1))).1]) (As := [.int (xs (6 * j + 1))]) hlc ⟨by omega, by omega⟩ dL_law_486 (C12_reply μ h.1.1.1 (xs (6 * j + 1))) mvL_62 (by decide) rfl (fun _ => rfl) rfl (Nat.le_of_ble_eq_true rfl) (fun ν hν => ?_)
  refine gt_icmp_eq (tgt := 1429) hlc.1 dL_law_489 (by omega) (fun _ => ?_) (fun h => absurd rfl h)
  exact gW_wide (by omega) (by omega) (K _ _ _ (hτ.sE hν))
theorem lw_c10 {g : Gx} {b0 L : Nat} {xs : Nat → Int32} {a b o : Nat} {Z : State → Prop} {j : Nat} {σ μ : St} {w : Nat → Int32} (hlc : lC g b0 L xs a b o) (hj : 6 * j + 6 ≤ L) (h : Rel (j + 1) σ μ) (K : lK1 g b0 a b o Z j) : gW g 7 Z (114 + j) (160121 + 6 * j) (lA g) 494 (lvJ b0 a b o (nI (6 * j)) none none) [] (lP (gD g) (gdA g) a b o σ μ w) := by
  have hL := hlc.2.1.2.2
  refine gt_aload_n hlc.1 dL_law_494 rfl rfl ?_
  refine lt_arg (c := 1) hlc hj (by decide) (by decide) dL_law_495 dL_law_496 dL_law_498 dL_law_499 dL_law_500 ?_
  refine lt_C (rest := []) (As := [.int (xs (6 * j + 1))]) hlc ⟨by omega, by omega⟩ dL_law_501 (C11_tell h (xs (6 * j + 1))) mvL_63 (by decide) rfl (fun _ => rfl) rfl (Nat.le_of_ble_eq_true rfl) (fun τ hτ => ?_)
  refine gt_aload_n hlc.1 dL_law_504 rfl rfl ?_
  refine lt_arg (c := 1) hlc hj (by decide) (by decide) dL_law_505 dL_law_506 dL_law_508 dL_law_509 dL_law_510 ?_
  refine lt_M (rest := [.int (sp_tell μ (xs (6 * j + 1))).1]) (As := [.int (xs (6 * j + 1))]) hlc ⟨by omega, by omega⟩ dL_law_511 (C12_tell μ h.1.1.1 (xs (6 * j + 1))) mvL_66 (by decide) rfl (fun _ => rfl) rfl (Nat.le_of_ble_eq_true rfl) (fun ν hν => ?_)
  refine gt_icmp_eq (tgt := 1429) hlc.1 dL_law_514 (by omega) (fun _ => ?_) (fun h => absurd rfl h)
  exact gW_wide (by omega) (by omega) (K _ _ _ (hτ.sE hν))
theorem lw_c11 {g : Gx} {b0 L : Nat} {xs : Nat → Int32} {a b o : Nat} {Z : State → Prop} {j : Nat} {σ μ : St} {w : Nat → Int32} (hlc : lC g b0 L xs a b o) (hj : 6 * j + 6 ≤ L) (h : Rel (j + 1) σ μ) (K : lK1 g b0 a b o Z j) : gW g 7 Z (114 + j) (160121 + 6 * j) (lA g) 519 (lvJ b0 a b o (nI (6 * j)) none none) [] (lP (gD g) (gdA g) a b o σ μ w) := by
  have hL := hlc.2.1.2.2
  refine gt_aload_n hlc.1 dL_law_519 rfl rfl ?_
  refine lt_C (rest := []) (As := []) hlc ⟨by omega, by omega⟩ dL_law_520 (C11_undo h ) mvL_67 (by decide) rfl (fun _ => rfl) rfl (Nat.le_of_ble_eq_true rfl) (fun τ hτ => ?_)
  refine gt_aload_n hlc.1 dL_law_523 rfl rfl ?_
  refine lt_M (rest := [.int (sp_undo μ ).1]) (As := []) hlc ⟨by omega, by omega⟩ dL_law_524 (C12_undo μ  ) mvL_70 (by decide) rfl (fun _ => rfl) rfl (Nat.le_of_ble_eq_true rfl) (fun ν hν => ?_)
  refine gt_icmp_eq (tgt := 1429) hlc.1 dL_law_527 (by omega) (fun _ => ?_) (fun h => absurd rfl h)
  exact gW_wide (by omega) (by omega) (K _ _ _ (hτ.sE hν))
theorem lw_c12 {g : Gx} {b0 L : Nat} {xs : Nat → Int32} {a b o : Nat} {Z : State → Prop} {j : Nat} {σ μ : St} {w : Nat → Int32} (hlc : lC g b0 L xs a b o) (hj : 6 * j + 6 ≤ L) (h : Rel (j + 1) σ μ) (K : lK1 g b0 a b o Z j) : gW g 7 Z (114 + j) (160121 + 6 * j) (lA g) 532 (lvJ b0 a b o (nI (6 * j)) none none) [] (lP (gD g) (gdA g) a b o σ μ w) := by
  have hL := hlc.2.1.2.2
  refine gt_aload_n hlc.1 dL_law_532 rfl rfl ?_
  refine lt_arg (c := 1) hlc hj (by decide) (by decide) dL_law_533 dL_law_534 dL_law_536 dL_law_537 dL_law_538 ?_
  refine lt_C (rest := []) (As := [.int (xs (6 * j + 1))]) hlc ⟨by omega, by omega⟩ dL_law_539 (C11_quarrel h (xs (6 * j + 1))) mvL_71 (by decide) rfl (fun _ => rfl) rfl (Nat.le_of_ble_eq_true rfl) (fun τ hτ => ?_)
  refine gt_aload_n hlc.1 dL_law_542 rfl rfl ?_
  refine lt_arg (c := 1) hlc hj (by decide) (by decide) dL_law_543 dL_law_544 dL_law_546 dL_law_547 dL_law_548 ?_
  refine lt_M (rest := [.int (sp_quarrel μ (xs (6 * j + 1))).1]) (As := [.int (xs (6 * j + 1))]) hlc ⟨by omega, by omega⟩ dL_law_549 (C12_quarrel μ h.1.1.2.2.1 (xs (6 * j + 1))) mvL_74 (by decide) rfl (fun _ => rfl) rfl (Nat.le_of_ble_eq_true rfl) (fun ν hν => ?_)
  refine gt_icmp_eq (tgt := 1429) hlc.1 dL_law_552 (by omega) (fun _ => ?_) (fun h => absurd rfl h)
  exact gW_wide (by omega) (by omega) (K _ _ _ (hτ.sE hν))
theorem lw_c13 {g : Gx} {b0 L : Nat} {xs : Nat → Int32} {a b o : Nat} {Z : State → Prop} {j : Nat} {σ μ : St} {w : Nat → Int32} (hlc : lC g b0 L xs a b o) (hj : 6 * j + 6 ≤ L) (h : Rel (j + 1) σ μ) (K : lK1 g b0 a b o Z j) : gW g 7 Z (114 + j) (160121 + 6 * j) (lA g) 557 (lvJ b0 a b o (nI (6 * j)) none none) [] (lP (gD g) (gdA g) a b o σ μ w) := by
  have hL := hlc.2.1.2.2
  refine gt_aload_n hlc.1 dL_law_557 rfl rfl ?_
  refine lt_arg (c := 1) hlc hj (by decide) (by decide) dL_law_558 dL_law_559 dL_law_561 dL_law_562 dL_law_563 ?_
  refine lt_arg (c := 2) hlc hj (by decide) (by decide) dL_law_564 dL_law_565 dL_law_567 dL_law_568 dL_law_569 ?_
  refine lt_C (rest := []) (As := [.int (xs (6 * j + 1)), .int (xs (6 * j + 2))]) hlc ⟨by omega, by omega⟩ dL_law_570 (C11_turn h (xs (6 * j + 1)) (xs (6 * j + 2))) mvL_75 (by decide) rfl (fun _ => rfl) rfl (Nat.le_of_ble_eq_true rfl) (fun τ hτ => ?_)
  refine gt_aload_n hlc.1 dL_law_573 rfl rfl ?_
  refine lt_arg (c := 1) hlc hj (by decide) (by decide) dL_law_574 dL_law_575 dL_law_577 dL_law_578 dL_law_579 ?_
  refine lt_arg (c := 2) hlc hj (by decide) (by decide) dL_law_580 dL_law_581 dL_law_583 dL_law_584 dL_law_585 ?_
  refine lt_M (rest := [.int (sp_turn μ (xs (6 * j + 1)) (xs (6 * j + 2))).1]) (As := [.int (xs (6 * j + 1)), .int (xs (6 * j + 2))]) hlc ⟨by omega, by omega⟩ dL_law_586 (C12_turn μ h.1.1.1 (xs (6 * j + 1)) (xs (6 * j + 2))) mvL_78 (by decide) rfl (fun _ => rfl) rfl (Nat.le_of_ble_eq_true rfl) (fun ν hν => ?_)
  refine gt_icmp_eq (tgt := 1429) hlc.1 dL_law_589 (by omega) (fun _ => ?_) (fun h => absurd rfl h)
  exact gW_wide (by omega) (by omega) (K _ _ _ (hτ.sE hν))
theorem lw_c14 {g : Gx} {b0 L : Nat} {xs : Nat → Int32} {a b o : Nat} {Z : State → Prop} {j : Nat} {σ μ : St} {w : Nat → Int32} (hlc : lC g b0 L xs a b o) (hj : 6 * j + 6 ≤ L) (h : Rel (j + 1) σ μ) (K : lK1 g b0 a b o Z j) : gW g 7 Z (114 + j) (160121 + 6 * j) (lA g) 594 (lvJ b0 a b o (nI (6 * j)) none none) [] (lP (gD g) (gdA g) a b o σ μ w) := by
  have hL := hlc.2.1.2.2
  refine gt_aload_n hlc.1 dL_law_594 rfl rfl ?_
  refine lt_arg (c := 1) hlc hj (by decide) (by decide) dL_law_595 dL_law_596 dL_law_598 dL_law_599 dL_law_600 ?_
  refine lt_C (rest := []) (As := [.int (xs (6 * j + 1))]) hlc ⟨by omega, by omega⟩ dL_law_601 (C11_left h (xs (6 * j + 1))) mvL_79 (by decide) rfl (fun _ => rfl) rfl (Nat.le_of_ble_eq_true rfl) (fun τ hτ => ?_)
  refine gt_aload_n hlc.1 dL_law_604 rfl rfl ?_
  refine lt_arg (c := 1) hlc hj (by decide) (by decide) dL_law_605 dL_law_606 dL_law_608 dL_law_609 dL_law_610 ?_
  refine lt_M (rest := [.int (sp_left μ (xs (6 * j + 1))).1]) (As := [.int (xs (6 * j + 1))]) hlc ⟨by omega, by omega⟩ dL_law_611 (C12_left μ h.1.1.1 (xs (6 * j + 1))) mvL_82 (by decide) rfl (fun _ => rfl) rfl (Nat.le_of_ble_eq_true rfl) (fun ν hν => ?_)
  refine gt_icmp_eq (tgt := 1429) hlc.1 dL_law_614 (by omega) (fun _ => ?_) (fun h => absurd rfl h)
  exact gW_wide (by omega) (by omega) (K _ _ _ (hτ.sE hν))
theorem lw_c15 {g : Gx} {b0 L : Nat} {xs : Nat → Int32} {a b o : Nat} {Z : State → Prop} {j : Nat} {σ μ : St} {w : Nat → Int32} (hlc : lC g b0 L xs a b o) (hj : 6 * j + 6 ≤ L) (h : Rel (j + 1) σ μ) (K : lK1 g b0 a b o Z j) : gW g 7 Z (114 + j) (160121 + 6 * j) (lA g) 619 (lvJ b0 a b o (nI (6 * j)) none none) [] (lP (gD g) (gdA g) a b o σ μ w) := by
  have hL := hlc.2.1.2.2
  refine gt_aload_n hlc.1 dL_law_619 rfl rfl ?_
  refine lt_arg (c := 1) hlc hj (by decide) (by decide) dL_law_620 dL_law_621 dL_law_623 dL_law_624 dL_law_625 ?_
  refine lt_C (rest := []) (As := [.int (xs (6 * j + 1))]) hlc ⟨by omega, by omega⟩ dL_law_626 (C11_falses h (xs (6 * j + 1))) mvL_83 (by decide) rfl (fun _ => rfl) rfl (Nat.le_of_ble_eq_true rfl) (fun τ hτ => ?_)
  refine gt_aload_n hlc.1 dL_law_629 rfl rfl ?_
  refine lt_arg (c := 1) hlc hj (by decide) (by decide) dL_law_630 dL_law_631 dL_law_633 dL_law_634 dL_law_635 ?_
  refine lt_M (rest := [.int (sp_falses μ (xs (6 * j + 1))).1]) (As := [.int (xs (6 * j + 1))]) hlc ⟨by omega, by omega⟩ dL_law_636 (C12_falses μ h.1.1.1 (xs (6 * j + 1))) mvL_86 (by decide) rfl (fun _ => rfl) rfl (Nat.le_of_ble_eq_true rfl) (fun ν hν => ?_)
  refine gt_icmp_eq (tgt := 1429) hlc.1 dL_law_639 (by omega) (fun _ => ?_) (fun h => absurd rfl h)
  exact gW_wide (by omega) (by omega) (K _ _ _ (hτ.sE hν))
theorem lw_c16 {g : Gx} {b0 L : Nat} {xs : Nat → Int32} {a b o : Nat} {Z : State → Prop} {j : Nat} {σ μ : St} {w : Nat → Int32} (hlc : lC g b0 L xs a b o) (hj : 6 * j + 6 ≤ L) (h : Rel (j + 1) σ μ) (K : lK1 g b0 a b o Z j) : gW g 7 Z (114 + j) (160121 + 6 * j) (lA g) 644 (lvJ b0 a b o (nI (6 * j)) none none) [] (lP (gD g) (gdA g) a b o σ μ w) := by
  have hL := hlc.2.1.2.2
  refine gt_aload_n hlc.1 dL_law_644 rfl rfl ?_
  refine lt_arg (c := 1) hlc hj (by decide) (by decide) dL_law_645 dL_law_646 dL_law_648 dL_law_649 dL_law_650 ?_
  refine lt_arg (c := 2) hlc hj (by decide) (by decide) dL_law_651 dL_law_652 dL_law_654 dL_law_655 dL_law_656 ?_
  refine lt_C (rest := []) (As := [.int (xs (6 * j + 1)), .int (xs (6 * j + 2))]) hlc ⟨by omega, by omega⟩ dL_law_657 (C11_part h (xs (6 * j + 1)) (xs (6 * j + 2))) mvL_87 (by decide) rfl (fun _ => rfl) rfl (Nat.le_of_ble_eq_true rfl) (fun τ hτ => ?_)
  refine gt_aload_n hlc.1 dL_law_660 rfl rfl ?_
  refine lt_arg (c := 1) hlc hj (by decide) (by decide) dL_law_661 dL_law_662 dL_law_664 dL_law_665 dL_law_666 ?_
  refine lt_arg (c := 2) hlc hj (by decide) (by decide) dL_law_667 dL_law_668 dL_law_670 dL_law_671 dL_law_672 ?_
  refine lt_M (rest := [.int (sp_part μ (xs (6 * j + 1)) (xs (6 * j + 2))).1]) (As := [.int (xs (6 * j + 1)), .int (xs (6 * j + 2))]) hlc ⟨by omega, by omega⟩ dL_law_673 (C12_part μ h.1.1.1 (xs (6 * j + 1)) (xs (6 * j + 2))) mvL_90 (by decide) rfl (fun _ => rfl) rfl (Nat.le_of_ble_eq_true rfl) (fun ν hν => ?_)
  refine gt_icmp_eq (tgt := 1429) hlc.1 dL_law_676 (by omega) (fun _ => ?_) (fun h => absurd rfl h)
  exact gW_wide (by omega) (by omega) (K _ _ _ (hτ.sE hν))
theorem lw_c17 {g : Gx} {b0 L : Nat} {xs : Nat → Int32} {a b o : Nat} {Z : State → Prop} {j : Nat} {σ μ : St} {w : Nat → Int32} (hlc : lC g b0 L xs a b o) (hj : 6 * j + 6 ≤ L) (h : Rel (j + 1) σ μ) (K : lK1 g b0 a b o Z j) : gW g 7 Z (114 + j) (160121 + 6 * j) (lA g) 681 (lvJ b0 a b o (nI (6 * j)) none none) [] (lP (gD g) (gdA g) a b o σ μ w) := by
  have hL := hlc.2.1.2.2
  refine gt_aload_n hlc.1 dL_law_681 rfl rfl ?_
  refine lt_arg (c := 1) hlc hj (by decide) (by decide) dL_law_682 dL_law_683 dL_law_685 dL_law_686 dL_law_687 ?_
  refine lt_C (rest := []) (As := [.int (xs (6 * j + 1))]) hlc ⟨by omega, by omega⟩ dL_law_688 (C11_among h (by omega) (xs (6 * j + 1))) mvL_91 (by decide) rfl (fun _ => rfl) rfl (Nat.le_of_ble_eq_true rfl) (fun τ hτ => ?_)
  refine gt_aload_n hlc.1 dL_law_691 rfl rfl ?_
  refine lt_arg (c := 1) hlc hj (by decide) (by decide) dL_law_692 dL_law_693 dL_law_695 dL_law_696 dL_law_697 ?_
  refine lt_M (rest := [.int (sp_among μ (xs (6 * j + 1))).1]) (As := [.int (xs (6 * j + 1))]) hlc ⟨by omega, by omega⟩ dL_law_698 (C12_among μ h.1.1.1 (xs (6 * j + 1))) mvL_94 (by decide) rfl (fun _ => rfl) rfl (Nat.le_of_ble_eq_true rfl) (fun ν hν => ?_)
  refine gt_icmp_eq (tgt := 1429) hlc.1 dL_law_701 (by omega) (fun _ => ?_) (fun h => absurd rfl h)
  exact gW_wide (by omega) (by omega) (K _ _ _ (hτ.sE hν))
theorem lw_c18 {g : Gx} {b0 L : Nat} {xs : Nat → Int32} {a b o : Nat} {Z : State → Prop} {j : Nat} {σ μ : St} {w : Nat → Int32} (hlc : lC g b0 L xs a b o) (hj : 6 * j + 6 ≤ L) (h : Rel (j + 1) σ μ) (K : lK1 g b0 a b o Z j) : gW g 7 Z (114 + j) (160121 + 6 * j) (lA g) 706 (lvJ b0 a b o (nI (6 * j)) none none) [] (lP (gD g) (gdA g) a b o σ μ w) := by
  have hL := hlc.2.1.2.2
  refine gt_aload_n hlc.1 dL_law_706 rfl rfl ?_
  refine lt_arg (c := 1) hlc hj (by decide) (by decide) dL_law_707 dL_law_708 dL_law_710 dL_law_711 dL_law_712 ?_
  refine lt_arg (c := 2) hlc hj (by decide) (by decide) dL_law_713 dL_law_714 dL_law_716 dL_law_717 dL_law_718 ?_
  refine lt_C (rest := []) (As := [.int (xs (6 * j + 1)), .int (xs (6 * j + 2))]) hlc ⟨by omega, by omega⟩ dL_law_719 (C11_like h (xs (6 * j + 1)) (xs (6 * j + 2))) mvL_95 (by decide) rfl (fun _ => rfl) rfl (Nat.le_of_ble_eq_true rfl) (fun τ hτ => ?_)
  refine gt_aload_n hlc.1 dL_law_722 rfl rfl ?_
  refine lt_arg (c := 1) hlc hj (by decide) (by decide) dL_law_723 dL_law_724 dL_law_726 dL_law_727 dL_law_728 ?_
  refine lt_arg (c := 2) hlc hj (by decide) (by decide) dL_law_729 dL_law_730 dL_law_732 dL_law_733 dL_law_734 ?_
  refine lt_M (rest := [.int (sp_like μ (xs (6 * j + 1)) (xs (6 * j + 2))).1]) (As := [.int (xs (6 * j + 1)), .int (xs (6 * j + 2))]) hlc ⟨by omega, by omega⟩ dL_law_735 (C12_like μ h.1.1.1 (xs (6 * j + 1)) (xs (6 * j + 2))) mvL_98 (by decide) rfl (fun _ => rfl) rfl (Nat.le_of_ble_eq_true rfl) (fun ν hν => ?_)
  refine gt_icmp_eq (tgt := 1429) hlc.1 dL_law_738 (by omega) (fun _ => ?_) (fun h => absurd rfl h)
  exact gW_wide (by omega) (by omega) (K _ _ _ (hτ.sE hν))
theorem lw_c19 {g : Gx} {b0 L : Nat} {xs : Nat → Int32} {a b o : Nat} {Z : State → Prop} {j : Nat} {σ μ : St} {w : Nat → Int32} (hlc : lC g b0 L xs a b o) (hj : 6 * j + 6 ≤ L) (h : Rel (j + 1) σ μ) (K : lK1 g b0 a b o Z j) : gW g 7 Z (114 + j) (160121 + 6 * j) (lA g) 743 (lvJ b0 a b o (nI (6 * j)) none none) [] (lP (gD g) (gdA g) a b o σ μ w) := by
  have hL := hlc.2.1.2.2
  refine gt_aload_n hlc.1 dL_law_743 rfl rfl ?_
  refine lt_arg (c := 1) hlc hj (by decide) (by decide) dL_law_744 dL_law_745 dL_law_747 dL_law_748 dL_law_749 ?_
  refine lt_C (rest := []) (As := [.int (xs (6 * j + 1))]) hlc ⟨by omega, by omega⟩ dL_law_750 (C11_least h (xs (6 * j + 1))) mvL_99 (by decide) rfl (fun _ => rfl) rfl (Nat.le_of_ble_eq_true rfl) (fun τ hτ => ?_)
  refine gt_aload_n hlc.1 dL_law_753 rfl rfl ?_
  refine lt_arg (c := 1) hlc hj (by decide) (by decide) dL_law_754 dL_law_755 dL_law_757 dL_law_758 dL_law_759 ?_
  refine lt_M (rest := [.int (sp_least μ (xs (6 * j + 1))).1]) (As := [.int (xs (6 * j + 1))]) hlc ⟨by omega, by omega⟩ dL_law_760 (C12_least μ h.1.1.1 (xs (6 * j + 1))) mvL_102 (by decide) rfl (fun _ => rfl) rfl (Nat.le_of_ble_eq_true rfl) (fun ν hν => ?_)
  refine gt_icmp_eq (tgt := 1429) hlc.1 dL_law_763 (by omega) (fun _ => ?_) (fun h => absurd rfl h)
  exact gW_wide (by omega) (by omega) (K _ _ _ (hτ.sE hν))
theorem lw_c20 {g : Gx} {b0 L : Nat} {xs : Nat → Int32} {a b o : Nat} {Z : State → Prop} {j : Nat} {σ μ : St} {w : Nat → Int32} (hlc : lC g b0 L xs a b o) (hj : 6 * j + 6 ≤ L) (h : Rel (j + 1) σ μ) (K : lK1 g b0 a b o Z j) : gW g 7 Z (114 + j) (160121 + 6 * j) (lA g) 768 (lvJ b0 a b o (nI (6 * j)) none none) [] (lP (gD g) (gdA g) a b o σ μ w) := by
  have hL := hlc.2.1.2.2
  refine gt_aload_n hlc.1 dL_law_768 rfl rfl ?_
  refine lt_arg (c := 1) hlc hj (by decide) (by decide) dL_law_769 dL_law_770 dL_law_772 dL_law_773 dL_law_774 ?_
  refine lt_arg (c := 2) hlc hj (by decide) (by decide) dL_law_775 dL_law_776 dL_law_778 dL_law_779 dL_law_780 ?_
  refine lt_C (rest := []) (As := [.int (xs (6 * j + 1)), .int (xs (6 * j + 2))]) hlc ⟨by omega, by omega⟩ dL_law_781 (C11_sum h (xs (6 * j + 1)) (xs (6 * j + 2))) mvL_103 (by decide) rfl (fun _ => rfl) rfl (Nat.le_of_ble_eq_true rfl) (fun τ hτ => ?_)
  refine gt_aload_n hlc.1 dL_law_784 rfl rfl ?_
  refine lt_arg (c := 1) hlc hj (by decide) (by decide) dL_law_785 dL_law_786 dL_law_788 dL_law_789 dL_law_790 ?_
  refine lt_arg (c := 2) hlc hj (by decide) (by decide) dL_law_791 dL_law_792 dL_law_794 dL_law_795 dL_law_796 ?_
  refine lt_M (rest := [.int (sp_sum μ (xs (6 * j + 1)) (xs (6 * j + 2))).1]) (As := [.int (xs (6 * j + 1)), .int (xs (6 * j + 2))]) hlc ⟨by omega, by omega⟩ dL_law_797 (C12_sum μ h.1.1.1 (xs (6 * j + 1)) (xs (6 * j + 2))) mvL_106 (by decide) rfl (fun _ => rfl) rfl (Nat.le_of_ble_eq_true rfl) (fun ν hν => ?_)
  refine gt_icmp_eq (tgt := 1429) hlc.1 dL_law_800 (by omega) (fun _ => ?_) (fun h => absurd rfl h)
  exact gW_wide (by omega) (by omega) (K _ _ _ (hτ.sE hν))
theorem lw_c21 {g : Gx} {b0 L : Nat} {xs : Nat → Int32} {a b o : Nat} {Z : State → Prop} {j : Nat} {σ μ : St} {w : Nat → Int32} (hlc : lC g b0 L xs a b o) (hj : 6 * j + 6 ≤ L) (h : Rel (j + 1) σ μ) (K : lK1 g b0 a b o Z j) : gW g 7 Z (114 + j) (160121 + 6 * j) (lA g) 805 (lvJ b0 a b o (nI (6 * j)) none none) [] (lP (gD g) (gdA g) a b o σ μ w) := by
  have hL := hlc.2.1.2.2
  refine gt_aload_n hlc.1 dL_law_805 rfl rfl ?_
  refine lt_arg (c := 1) hlc hj (by decide) (by decide) dL_law_806 dL_law_807 dL_law_809 dL_law_810 dL_law_811 ?_
  refine lt_arg (c := 2) hlc hj (by decide) (by decide) dL_law_812 dL_law_813 dL_law_815 dL_law_816 dL_law_817 ?_
  refine lt_arg (c := 3) hlc hj (by decide) (by decide) dL_law_818 dL_law_819 dL_law_821 dL_law_822 dL_law_823 ?_
  refine lt_C (rest := []) (As := [.int (xs (6 * j + 1)), .int (xs (6 * j + 2)), .int (xs (6 * j + 3))]) hlc ⟨by omega, by omega⟩ dL_law_824 (C11_best h (xs (6 * j + 1)) (xs (6 * j + 2)) (xs (6 * j + 3))) mvL_107 (by decide) rfl (fun _ => rfl) rfl (Nat.le_of_ble_eq_true rfl) (fun τ hτ => ?_)
  refine gt_aload_n hlc.1 dL_law_827 rfl rfl ?_
  refine lt_arg (c := 1) hlc hj (by decide) (by decide) dL_law_828 dL_law_829 dL_law_831 dL_law_832 dL_law_833 ?_
  refine lt_arg (c := 2) hlc hj (by decide) (by decide) dL_law_834 dL_law_835 dL_law_837 dL_law_838 dL_law_839 ?_
  refine lt_arg (c := 3) hlc hj (by decide) (by decide) dL_law_840 dL_law_841 dL_law_843 dL_law_844 dL_law_845 ?_
  refine lt_M (rest := [.int (sp_best μ (xs (6 * j + 1)) (xs (6 * j + 2)) (xs (6 * j + 3))).1]) (As := [.int (xs (6 * j + 1)), .int (xs (6 * j + 2)), .int (xs (6 * j + 3))]) hlc ⟨by omega, by omega⟩ dL_law_846 (C12_bestR h (xs (6 * j + 1)) (xs (6 * j + 2)) (xs (6 * j + 3))) mvL_111 (by decide) rfl (fun _ => rfl) rfl (Nat.le_of_ble_eq_true rfl) (fun ν hν => ?_)
  refine gt_icmp_eq (tgt := 1429) hlc.1 dL_law_849 (by omega) (fun _ => ?_) (fun h => absurd rfl h)
  exact gW_wide (by omega) (by omega) (K _ _ _ (hτ.sE hν))
theorem lw_c22 {g : Gx} {b0 L : Nat} {xs : Nat → Int32} {a b o : Nat} {Z : State → Prop} {j : Nat} {σ μ : St} {w : Nat → Int32} (hlc : lC g b0 L xs a b o) (hj : 6 * j + 6 ≤ L) (h : Rel (j + 1) σ μ) (K : lK1 g b0 a b o Z j) : gW g 7 Z (114 + j) (160121 + 6 * j) (lA g) 854 (lvJ b0 a b o (nI (6 * j)) none none) [] (lP (gD g) (gdA g) a b o σ μ w) := by
  have hL := hlc.2.1.2.2
  refine gt_aload_n hlc.1 dL_law_854 rfl rfl ?_
  refine lt_arg (c := 1) hlc hj (by decide) (by decide) dL_law_855 dL_law_856 dL_law_858 dL_law_859 dL_law_860 ?_
  refine lt_arg (c := 2) hlc hj (by decide) (by decide) dL_law_861 dL_law_862 dL_law_864 dL_law_865 dL_law_866 ?_
  refine lt_C (rest := []) (As := [.int (xs (6 * j + 1)), .int (xs (6 * j + 2))]) hlc ⟨by omega, by omega⟩ dL_law_867 (C11_tree h (xs (6 * j + 1)) (xs (6 * j + 2))) mvL_112 (by decide) rfl (fun _ => rfl) rfl (Nat.le_of_ble_eq_true rfl) (fun τ hτ => ?_)
  refine gt_aload_n hlc.1 dL_law_870 rfl rfl ?_
  refine lt_arg (c := 1) hlc hj (by decide) (by decide) dL_law_871 dL_law_872 dL_law_874 dL_law_875 dL_law_876 ?_
  refine lt_arg (c := 2) hlc hj (by decide) (by decide) dL_law_877 dL_law_878 dL_law_880 dL_law_881 dL_law_882 ?_
  refine lt_M (rest := [.int (sp_tree μ (xs (6 * j + 1)) (xs (6 * j + 2))).1]) (As := [.int (xs (6 * j + 1)), .int (xs (6 * j + 2))]) hlc ⟨by omega, by omega⟩ dL_law_883 (C12_tree μ h.1.1.1 (xs (6 * j + 1)) (xs (6 * j + 2))) mvL_115 (by decide) rfl (fun _ => rfl) rfl (Nat.le_of_ble_eq_true rfl) (fun ν hν => ?_)
  refine gt_icmp_eq (tgt := 1429) hlc.1 dL_law_886 (by omega) (fun _ => ?_) (fun h => absurd rfl h)
  exact gW_wide (by omega) (by omega) (K _ _ _ (hτ.sE hν))
theorem lw_c23 {g : Gx} {b0 L : Nat} {xs : Nat → Int32} {a b o : Nat} {Z : State → Prop} {j : Nat} {σ μ : St} {w : Nat → Int32} (hlc : lC g b0 L xs a b o) (hj : 6 * j + 6 ≤ L) (h : Rel (j + 1) σ μ) (K : lK1 g b0 a b o Z j) : gW g 7 Z (114 + j) (160121 + 6 * j) (lA g) 891 (lvJ b0 a b o (nI (6 * j)) none none) [] (lP (gD g) (gdA g) a b o σ μ w) := by
  have hL := hlc.2.1.2.2
  refine gt_aload_n hlc.1 dL_law_891 rfl rfl ?_
  refine lt_arg (c := 1) hlc hj (by decide) (by decide) dL_law_892 dL_law_893 dL_law_895 dL_law_896 dL_law_897 ?_
  refine lt_arg (c := 2) hlc hj (by decide) (by decide) dL_law_898 dL_law_899 dL_law_901 dL_law_902 dL_law_903 ?_
  refine lt_C (rest := []) (As := [.int (xs (6 * j + 1)), .int (xs (6 * j + 2))]) hlc ⟨by omega, by omega⟩ dL_law_904 (C11_node h (xs (6 * j + 1)) (xs (6 * j + 2))) mvL_116 (by decide) rfl (fun _ => rfl) rfl (Nat.le_of_ble_eq_true rfl) (fun τ hτ => ?_)
  refine gt_aload_n hlc.1 dL_law_907 rfl rfl ?_
  refine lt_arg (c := 1) hlc hj (by decide) (by decide) dL_law_908 dL_law_909 dL_law_911 dL_law_912 dL_law_913 ?_
  refine lt_arg (c := 2) hlc hj (by decide) (by decide) dL_law_914 dL_law_915 dL_law_917 dL_law_918 dL_law_919 ?_
  refine lt_M (rest := [.int (sp_node μ (xs (6 * j + 1)) (xs (6 * j + 2))).1]) (As := [.int (xs (6 * j + 1)), .int (xs (6 * j + 2))]) hlc ⟨by omega, by omega⟩ dL_law_920 (C12_node μ h.1.1.2.2.2.2.2 (xs (6 * j + 1)) (xs (6 * j + 2))) mvL_119 (by decide) rfl (fun _ => rfl) rfl (Nat.le_of_ble_eq_true rfl) (fun ν hν => ?_)
  refine gt_icmp_eq (tgt := 1429) hlc.1 dL_law_923 (by omega) (fun _ => ?_) (fun h => absurd rfl h)
  exact gW_wide (by omega) (by omega) (K _ _ _ (hτ.sE hν))
theorem lw_c24 {g : Gx} {b0 L : Nat} {xs : Nat → Int32} {a b o : Nat} {Z : State → Prop} {j : Nat} {σ μ : St} {w : Nat → Int32} (hlc : lC g b0 L xs a b o) (hj : 6 * j + 6 ≤ L) (h : Rel (j + 1) σ μ) (K : lK1 g b0 a b o Z j) : gW g 7 Z (114 + j) (160121 + 6 * j) (lA g) 928 (lvJ b0 a b o (nI (6 * j)) none none) [] (lP (gD g) (gdA g) a b o σ μ w) := by
  have hL := hlc.2.1.2.2
  refine gt_aload_n hlc.1 dL_law_928 rfl rfl ?_
  refine lt_arg (c := 1) hlc hj (by decide) (by decide) dL_law_929 dL_law_930 dL_law_932 dL_law_933 dL_law_934 ?_
  refine lt_arg (c := 2) hlc hj (by decide) (by decide) dL_law_935 dL_law_936 dL_law_938 dL_law_939 dL_law_940 ?_
  refine lt_arg (c := 3) hlc hj (by decide) (by decide) dL_law_941 dL_law_942 dL_law_944 dL_law_945 dL_law_946 ?_
  refine lt_C (rest := []) (As := [.int (xs (6 * j + 1)), .int (xs (6 * j + 2)), .int (xs (6 * j + 3))]) hlc ⟨by omega, by omega⟩ dL_law_947 (C11_plan h (xs (6 * j + 1)) (xs (6 * j + 2)) (xs (6 * j + 3))) mvL_120 (by decide) rfl (fun _ => rfl) rfl (Nat.le_of_ble_eq_true rfl) (fun τ hτ => ?_)
  refine gt_aload_n hlc.1 dL_law_950 rfl rfl ?_
  refine lt_arg (c := 1) hlc hj (by decide) (by decide) dL_law_951 dL_law_952 dL_law_954 dL_law_955 dL_law_956 ?_
  refine lt_arg (c := 2) hlc hj (by decide) (by decide) dL_law_957 dL_law_958 dL_law_960 dL_law_961 dL_law_962 ?_
  refine lt_arg (c := 3) hlc hj (by decide) (by decide) dL_law_963 dL_law_964 dL_law_966 dL_law_967 dL_law_968 ?_
  refine lt_M (rest := [.int (sp_plan μ (xs (6 * j + 1)) (xs (6 * j + 2)) (xs (6 * j + 3))).1]) (As := [.int (xs (6 * j + 1)), .int (xs (6 * j + 2)), .int (xs (6 * j + 3))]) hlc ⟨by omega, by omega⟩ dL_law_969 (C12_plan μ h.1.1.1 h.1.1.2.2.2.2.1 (xs (6 * j + 1)) (xs (6 * j + 2)) (xs (6 * j + 3))) mvL_123 (by decide) rfl (fun _ => rfl) rfl (Nat.le_of_ble_eq_true rfl) (fun ν hν => ?_)
  refine gt_icmp_eq (tgt := 1429) hlc.1 dL_law_972 (by omega) (fun _ => ?_) (fun h => absurd rfl h)
  exact gW_wide (by omega) (by omega) (K _ _ _ (hτ.sE hν))
theorem lw_c25 {g : Gx} {b0 L : Nat} {xs : Nat → Int32} {a b o : Nat} {Z : State → Prop} {j : Nat} {σ μ : St} {w : Nat → Int32} (hlc : lC g b0 L xs a b o) (hj : 6 * j + 6 ≤ L) (h : Rel (j + 1) σ μ) (K : lK1 g b0 a b o Z j) : gW g 7 Z (114 + j) (160121 + 6 * j) (lA g) 977 (lvJ b0 a b o (nI (6 * j)) none none) [] (lP (gD g) (gdA g) a b o σ μ w) := by
  have hL := hlc.2.1.2.2
  refine gt_aload_n hlc.1 dL_law_977 rfl rfl ?_
  refine lt_C (rest := []) (As := []) hlc ⟨by omega, by omega⟩ dL_law_978 (C11_drop h ) mvL_124 (by decide) rfl (fun _ => rfl) rfl (Nat.le_of_ble_eq_true rfl) (fun τ hτ => ?_)
  refine gt_aload_n hlc.1 dL_law_981 rfl rfl ?_
  refine lt_M (rest := [.int (sp_drop μ ).1]) (As := []) hlc ⟨by omega, by omega⟩ dL_law_982 (C12_drop μ  ) mvL_127 (by decide) rfl (fun _ => rfl) rfl (Nat.le_of_ble_eq_true rfl) (fun ν hν => ?_)
  refine gt_icmp_eq (tgt := 1429) hlc.1 dL_law_985 (by omega) (fun _ => ?_) (fun h => absurd rfl h)
  exact gW_wide (by omega) (by omega) (K _ _ _ (hτ.sE hν))
theorem lw_c26 {g : Gx} {b0 L : Nat} {xs : Nat → Int32} {a b o : Nat} {Z : State → Prop} {j : Nat} {σ μ : St} {w : Nat → Int32} (hlc : lC g b0 L xs a b o) (hj : 6 * j + 6 ≤ L) (h : Rel (j + 1) σ μ) (K : lK1 g b0 a b o Z j) : gW g 7 Z (114 + j) (160121 + 6 * j) (lA g) 990 (lvJ b0 a b o (nI (6 * j)) none none) [] (lP (gD g) (gdA g) a b o σ μ w) := by
  have hL := hlc.2.1.2.2
  refine gt_aload_n hlc.1 dL_law_990 rfl rfl ?_
  refine lt_C (rest := []) (As := []) hlc ⟨by omega, by omega⟩ dL_law_991 (C11_judge h ) mvL_128 (by decide) rfl (fun _ => rfl) rfl (Nat.le_of_ble_eq_true rfl) (fun τ hτ => ?_)
  refine gt_aload_n hlc.1 dL_law_994 rfl rfl ?_
  refine lt_M (rest := [.int (sp_judge μ ).1]) (As := []) hlc ⟨by omega, by omega⟩ dL_law_995 (C12_judge μ h.1.1.1 h.1.1.2.2.2.2.1 ) mvL_131 (by decide) rfl (fun _ => rfl) rfl (Nat.le_of_ble_eq_true rfl) (fun ν hν => ?_)
  refine gt_icmp_eq (tgt := 1429) hlc.1 dL_law_998 (by omega) (fun _ => ?_) (fun h => absurd rfl h)
  exact gW_wide (by omega) (by omega) (K _ _ _ (hτ.sE hν))
theorem lw_c27 {g : Gx} {b0 L : Nat} {xs : Nat → Int32} {a b o : Nat} {Z : State → Prop} {j : Nat} {σ μ : St} {w : Nat → Int32} (hlc : lC g b0 L xs a b o) (hj : 6 * j + 6 ≤ L) (h : Rel (j + 1) σ μ) (K : lK1 g b0 a b o Z j) : gW g 7 Z (114 + j) (160121 + 6 * j) (lA g) 1003 (lvJ b0 a b o (nI (6 * j)) none none) [] (lP (gD g) (gdA g) a b o σ μ w) := by
  have hL := hlc.2.1.2.2
  refine gt_aload_n hlc.1 dL_law_1003 rfl rfl ?_
  refine lt_C (rest := []) (As := []) hlc ⟨by omega, by omega⟩ dL_law_1004 (C11_total h ) mvL_132 (by decide) rfl (fun _ => rfl) rfl (Nat.le_of_ble_eq_true rfl) (fun τ hτ => ?_)
  refine gt_aload_n hlc.1 dL_law_1007 rfl rfl ?_
  refine lt_M (rest := [.int (sp_total μ ).1]) (As := []) hlc ⟨by omega, by omega⟩ dL_law_1008 (C12_total μ h.1.1.1 h.1.1.2.2.2.2.1 ) mvL_135 (by decide) rfl (fun _ => rfl) rfl (Nat.le_of_ble_eq_true rfl) (fun ν hν => ?_)
  refine gt_icmp_eq (tgt := 1429) hlc.1 dL_law_1011 (by omega) (fun _ => ?_) (fun h => absurd rfl h)
  exact gW_wide (by omega) (by omega) (K _ _ _ (hτ.sE hν))
theorem lw_c28 {g : Gx} {b0 L : Nat} {xs : Nat → Int32} {a b o : Nat} {Z : State → Prop} {j : Nat} {σ μ : St} {w : Nat → Int32} (hlc : lC g b0 L xs a b o) (hj : 6 * j + 6 ≤ L) (h : Rel (j + 1) σ μ) (K : lK1 g b0 a b o Z j) : gW g 7 Z (114 + j) (160121 + 6 * j) (lA g) 1016 (lvJ b0 a b o (nI (6 * j)) none none) [] (lP (gD g) (gdA g) a b o σ μ w) := by
  have hL := hlc.2.1.2.2
  refine gt_aload_n hlc.1 dL_law_1016 rfl rfl ?_
  refine lt_arg (c := 1) hlc hj (by decide) (by decide) dL_law_1017 dL_law_1018 dL_law_1020 dL_law_1021 dL_law_1022 ?_
  refine lt_arg (c := 2) hlc hj (by decide) (by decide) dL_law_1023 dL_law_1024 dL_law_1026 dL_law_1027 dL_law_1028 ?_
  refine lt_arg (c := 3) hlc hj (by decide) (by decide) dL_law_1029 dL_law_1030 dL_law_1032 dL_law_1033 dL_law_1034 ?_
  refine lt_C (rest := []) (As := [.int (xs (6 * j + 1)), .int (xs (6 * j + 2)), .int (xs (6 * j + 3))]) hlc ⟨by omega, by omega⟩ dL_law_1035 (C11_rack h (xs (6 * j + 1)) (xs (6 * j + 2)) (xs (6 * j + 3))) mvL_136 (by decide) rfl (fun _ => rfl) rfl (Nat.le_of_ble_eq_true rfl) (fun τ hτ => ?_)
  refine gt_aload_n hlc.1 dL_law_1038 rfl rfl ?_
  refine lt_arg (c := 1) hlc hj (by decide) (by decide) dL_law_1039 dL_law_1040 dL_law_1042 dL_law_1043 dL_law_1044 ?_
  refine lt_arg (c := 2) hlc hj (by decide) (by decide) dL_law_1045 dL_law_1046 dL_law_1048 dL_law_1049 dL_law_1050 ?_
  refine lt_arg (c := 3) hlc hj (by decide) (by decide) dL_law_1051 dL_law_1052 dL_law_1054 dL_law_1055 dL_law_1056 ?_
  refine lt_M (rest := [.int (sp_rack μ (xs (6 * j + 1)) (xs (6 * j + 2)) (xs (6 * j + 3))).1]) (As := [.int (xs (6 * j + 1)), .int (xs (6 * j + 2)), .int (xs (6 * j + 3))]) hlc ⟨by omega, by omega⟩ dL_law_1057 (C12_rack μ  (xs (6 * j + 1)) (xs (6 * j + 2)) (xs (6 * j + 3))) mvL_139 (by decide) rfl (fun _ => rfl) rfl (Nat.le_of_ble_eq_true rfl) (fun ν hν => ?_)
  refine gt_icmp_eq (tgt := 1429) hlc.1 dL_law_1060 (by omega) (fun _ => ?_) (fun h => absurd rfl h)
  exact gW_wide (by omega) (by omega) (K _ _ _ (hτ.sE hν))
theorem lw_c29 {g : Gx} {b0 L : Nat} {xs : Nat → Int32} {a b o : Nat} {Z : State → Prop} {j : Nat} {σ μ : St} {w : Nat → Int32} (hlc : lC g b0 L xs a b o) (hj : 6 * j + 6 ≤ L) (h : Rel (j + 1) σ μ) (K : lK1 g b0 a b o Z j) : gW g 7 Z (114 + j) (160121 + 6 * j) (lA g) 1065 (lvJ b0 a b o (nI (6 * j)) none none) [] (lP (gD g) (gdA g) a b o σ μ w) := by
  have hL := hlc.2.1.2.2
  refine gt_aload_n hlc.1 dL_law_1065 rfl rfl ?_
  refine lt_arg (c := 1) hlc hj (by decide) (by decide) dL_law_1066 dL_law_1067 dL_law_1069 dL_law_1070 dL_law_1071 ?_
  refine lt_C (rest := []) (As := [.int (xs (6 * j + 1))]) hlc ⟨by omega, by omega⟩ dL_law_1072 (C11_keep h (xs (6 * j + 1))) mvL_140 (by decide) rfl (fun _ => rfl) rfl (Nat.le_of_ble_eq_true rfl) (fun τ hτ => ?_)
  refine gt_aload_n hlc.1 dL_law_1075 rfl rfl ?_
  refine lt_arg (c := 1) hlc hj (by decide) (by decide) dL_law_1076 dL_law_1077 dL_law_1079 dL_law_1080 dL_law_1081 ?_
  refine lt_M (rest := [.int (sp_keep μ (xs (6 * j + 1))).1]) (As := [.int (xs (6 * j + 1))]) hlc ⟨by omega, by omega⟩ dL_law_1082 (C12_keep μ h.1.1.1 h.1.1.2.1 (xs (6 * j + 1))) mvL_143 (by decide) rfl (fun _ => rfl) rfl (Nat.le_of_ble_eq_true rfl) (fun ν hν => ?_)
  refine gt_icmp_eq (tgt := 1429) hlc.1 dL_law_1085 (by omega) (fun _ => ?_) (fun h => absurd rfl h)
  exact gW_wide (by omega) (by omega) (K _ _ _ (hτ.sE hν))
theorem lw_c30 {g : Gx} {b0 L : Nat} {xs : Nat → Int32} {a b o : Nat} {Z : State → Prop} {j : Nat} {σ μ : St} {w : Nat → Int32} (hlc : lC g b0 L xs a b o) (hj : 6 * j + 6 ≤ L) (h : Rel (j + 1) σ μ) (K : lK1 g b0 a b o Z j) : gW g 7 Z (114 + j) (160121 + 6 * j) (lA g) 1090 (lvJ b0 a b o (nI (6 * j)) none none) [] (lP (gD g) (gdA g) a b o σ μ w) := by
  have hL := hlc.2.1.2.2
  refine gt_aload_n hlc.1 dL_law_1090 rfl rfl ?_
  refine lt_arg (c := 1) hlc hj (by decide) (by decide) dL_law_1091 dL_law_1092 dL_law_1094 dL_law_1095 dL_law_1096 ?_
  refine lt_C (rest := []) (As := [.int (xs (6 * j + 1))]) hlc ⟨by omega, by omega⟩ dL_law_1097 (C11_clear h (xs (6 * j + 1))) mvL_144 (by decide) rfl (fun _ => rfl) rfl (Nat.le_of_ble_eq_true rfl) (fun τ hτ => ?_)
  refine gt_aload_n hlc.1 dL_law_1100 rfl rfl ?_
  refine lt_arg (c := 1) hlc hj (by decide) (by decide) dL_law_1101 dL_law_1102 dL_law_1104 dL_law_1105 dL_law_1106 ?_
  refine lt_M (rest := [.int (sp_clear μ (xs (6 * j + 1))).1]) (As := [.int (xs (6 * j + 1))]) hlc ⟨by omega, by omega⟩ dL_law_1107 (C12_clear μ  (xs (6 * j + 1))) mvL_147 (by decide) rfl (fun _ => rfl) rfl (Nat.le_of_ble_eq_true rfl) (fun ν hν => ?_)
  refine gt_icmp_eq (tgt := 1429) hlc.1 dL_law_1110 (by omega) (fun _ => ?_) (fun h => absurd rfl h)
  exact gW_wide (by omega) (by omega) (K _ _ _ (hτ.sE hν))
theorem lw_c31 {g : Gx} {b0 L : Nat} {xs : Nat → Int32} {a b o : Nat} {Z : State → Prop} {j : Nat} {σ μ : St} {w : Nat → Int32} (hlc : lC g b0 L xs a b o) (hj : 6 * j + 6 ≤ L) (h : Rel (j + 1) σ μ) (K : lK1 g b0 a b o Z j) : gW g 7 Z (114 + j) (160121 + 6 * j) (lA g) 1115 (lvJ b0 a b o (nI (6 * j)) none none) [] (lP (gD g) (gdA g) a b o σ μ w) := by
  have hL := hlc.2.1.2.2
  refine gt_aload_n hlc.1 dL_law_1115 rfl rfl ?_
  refine lt_arg (c := 1) hlc hj (by decide) (by decide) dL_law_1116 dL_law_1117 dL_law_1119 dL_law_1120 dL_law_1121 ?_
  refine lt_arg (c := 2) hlc hj (by decide) (by decide) dL_law_1122 dL_law_1123 dL_law_1125 dL_law_1126 dL_law_1127 ?_
  refine lt_arg (c := 3) hlc hj (by decide) (by decide) dL_law_1128 dL_law_1129 dL_law_1131 dL_law_1132 dL_law_1133 ?_
  refine lt_C (rest := []) (As := [.int (xs (6 * j + 1)), .int (xs (6 * j + 2)), .int (xs (6 * j + 3))]) hlc ⟨by omega, by omega⟩ dL_law_1134 (C11_put h (xs (6 * j + 1)) (xs (6 * j + 2)) (xs (6 * j + 3))) mvL_148 (by decide) rfl (fun _ => rfl) rfl (Nat.le_of_ble_eq_true rfl) (fun τ hτ => ?_)
  refine gt_aload_n hlc.1 dL_law_1137 rfl rfl ?_
  refine lt_arg (c := 1) hlc hj (by decide) (by decide) dL_law_1138 dL_law_1139 dL_law_1141 dL_law_1142 dL_law_1143 ?_
  refine lt_arg (c := 2) hlc hj (by decide) (by decide) dL_law_1144 dL_law_1145 dL_law_1147 dL_law_1148 dL_law_1149 ?_
  refine lt_arg (c := 3) hlc hj (by decide) (by decide) dL_law_1150 dL_law_1151 dL_law_1153 dL_law_1154 dL_law_1155 ?_
  refine lt_M (rest := [.int (sp_put μ (xs (6 * j + 1)) (xs (6 * j + 2)) (xs (6 * j + 3))).1]) (As := [.int (xs (6 * j + 1)), .int (xs (6 * j + 2)), .int (xs (6 * j + 3))]) hlc ⟨by omega, by omega⟩ dL_law_1156 (C12_put μ h.1.1.2.2.2.1 (xs (6 * j + 1)) (xs (6 * j + 2)) (xs (6 * j + 3))) mvL_151 (by decide) rfl (fun _ => rfl) rfl (Nat.le_of_ble_eq_true rfl) (fun ν hν => ?_)
  refine gt_icmp_eq (tgt := 1429) hlc.1 dL_law_1159 (by omega) (fun _ => ?_) (fun h => absurd rfl h)
  exact gW_wide (by omega) (by omega) (K _ _ _ (hτ.sE hν))
theorem lw_c32 {g : Gx} {b0 L : Nat} {xs : Nat → Int32} {a b o : Nat} {Z : State → Prop} {j : Nat} {σ μ : St} {w : Nat → Int32} (hlc : lC g b0 L xs a b o) (hj : 6 * j + 6 ≤ L) (h : Rel (j + 1) σ μ) (K : lK1 g b0 a b o Z j) : gW g 7 Z (114 + j) (160121 + 6 * j) (lA g) 1164 (lvJ b0 a b o (nI (6 * j)) none none) [] (lP (gD g) (gdA g) a b o σ μ w) := by
  have hL := hlc.2.1.2.2
  refine gt_aload_n hlc.1 dL_law_1164 rfl rfl ?_
  refine lt_arg (c := 1) hlc hj (by decide) (by decide) dL_law_1165 dL_law_1166 dL_law_1168 dL_law_1169 dL_law_1170 ?_
  refine lt_arg (c := 2) hlc hj (by decide) (by decide) dL_law_1171 dL_law_1172 dL_law_1174 dL_law_1175 dL_law_1176 ?_
  refine gt_aload_n hlc.1 dL_law_1177 rfl rfl ?_
  refine lt_A (rest := []) hlc ⟨by omega, by omega⟩ dL_law_1178 h rfl (Nat.le_of_ble_eq_true rfl) (fun w' hw' => ?_)
  refine gt_istore hlc.1 dL_law_1181 (by decide) rfl ?_
  refine (?_ : gW g 7 Z (114 + j + 1) (160121 + 6 * j + 6) (lA g) 1183 (lvJ b0 a b o (nI (6 * j)) (some (.int (thA μ (xs (6 * j + 1)) (xs (6 * j + 2))))) none) [] (lP (gD g) (gdA g) a b o σ μ w'))
  refine gt_aload_n hlc.1 dL_law_1183 rfl rfl ?_
  refine lt_arg (c := 1) hlc hj (by decide) (by decide) dL_law_1184 dL_law_1185 dL_law_1187 dL_law_1188 dL_law_1189 ?_
  refine lt_arg (c := 2) hlc hj (by decide) (by decide) dL_law_1190 dL_law_1191 dL_law_1193 dL_law_1194 dL_law_1195 ?_
  refine lt_M (rest := []) hlc ⟨by omega, by omega⟩ dL_law_1196 (C12_at μ h.1.1.2.2.2.1 (xs (6 * j + 1)) (xs (6 * j + 2))) mvL_157 (by decide) rfl (fun _ => rfl) rfl (Nat.le_of_ble_eq_true rfl) (fun ν hν => ?_)
  have e15 : ν 0 15 = thA μ (xs (6 * j + 1)) (xs (6 * j + 2)) := by
    rw [hν 0 15 rfl]
    unfold sp_at
    simp [up_eq]
  have hR : Rel (j + 2) σ ν := (h.th _).sE hν
  refine gt_istore hlc.1 dL_law_1199 (by decide) rfl ?_
  refine (?_ : gW g 7 Z (114 + j + 1) (160121 + 6 * j + 6) (lA g) 1201 (lvJ b0 a b o (nI (6 * j)) (some (.int (thA μ (xs (6 * j + 1)) (xs (6 * j + 2))))) (some (.int (sp_at μ (xs (6 * j + 1)) (xs (6 * j + 2))).1))) [] (lP (gD g) (gdA g) a b o σ ν w'))
  refine gt_aload_n hlc.1 dL_law_1201 rfl rfl ?_
  refine lt_M (As := []) (rest := []) hlc ⟨by omega, by omega⟩ dL_law_1202 (C12_thrown ν) mvL_158 (by decide) rfl (fun _ => rfl) rfl (Nat.le_of_ble_eq_true rfl) (fun ν' hν' => ?_)
  subst hν'
  rw [e15]
  refine gt_iload hlc.1 dL_law_1205 rfl ?_
  refine gt_icmp_eq (tgt := 1212) hlc.1 dL_law_1207 (by omega) (fun _ => ?_) (fun h => absurd rfl h)
  refine gt_iload hlc.1 dL_law_1212 rfl ?_
  have k1229 : gW g 7 Z (114 + j + 1) (160121 + 6 * j + 6) (lA g) 1229 (lvJ b0 a b o (nI (6 * j)) (some (.int (thA μ (xs (6 * j + 1)) (xs (6 * j + 2))))) (some (.int (sp_at μ (xs (6 * j + 1)) (xs (6 * j + 2))).1))) [] (lP (gD g) (gdA g) a b o σ ν' w') := by
    refine gt_goto (tgt := 1429) hlc.1 dL_law_1229 (by omega) ?_
    exact gW_lv (gW_wide (by omega) (by omega) (K _ _ _ hR))
  refine gt_if_ne (tgt := 1229) hlc.1 dL_law_1214 (by omega) (fun _ => k1229) (fun h0 => ?_)
  refine gt_aload_n hlc.1 dL_law_1217 rfl rfl ?_
  refine gt_iconst (v := 0) hlc.1 dL_law_1218 (by decide) ?_
  refine lt_lald hlc dL_law_1219 ?_
  refine gt_iload hlc.1 dL_law_1220 rfl ?_
  refine gt_i2l hlc.1 dL_law_1222 ?_
  refine gt_lcmp hlc.1 dL_law_1223 ?_
  refine gt_if_eq (tgt := 1229) hlc.1 dL_law_1224 (by omega) (fun _ => k1229) (fun hne => absurd ?_ hne)
  rw [hw' h0]
  unfold sp_at
  rw [if_pos h0]
  unfold lg_cmp
  simp
theorem lw_c33 {g : Gx} {b0 L : Nat} {xs : Nat → Int32} {a b o : Nat} {Z : State → Prop} {j : Nat} {σ μ : St} {w : Nat → Int32} (hlc : lC g b0 L xs a b o) (hj : 6 * j + 6 ≤ L) (h : Rel (j + 1) σ μ) (K : lK1 g b0 a b o Z j) : gW g 7 Z (114 + j) (160121 + 6 * j) (lA g) 1232 (lvJ b0 a b o (nI (6 * j)) none none) [] (lP (gD g) (gdA g) a b o σ μ w) := by
  have hL := hlc.2.1.2.2
  refine gt_aload_n hlc.1 dL_law_1232 rfl rfl ?_
  refine lt_arg (c := 1) hlc hj (by decide) (by decide) dL_law_1233 dL_law_1234 dL_law_1236 dL_law_1237 dL_law_1238 ?_
  refine lt_arg (c := 2) hlc hj (by decide) (by decide) dL_law_1239 dL_law_1240 dL_law_1242 dL_law_1243 dL_law_1244 ?_
  refine lt_arg (c := 3) hlc hj (by decide) (by decide) dL_law_1245 dL_law_1246 dL_law_1248 dL_law_1249 dL_law_1250 ?_
  refine lt_arg (c := 4) hlc hj (by decide) (by decide) dL_law_1251 dL_law_1252 dL_law_1254 dL_law_1255 dL_law_1256 ?_
  refine lt_arg (c := 5) hlc hj (by decide) (by decide) dL_law_1257 dL_law_1258 dL_law_1260 dL_law_1261 dL_law_1262 ?_
  refine lt_C (rest := []) (As := [.int (xs (6 * j + 1)), .int (xs (6 * j + 2)), .int (xs (6 * j + 3)), .int (xs (6 * j + 4)), .int (xs (6 * j + 5))]) hlc ⟨by omega, by omega⟩ dL_law_1263 (C11_copy h (xs (6 * j + 1)) (xs (6 * j + 2)) (xs (6 * j + 3)) (xs (6 * j + 4)) (xs (6 * j + 5))) mvL_161 (by decide) rfl (fun _ => rfl) rfl (Nat.le_of_ble_eq_true rfl) (fun τ hτ => ?_)
  refine gt_aload_n hlc.1 dL_law_1266 rfl rfl ?_
  refine lt_arg (c := 1) hlc hj (by decide) (by decide) dL_law_1267 dL_law_1268 dL_law_1270 dL_law_1271 dL_law_1272 ?_
  refine lt_arg (c := 2) hlc hj (by decide) (by decide) dL_law_1273 dL_law_1274 dL_law_1276 dL_law_1277 dL_law_1278 ?_
  refine lt_arg (c := 3) hlc hj (by decide) (by decide) dL_law_1279 dL_law_1280 dL_law_1282 dL_law_1283 dL_law_1284 ?_
  refine lt_arg (c := 4) hlc hj (by decide) (by decide) dL_law_1285 dL_law_1286 dL_law_1288 dL_law_1289 dL_law_1290 ?_
  refine lt_arg (c := 5) hlc hj (by decide) (by decide) dL_law_1291 dL_law_1292 dL_law_1294 dL_law_1295 dL_law_1296 ?_
  refine lt_M (rest := [.int (sp_copy μ (xs (6 * j + 1)) (xs (6 * j + 2)) (xs (6 * j + 3)) (xs (6 * j + 4)) (xs (6 * j + 5))).1]) (As := [.int (xs (6 * j + 1)), .int (xs (6 * j + 2)), .int (xs (6 * j + 3)), .int (xs (6 * j + 4)), .int (xs (6 * j + 5))]) hlc ⟨by omega, by omega⟩ dL_law_1297 (C12_copy μ h.1.1.2.2.2.1 (xs (6 * j + 1)) (xs (6 * j + 2)) (xs (6 * j + 3)) (xs (6 * j + 4)) (xs (6 * j + 5))) mvL_165 (by decide) rfl (fun _ => rfl) rfl (Nat.le_of_ble_eq_true rfl) (fun ν hν => ?_)
  refine gt_icmp_eq (tgt := 1429) hlc.1 dL_law_1300 (by omega) (fun _ => ?_) (fun h => absurd rfl h)
  exact gW_wide (by omega) (by omega) (K _ _ _ (hτ.sE hν))
theorem lw_c34 {g : Gx} {b0 L : Nat} {xs : Nat → Int32} {a b o : Nat} {Z : State → Prop} {j : Nat} {σ μ : St} {w : Nat → Int32} (hlc : lC g b0 L xs a b o) (hj : 6 * j + 6 ≤ L) (h : Rel (j + 1) σ μ) (K : lK1 g b0 a b o Z j) : gW g 7 Z (114 + j) (160121 + 6 * j) (lA g) 1305 (lvJ b0 a b o (nI (6 * j)) none none) [] (lP (gD g) (gdA g) a b o σ μ w) := by
  have hL := hlc.2.1.2.2
  refine gt_aload_n hlc.1 dL_law_1305 rfl rfl ?_
  refine lt_arg (c := 1) hlc hj (by decide) (by decide) dL_law_1306 dL_law_1307 dL_law_1309 dL_law_1310 dL_law_1311 ?_
  refine lt_arg (c := 2) hlc hj (by decide) (by decide) dL_law_1312 dL_law_1313 dL_law_1315 dL_law_1316 dL_law_1317 ?_
  refine lt_C (rest := []) (As := [.int (xs (6 * j + 1)), .int (xs (6 * j + 2))]) hlc ⟨by omega, by omega⟩ dL_law_1318 (C11_take h (xs (6 * j + 1)) (xs (6 * j + 2))) mvL_166 (by decide) rfl (fun _ => rfl) rfl (Nat.le_of_ble_eq_true rfl) (fun τ hτ => ?_)
  refine gt_aload_n hlc.1 dL_law_1321 rfl rfl ?_
  refine lt_arg (c := 1) hlc hj (by decide) (by decide) dL_law_1322 dL_law_1323 dL_law_1325 dL_law_1326 dL_law_1327 ?_
  refine lt_arg (c := 2) hlc hj (by decide) (by decide) dL_law_1328 dL_law_1329 dL_law_1331 dL_law_1332 dL_law_1333 ?_
  refine lt_M (rest := [.int (sp_take μ (xs (6 * j + 1)) (xs (6 * j + 2))).1]) (As := [.int (xs (6 * j + 1)), .int (xs (6 * j + 2))]) hlc ⟨by omega, by omega⟩ dL_law_1334 (C12_take μ h.1.1.1 h.1.1.2.2.2.1 (xs (6 * j + 1)) (xs (6 * j + 2))) mvL_169 (by decide) rfl (fun _ => rfl) rfl (Nat.le_of_ble_eq_true rfl) (fun ν hν => ?_)
  refine gt_icmp_eq (tgt := 1429) hlc.1 dL_law_1337 (by omega) (fun _ => ?_) (fun h => absurd rfl h)
  exact gW_wide (by omega) (by omega) (K _ _ _ (hτ.sE hν))
theorem lw_c35 {g : Gx} {b0 L : Nat} {xs : Nat → Int32} {a b o : Nat} {Z : State → Prop} {j : Nat} {σ μ : St} {w : Nat → Int32} (hlc : lC g b0 L xs a b o) (hj : 6 * j + 6 ≤ L) (h : Rel (j + 1) σ μ) (K : lK1 g b0 a b o Z j) : gW g 7 Z (114 + j) (160121 + 6 * j) (lA g) 1342 (lvJ b0 a b o (nI (6 * j)) none none) [] (lP (gD g) (gdA g) a b o σ μ w) := by
  have hL := hlc.2.1.2.2
  refine gt_aload_n hlc.1 dL_law_1342 rfl rfl ?_
  refine lt_arg (c := 1) hlc hj (by decide) (by decide) dL_law_1343 dL_law_1344 dL_law_1346 dL_law_1347 dL_law_1348 ?_
  refine lt_arg (c := 2) hlc hj (by decide) (by decide) dL_law_1349 dL_law_1350 dL_law_1352 dL_law_1353 dL_law_1354 ?_
  refine lt_C (rest := []) (As := [.int (xs (6 * j + 1)), .int (xs (6 * j + 2))]) hlc ⟨by omega, by omega⟩ dL_law_1355 (C11_kept h (xs (6 * j + 1)) (xs (6 * j + 2))) mvL_170 (by decide) rfl (fun _ => rfl) rfl (Nat.le_of_ble_eq_true rfl) (fun τ hτ => ?_)
  refine gt_aload_n hlc.1 dL_law_1358 rfl rfl ?_
  refine lt_arg (c := 1) hlc hj (by decide) (by decide) dL_law_1359 dL_law_1360 dL_law_1362 dL_law_1363 dL_law_1364 ?_
  refine lt_arg (c := 2) hlc hj (by decide) (by decide) dL_law_1365 dL_law_1366 dL_law_1368 dL_law_1369 dL_law_1370 ?_
  refine lt_M (rest := [.int (sp_kept μ (xs (6 * j + 1)) (xs (6 * j + 2))).1]) (As := [.int (xs (6 * j + 1)), .int (xs (6 * j + 2))]) hlc ⟨by omega, by omega⟩ dL_law_1371 (C12_kept μ h.1.1.2.2.2.1 (xs (6 * j + 1)) (xs (6 * j + 2))) mvL_173 (by decide) rfl (fun _ => rfl) rfl (Nat.le_of_ble_eq_true rfl) (fun ν hν => ?_)
  refine gt_icmp_eq (tgt := 1429) hlc.1 dL_law_1374 (by omega) (fun _ => ?_) (fun h => absurd rfl h)
  exact gW_wide (by omega) (by omega) (K _ _ _ (hτ.sE hν))
theorem lw_c36 {g : Gx} {b0 L : Nat} {xs : Nat → Int32} {a b o : Nat} {Z : State → Prop} {j : Nat} {σ μ : St} {w : Nat → Int32} (hlc : lC g b0 L xs a b o) (hj : 6 * j + 6 ≤ L) (h : Rel (j + 1) σ μ) (K : lK1 g b0 a b o Z j) : gW g 7 Z (114 + j) (160121 + 6 * j) (lA g) 1379 (lvJ b0 a b o (nI (6 * j)) none none) [] (lP (gD g) (gdA g) a b o σ μ w) := by
  have hL := hlc.2.1.2.2
  refine gt_aload_n hlc.1 dL_law_1379 rfl rfl ?_
  refine lt_arg (c := 1) hlc hj (by decide) (by decide) dL_law_1380 dL_law_1381 dL_law_1383 dL_law_1384 dL_law_1385 ?_
  refine lt_T (rest := []) hlc ⟨by omega, by omega⟩ dL_law_1386 h rfl (Nat.le_of_ble_eq_true rfl) (fun τ hτ => ?_)
  refine gt_aload_n hlc.1 dL_law_1389 rfl rfl ?_
  refine lt_arg (c := 1) hlc hj (by decide) (by decide) dL_law_1390 dL_law_1391 dL_law_1393 dL_law_1394 dL_law_1395 ?_
  refine lt_M (rest := [.int (sp_toss μ (xs (6 * j + 1))).1]) (As := [.int (xs (6 * j + 1))]) hlc ⟨by omega, by omega⟩ dL_law_1396 (C12_toss μ h.1.1.2.2.2.1 (xs (6 * j + 1))) mvL_177 (by decide) rfl (fun _ => rfl) rfl (Nat.le_of_ble_eq_true rfl) (fun ν hν => ?_)
  refine gt_icmp_eq (tgt := 1429) hlc.1 dL_law_1399 (by omega) (fun _ => ?_) (fun h => absurd rfl h)
  exact gW_wide (by omega) (by omega) (K _ _ _ (hτ.sE hν))
theorem lw_c37 {g : Gx} {b0 L : Nat} {xs : Nat → Int32} {a b o : Nat} {Z : State → Prop} {j : Nat} {σ μ : St} {w : Nat → Int32} (hlc : lC g b0 L xs a b o) (hj : 6 * j + 6 ≤ L) (h : Rel (j + 1) σ μ) (K : lK1 g b0 a b o Z j) : gW g 7 Z (114 + j) (160121 + 6 * j) (lA g) 1404 (lvJ b0 a b o (nI (6 * j)) none none) [] (lP (gD g) (gdA g) a b o σ μ w) := by
  have hL := hlc.2.1.2.2
  refine gt_aload_n hlc.1 dL_law_1404 rfl rfl ?_
  refine lt_arg (c := 1) hlc hj (by decide) (by decide) dL_law_1405 dL_law_1406 dL_law_1408 dL_law_1409 dL_law_1410 ?_
  refine lt_C (rest := []) (As := [.int (xs (6 * j + 1))]) hlc ⟨by omega, by omega⟩ dL_law_1411 (C11_count h (xs (6 * j + 1))) mvL_178 (by decide) rfl (fun _ => rfl) rfl (Nat.le_of_ble_eq_true rfl) (fun τ hτ => ?_)
  refine gt_aload_n hlc.1 dL_law_1414 rfl rfl ?_
  refine lt_arg (c := 1) hlc hj (by decide) (by decide) dL_law_1415 dL_law_1416 dL_law_1418 dL_law_1419 dL_law_1420 ?_
  refine lt_M (rest := [.int (sp_count μ (xs (6 * j + 1))).1]) (As := [.int (xs (6 * j + 1))]) hlc ⟨by omega, by omega⟩ dL_law_1421 (C12_count μ h.1.1.1 (xs (6 * j + 1))) mvL_181 (by decide) rfl (fun _ => rfl) rfl (Nat.le_of_ble_eq_true rfl) (fun ν hν => ?_)
  refine gt_icmp_eq (tgt := 1429) hlc.1 dL_law_1424 (by omega) (fun _ => ?_) (fun h => absurd rfl h)
  exact gW_wide (by omega) (by omega) (K _ _ _ (hτ.sE hν))
