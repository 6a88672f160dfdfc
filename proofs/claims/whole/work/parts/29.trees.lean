/-! ===== the reference's tables of trees ===== -/
theorem sumN_oneE (n x : Nat) (h : x < n) : sumN n (fun c => if (x == c) = true then 1 else 0) = 1 := by
  have h2 : ∀ n, sumN n (fun c => if (x == c) = true then 1 else 0) = if x < n then 1 else 0 := by
    intro n
    induction n with
    | zero => simp [sumN]
    | succ n ih =>
      simp only [sumN]
      rw [ih]
      by_cases e : x = n
      · subst e; simp
      · by_cases e2 : x < n
        · rw [if_pos e2, if_neg (by simpa using e), if_pos (by omega)]
        · rw [if_neg e2, if_neg (by simpa using e), if_neg (by omega)]
  rw [h2, if_pos h]
theorem sum_cntE (C n : Nat) (f : Nat → Nat) (hf : ∀ i, f i < C) : sumN C (fun c => cnt n (fun i => f i == c)) = n := by
  induction n with
  | zero =>
    have : ∀ C, sumN C (fun c => cnt 0 (fun i => f i == c)) = 0 := by
      intro C
      induction C with
      | zero => rfl
      | succ C ih => simp only [sumN]; rw [ih]; rfl
    exact this C
  | succ n ih =>
    have e : sumN C (fun c => cnt (n + 1) (fun i => f i == c)) = sumN C (fun c => cnt n (fun i => f i == c)) + sumN C (fun c => if (f n == c) = true then 1 else 0) := by
      rw [← sumN_add]
      rfl
    rw [e, ih, sumN_oneE C (f n) (hf n)]
theorem ans_self {P C : Nat} (hC : 1 ≤ C) (hC8 : C ≤ 8) (c : Nat) : ans P C (fun i => nI (pegOf P C c i)) c = 10 * P := by
  have h1 : blacks P C (fun i => nI (pegOf P C c i)) c = P := by
    unfold blacks
    have : ∀ n, cnt n (fun i => nI (pegOf P C c i) == nI (pegOf P C c i)) = n := by
      intro n
      induction n with
      | zero => rfl
      | succ n ih => rw [cnt, ih]; simp
    exact this P
  have h2 : alike P C (fun i => nI (pegOf P C c i)) c = P := by
    unfold alike
    have e : sumN C (hues P C (fun i => nI (pegOf P C c i)) c) = sumN C (fun a => cnt P (fun i => pegOf P C c i == a)) := by
      refine sumN_congr (fun a ha => ?_)
      unfold hues
      have : cnt P (fun i => nI (pegOf P C c i) == nI a) = cnt P (fun i => pegOf P C c i == a) := by
        refine cnt_congr (fun i _ => ?_)
        have hp := pegOf_lt (P := P) hC c i
        by_cases q : pegOf P C c i = a
        · rw [q]; simp
        · rw [beq_eq_false_iff_ne.mpr q, beq_eq_false_iff_ne.mpr (fun z => q (nI_inj (by omega) (by omega) z))]
      rw [this, Nat.min_self]
    rw [e]
    exact sum_cntE C P _ (fun i => pegOf_lt hC c i)
  unfold ans
  omega
def enc (o : Option (Nat × Nat)) : Int32 := match o with
  | none => 1000000000
  | some b => nI b.1
def encX (z : Nat) (o : Option Nat) : Int32 := match o with
  | none => 1000000000
  | some x => nI (z + x)
theorem FARn : (1000000000 : Int32) = nI 1000000000 := rfl
/-- what the tables say of the set s -/
def RW (τ : St) (s : Nat) (cd : Option (Nat × Nat)) (cs : Nat → Option (Nat × Nat)) : Prop := (τ 14 s = enc cd ∧ ∀ b, cd = some b → τ 15 s = nI b.2) ∧ ∀ d, d < 11 → τ 16 (1024 * d + s) = enc (cs d) ∧ ∀ b, cs d = some b → τ 17 (1024 * d + s) = nI b.2
def TB (t : TD) (τ : St) (s : Nat) : Prop := ∀ p, 0 < p → p < s → RW τ p (md t p) (fun d => ms t d p)
/-- the sum loop -/
theorem T_sum {g : Gx} {dd : Nat} {t : TD} {τ : St} {Q : Option Value → St → Prop} {s gg M d sz : Nat} {pa : Nat → Nat} {w20 : Nat → Int32} (hc : cX g YM RX12 cX12_trees 10 none dd) (ht : tOK t) (hTB : TB t τ s) (hs : s < 2 ^ tn t) (hcd : cand t gg s = true) (hPI : PI s (tA t gg) (tfu t) (tn t) M pa (τ 19) w20) (hM : τ 0 32 = nI M) (hd : d < 11) (hsz : sz ≤ 11) {x1 x5 : Int32}
    (k : aW g YM 10 Q 351 [some (.ref 0), some (.int x1), some (.int (nI s)), some (.int (nI sz)), some (.int (nI gg)), some (.int x5), some (.int (nI d)), some (.int (encX sz (sumO (fun a => if pA t gg s a = 0 then some 0 else if d = 1 then none else (ms t (d - 1) (pA t gg s a)).map Prod.fst) 60))), none, none] [] τ) :
    aW g YM 10 Q 267 [some (.ref 0), some (.int x1), some (.int (nI s)), some (.int (nI sz)), some (.int (nI gg)), some (.int x5), some (.int (nI d)), some (.int (nI (sz + 0))), some (.int (nI 0)), none] [] τ := by
  have hn10 := ht.1
  have h10 : 2 ^ tn t ≤ 1024 := Nat.pow_le_pow_right (by decide) ht.1
  have hMn : M ≤ 10 := Nat.le_trans hPI.1 hn10
  have hval : ∀ p b, p < 2 ^ tn t → ms t (d - 1) p = some b → b.1 ≤ 121 := fun p b hp hb => by
    have h1 := ms_le ht p (d - 1) p b (Nat.le_refl _) hp hb
    have h2 : ones p ≤ 11 := cnt_le _ _
    exact Nat.le_trans h1 (Nat.mul_le_mul h2 h2)
  rw [← PI_sum hPI (fun p => if d = 1 then none else (ms t (d - 1) p).map Prod.fst)] at k
  generalize hf : (fun m => (fun p => if d = 1 then none else (ms t (d - 1) p).map Prod.fst) (pA t gg s (pa m))) = f at k
  have hfm : ∀ m, f m = if d = 1 then none else (ms t (d - 1) (pA t gg s (pa m))).map Prod.fst := fun m => by rw [← hf]
  have hbnd : ∀ m x, sumO f m = some x → x ≤ m * 121 := by
    intro m x hx
    have := sumO_le (b := fun _ => 121) m x hx (fun i _ y hy => by
      rw [hfm] at hy
      by_cases q : d = 1
      · rw [if_pos q] at hy; cases hy
      · rw [if_neg q, Option.map_eq_some_iff] at hy
        obtain ⟨b, hb, rfl⟩ := hy
        exact hval _ b (pA_lt _ _ _) hb)
    have e : ∀ n, sumN n (fun _ => 121) = n * 121 := by
      intro n
      induction n with
      | zero => rfl
      | succ n ih => rw [sumN, ih, Nat.succ_mul]
    rw [e] at this
    exact this
  refine lpN (n := M) (F := fun m => aW g YM 10 Q 267 [some (.ref 0), some (.int x1), some (.int (nI s)), some (.int (nI sz)), some (.int (nI gg)), some (.int x5), some (.int (nI d)), some (.int (encX sz (sumO f m))), some (.int (nI m)), none] [] τ) ?_ (fun m hm ih => ?_)
  · refine st_iload hc dX12_trees_267 rfl ?_
    refine st_aload_n hc dX12_trees_269 rfl rfl ?_
    refine st_getE hc dX12_trees_270 flX12_238 rfl rfl (hM) ?_
    refine st_icmp_ge (tgt := 351) hc dX12_trees_273 (by decide) (fun h273 => ?_) (fun h273 => ?_)
    · exact st_lvq _ (by simp [lvq]) k
    · exact absurd (nI_le (Nat.le_refl _) (by omega)) h273
  · obtain ⟨a1, a2, a3, a4, a5⟩ := hPI.2.1 m hm
    rw [PI_prt hPI hm] at a2
    have hpa : ¬ pA t gg s (pa m) = 0 := (PI_any hPI (pa m)).mp ((anyN_iff _ _).mpr ⟨m, hm, by simp⟩)
    have hpl := (part_ok ht hcd hs hpa a3).1
    have hb := hbnd m
    -- more
    have k317 : ∀ y : Int32, y = (match f m with | none => 1000000000 | some v => nI v) → aW g YM 10 Q 317 [some (.ref 0), some (.int x1), some (.int (nI s)), some (.int (nI sz)), some (.int (nI gg)), some (.int x5), some (.int (nI d)), some (.int (encX sz (sumO f m))), some (.int (nI m)), none] [.int y] τ := by
      intro y hy
      have es : sumO f (m + 1) = match sumO f m, f m with | some x, some y => some (x + y) | _, _ => none := rfl
      cases h1 : sumO f m with
      | none =>
        rw [h1] at es
        have es : sumO f (m + 1) = none := es
        rw [es] at ih
        refine st_istore hc dX12_trees_317 (by decide) rfl ?_
        refine st_iload hc dX12_trees_319 rfl ?_
        refine st_ldc hc dX12_trees_321 kcX12_227 ?_
        refine st_icmp_ge (tgt := 333) hc dX12_trees_323 (by decide) (fun h323 => ?_) (fun h323 => ?_)
        · refine st_ldc hc dX12_trees_333 kcX12_227 ?_
          refine st_goto (tgt := 343) hc dX12_trees_335 (by decide) ?_
          refine st_istore hc dX12_trees_343 (by decide) rfl ?_
          refine st_inc hc dX12_trees_345 rfl (by decide) rfl ?_
          rw [nI_1]
          refine st_goto (tgt := 267) hc dX12_trees_348 (by decide) ?_
          exact st_lvq _ (by simp [lvq, List.set, encX]) ih
        · exact absurd (Int32.le_refl (1000000000 : Int32)) h323
      | some x =>
        have hx := hb x h1
        cases h2 : f m with
        | none =>
          rw [h1, h2] at es
          have es : sumO f (m + 1) = none := es
          rw [h2] at hy
          have hy : y = 1000000000 := hy
          subst hy
          rw [es] at ih
          refine st_istore hc dX12_trees_317 (by decide) rfl ?_
          refine st_iload hc dX12_trees_319 rfl ?_
          refine st_ldc hc dX12_trees_321 kcX12_227 ?_
          refine st_icmp_ge (tgt := 333) hc dX12_trees_323 (by decide) (fun h323 => ?_) (fun h323 => ?_)
          · exact absurd ((nI_leI (a := 1000000000) (by decide) (by omega)).mp h323) (by omega)
          · refine st_iload hc dX12_trees_326 rfl ?_
            refine st_ldc hc dX12_trees_328 kcX12_227 ?_
            refine st_icmp_lt (tgt := 338) hc dX12_trees_330 (by decide) (fun h330 => ?_) (fun h330 => ?_)
            · exact absurd h330 (by decide)
            · refine st_ldc hc dX12_trees_333 kcX12_227 ?_
              refine st_goto (tgt := 343) hc dX12_trees_335 (by decide) ?_
              refine st_istore hc dX12_trees_343 (by decide) rfl ?_
              refine st_inc hc dX12_trees_345 rfl (by decide) rfl ?_
              rw [nI_1]
              refine st_goto (tgt := 267) hc dX12_trees_348 (by decide) ?_
              exact st_lvq _ (by simp [lvq, List.set, encX]) ih
        | some v =>
          rw [h1, h2] at es
          have es : sumO f (m + 1) = some (x + v) := es
          have hv : v ≤ 121 := by
            rw [hfm] at h2
            by_cases q : d = 1
            · rw [if_pos q] at h2; cases h2
            · rw [if_neg q, Option.map_eq_some_iff] at h2
              obtain ⟨b, hb2, rfl⟩ := h2
              exact hval _ b (pA_lt _ _ _) hb2
          rw [h2] at hy
          have hy : y = nI v := hy
          subst hy
          rw [es] at ih
          refine st_istore hc dX12_trees_317 (by decide) rfl ?_
          refine st_iload hc dX12_trees_319 rfl ?_
          refine st_ldc hc dX12_trees_321 kcX12_227 ?_
          refine st_icmp_ge (tgt := 333) hc dX12_trees_323 (by decide) (fun h323 => ?_) (fun h323 => ?_)
          · exact absurd ((nI_leI (a := 1000000000) (by decide) (by omega)).mp h323) (by omega)
          · refine st_iload hc dX12_trees_326 rfl ?_
            refine st_ldc hc dX12_trees_328 kcX12_227 ?_
            refine st_icmp_lt (tgt := 338) hc dX12_trees_330 (by decide) (fun h330 => ?_) (fun h330 => ?_)
            · refine st_iload hc dX12_trees_338 rfl ?_
              refine st_iload hc dX12_trees_340 rfl ?_
              refine st_iadd hc dX12_trees_342 ?_
              refine st_istore hc dX12_trees_343 (by decide) rfl ?_
              refine st_inc hc dX12_trees_345 rfl (by decide) rfl ?_
              rw [nI_1]
              refine st_goto (tgt := 267) hc dX12_trees_348 (by decide) ?_
              exact st_lvq _ (by simp [lvq, List.set, encX, nI_add, Nat.add_assoc]) ih
            · exact absurd (nI_lt (b := 1000000000) (by omega) (by decide)) h330
    have hrow : ∀ e : Nat, e < 11 → τ 16 (1024 * e + pA t gg s (pa m)) = enc (ms t e (pA t gg s (pa m))) := fun e he => ((hTB _ (Nat.pos_of_ne_zero hpa) hpl).2 e he).1
    refine st_iload hc dX12_trees_267 rfl ?_
    refine st_aload_n hc dX12_trees_269 rfl rfl ?_
    refine st_getE hc dX12_trees_270 flX12_238 rfl rfl (hM) ?_
    refine st_icmp_ge (tgt := 351) hc dX12_trees_273 (by decide) (fun h273 => ?_) (fun h273 => ?_)
    · exact absurd h273 (nI_ge hm (by omega))
    · refine st_iload hc dX12_trees_276 rfl ?_
      refine st_iconst (v := 1) hc dX12_trees_278 (by decide) ?_
      refine st_icmp_ne (tgt := 287) hc dX12_trees_279 (by decide) (fun h279 => ?_) (fun h279 => ?_)
      · have hd1 : ¬ d = 1 := fun q => h279 (by rw [q]; rfl)
        refine st_aload_n hc dX12_trees_287 rfl rfl ?_
        refine st_getr hc dX12_trees_288 flX12_69 rfl rfl ?_
        refine st_sipush (v := 1024) hc dX12_trees_291 (by decide) ?_
        refine st_iload hc dX12_trees_294 rfl ?_
        refine st_if_ne (tgt := 303) hc dX12_trees_296 (by decide) (fun h296 => ?_) (fun h296 => ?_)
        · have hd0 : ¬ d = 0 := fun q => h296 (by rw [q]; rfl)
          refine st_iload hc dX12_trees_303 rfl ?_
          refine st_iconst (v := 1) hc dX12_trees_305 (by decide) ?_
          refine st_isub hc dX12_trees_306 ?_
          refine st_imul hc dX12_trees_307 ?_
          refine st_aload_n hc dX12_trees_308 rfl rfl ?_
          refine st_getr hc dX12_trees_309 flX12_79 rfl rfl ?_
          refine st_iload hc dX12_trees_312 rfl ?_
          refine st_ialdN (k := m) hc dX12_trees_314 rfl (rfl) (by omega) (by first | decide | omega) (a2) ?_
          refine st_iadd hc dX12_trees_315 ?_
          refine st_ialdN (k := 1024 * (d - 1) + pA t gg s (pa m)) hc dX12_trees_316 rfl (by first | (rw [hd0]; show (1024 : Int32) * 0 + _ = _; rw [show (1024 : Int32) * 0 = nI 0 by decide, nI_add]) | (rw [show nI d - 1 = nI (d - 1) by rw [show d = (d - 1) + 1 by omega, nI_pred]; rfl, show (1024 : Int32) = nI 1024 from rfl, pk_mul, nI_add])) (by omega) (by first | decide | omega) (hrow (d - 1) (by omega)) ?_
          refine k317 _ ?_
          rw [hfm]
          first
            | (rw [if_pos hd1]; done)
            | (rw [if_neg hd1]; cases ms t (d - 1) (pA t gg s (pa m)) <;> rfl)
        · have hd0 : d = 0 := nI_inj (b := 0) (by omega) (by decide) h296
          refine st_iconst (v := 0) hc dX12_trees_299 (by decide) ?_
          refine st_goto (tgt := 307) hc dX12_trees_300 (by decide) ?_
          refine st_imul hc dX12_trees_307 ?_
          refine st_aload_n hc dX12_trees_308 rfl rfl ?_
          refine st_getr hc dX12_trees_309 flX12_79 rfl rfl ?_
          refine st_iload hc dX12_trees_312 rfl ?_
          refine st_ialdN (k := m) hc dX12_trees_314 rfl (rfl) (by omega) (by first | decide | omega) (a2) ?_
          refine st_iadd hc dX12_trees_315 ?_
          refine st_ialdN (k := 1024 * (d - 1) + pA t gg s (pa m)) hc dX12_trees_316 rfl (by first | (rw [hd0]; show (1024 : Int32) * 0 + _ = _; rw [show (1024 : Int32) * 0 = nI 0 by decide, nI_add]) | (rw [show nI d - 1 = nI (d - 1) by rw [show d = (d - 1) + 1 by omega, nI_pred]; rfl, show (1024 : Int32) = nI 1024 from rfl, pk_mul, nI_add])) (by omega) (by first | decide | omega) (hrow (d - 1) (by omega)) ?_
          refine k317 _ ?_
          rw [hfm]
          first
            | (rw [if_pos hd1]; done)
            | (rw [if_neg hd1]; cases ms t (d - 1) (pA t gg s (pa m)) <;> rfl)
      · have hd1 : d = 1 := nI_inj (b := 1) (by omega) (by decide) h279
        refine st_ldc hc dX12_trees_282 kcX12_227 ?_
        refine st_goto (tgt := 317) hc dX12_trees_284 (by decide) ?_
        refine k317 _ ?_
        rw [hfm]
        first
          | (rw [if_pos hd1]; done)
          | (rw [if_neg hd1]; cases ms t (d - 1) (pA t gg s (pa m)) <;> rfl)

