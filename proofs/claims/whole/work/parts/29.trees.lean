/-! ===== the reference's tables of trees ===== -/
theorem sumN_oneE (n x : Nat) (h : x < n) : sumN n (fun c => if (x == c) = true then 1 else 0) = 1 := by
  have h2 : ∀ n, sumN n (fun c => if (x == c) = true then 1 else 0) = if x < n then 1 else 0 := by
    intro n
    induction n with
    | zero => simp [sumN]
    | succ n ih =>
      simp only [sumN]
      rw [ih]
      by_cases e : x = n
      · subst e; simp
      · by_cases e2 : x < n
        · rw [if_pos e2, if_neg (by simpa using e), if_pos (by omega)]
        · rw [if_neg e2, if_neg (by simpa using e), if_neg (by omega)]
  rw [h2, if_pos h]
theorem sum_cntE (C n : Nat) (f : Nat → Nat) (hf : ∀ i, f i < C) : sumN C (fun c => cnt n (fun i => f i == c)) = n := by
  induction n with
  | zero =>
    have : ∀ C, sumN C (fun c => cnt 0 (fun i => f i == c)) = 0 := by
      intro C
      induction C with
      | zero => rfl
      | succ C ih => simp only [sumN]; rw [ih]; rfl
    exact this C
  | succ n ih =>
    have e : sumN C (fun c => cnt (n + 1) (fun i => f i == c)) = sumN C (fun c => cnt n (fun i => f i == c)) + sumN C (fun c => if (f n == c) = true then 1 else 0) := by
      rw [← sumN_add]
      rfl
    rw [e, ih, sumN_oneE C (f n) (hf n)]
theorem ans_self {P C : Nat} (hC : 1 ≤ C) (hC8 : C ≤ 8) (c : Nat) : ans P C (fun i => nI (pegOf P C c i)) c = 10 * P := by
  have h1 : blacks P C (fun i => nI (pegOf P C c i)) c = P := by
    unfold blacks
    have : ∀ n, cnt n (fun i => nI (pegOf P C c i) == nI (pegOf P C c i)) = n := by
      intro n
      induction n with
      | zero => rfl
      | succ n ih => rw [cnt, ih]; simp
    exact this P
  have h2 : alike P C (fun i => nI (pegOf P C c i)) c = P := by
    unfold alike
    have e : sumN C (hues P C (fun i => nI (pegOf P C c i)) c) = sumN C (fun a => cnt P (fun i => pegOf P C c i == a)) := by
      refine sumN_congr (fun a ha => ?_)
      unfold hues
      have : cnt P (fun i => nI (pegOf P C c i) == nI a) = cnt P (fun i => pegOf P C c i == a) := by
        refine cnt_congr (fun i _ => ?_)
        have hp := pegOf_lt (P := P) hC c i
        by_cases q : pegOf P C c i = a
        · rw [q]; simp
        · rw [beq_eq_false_iff_ne.mpr q, beq_eq_false_iff_ne.mpr (fun z => q (nI_inj (by omega) (by omega) z))]
      rw [this, Nat.min_self]
    rw [e]
    exact sum_cntE C P _ (fun i => pegOf_lt hC c i)
  unfold ans
  omega
def enc (o : Option (Nat × Nat)) : Int32 := match o with
  | none => 1000000000
  | some b => nI b.1
def encX (z : Nat) (o : Option Nat) : Int32 := match o with
  | none => 1000000000
  | some x => nI (z + x)
theorem FARn : (1000000000 : Int32) = nI 1000000000 := rfl
/-- what the tables say of the set s -/
def RW (τ : St) (s : Nat) (cd : Option (Nat × Nat)) (cs : Nat → Option (Nat × Nat)) : Prop := (τ 14 s = enc cd ∧ ∀ b, cd = some b → τ 15 s = nI b.2) ∧ ∀ d, d < 11 → τ 16 (1024 * d + s) = enc (cs d) ∧ ∀ b, cs d = some b → τ 17 (1024 * d + s) = nI b.2
def TB (t : TD) (τ : St) (s : Nat) : Prop := ∀ p, 0 < p → p < s → RW τ p (md t p) (fun d => ms t d p)
/-- the sum loop -/
theorem T_sum {g : Gx} {dd : Nat} {t : TD} {τ : St} {Q : Option Value → St → Prop} {s gg M d sz : Nat} {pa : Nat → Nat} {w20 : Nat → Int32} (hc : cX g YM RX12 cX12_trees 10 none dd) (ht : tOK t) (hTB : TB t τ s) (hs : s < 2 ^ tn t) (hcd : cand t gg s = true) (hPI : PI s (tA t gg) (tfu t) (tn t) M pa (τ 19) w20) (hM : τ 0 32 = nI M) (hd : d < 11) (hsz : sz ≤ 11) {x1 x5 : Int32}
    (k : aW g YM 10 Q 351 [some (.ref 0), some (.int x1), some (.int (nI s)), some (.int (nI sz)), some (.int (nI gg)), some (.int x5), some (.int (nI d)), some (.int (encX sz (sumO (fun a => if pA t gg s a = 0 then some 0 else if d = 1 then none else (ms t (d - 1) (pA t gg s a)).map Prod.fst) 60))), none, none] [] τ) :
    aW g YM 10 Q 267 [some (.ref 0), some (.int x1), some (.int (nI s)), some (.int (nI sz)), some (.int (nI gg)), some (.int x5), some (.int (nI d)), some (.int (nI (sz + 0))), some (.int (nI 0)), none] [] τ := by
  have hn10 := ht.1
  have h10 : 2 ^ tn t ≤ 1024 := Nat.pow_le_pow_right (by decide) ht.1
  have hMn : M ≤ 10 := Nat.le_trans hPI.1 hn10
  have hval : ∀ p b, p < 2 ^ tn t → ms t (d - 1) p = some b → b.1 ≤ 121 := fun p b hp hb => by
    have h1 := ms_le ht p (d - 1) p b (Nat.le_refl _) hp hb
    have h2 : ones p ≤ 11 := cnt_le _ _
    exact Nat.le_trans h1 (Nat.mul_le_mul h2 h2)
  rw [← PI_sum hPI (fun p => if d = 1 then none else (ms t (d - 1) p).map Prod.fst)] at k
  generalize hf : (fun m => (fun p => if d = 1 then none else (ms t (d - 1) p).map Prod.fst) (pA t gg s (pa m))) = f at k
  have hfm : ∀ m, f m = if d = 1 then none else (ms t (d - 1) (pA t gg s (pa m))).map Prod.fst := fun m => by rw [← hf]
  have hbnd : ∀ m x, sumO f m = some x → x ≤ m * 121 := by
    intro m x hx
    have := sumO_le (b := fun _ => 121) m x hx (fun i _ y hy => by
      rw [hfm] at hy
      by_cases q : d = 1
      · rw [if_pos q] at hy; cases hy
      · rw [if_neg q, Option.map_eq_some_iff] at hy
        obtain ⟨b, hb, rfl⟩ := hy
        exact hval _ b (pA_lt _ _ _) hb)
    have e : ∀ n, sumN n (fun _ => 121) = n * 121 := by
      intro n
      induction n with
      | zero => rfl
      | succ n ih => rw [sumN, ih, Nat.succ_mul]
    rw [e] at this
    exact this
  refine lpN (n := M) (F := fun m => aW g YM 10 Q 267 [some (.ref 0), some (.int x1), some (.int (nI s)), some (.int (nI sz)), some (.int (nI gg)), some (.int x5), some (.int (nI d)), some (.int (encX sz (sumO f m))), some (.int (nI m)), none] [] τ) ?_ (fun m hm ih => ?_)
  · refine st_iload hc dX12_trees_267 rfl ?_
    refine st_aload_n hc dX12_trees_269 rfl rfl ?_
    refine st_getE hc dX12_trees_270 flX12_238 rfl rfl (hM) ?_
    refine st_icmp_ge (tgt := 351) hc dX12_trees_273 (by decide) (fun h273 => ?_) (fun h273 => ?_)
    · exact st_lvq _ (by simp [lvq]) k
    · exact absurd (nI_le (Nat.le_refl _) (by omega)) h273
  · obtain ⟨a1, a2, a3, a4, a5⟩ := hPI.2.1 m hm
    rw [PI_prt hPI hm] at a2
    have hpa : ¬ pA t gg s (pa m) = 0 := (PI_any hPI (pa m)).mp ((anyN_iff _ _).mpr ⟨m, hm, by simp⟩)
    have hpl := (part_ok ht hcd hs hpa a3).1
    have hb := hbnd m
    -- more
    have k317 : ∀ y : Int32, y = (match f m with | none => 1000000000 | some v => nI v) → aW g YM 10 Q 317 [some (.ref 0), some (.int x1), some (.int (nI s)), some (.int (nI sz)), some (.int (nI gg)), some (.int x5), some (.int (nI d)), some (.int (encX sz (sumO f m))), some (.int (nI m)), none] [.int y] τ := by
      intro y hy
      have es : sumO f (m + 1) = match sumO f m, f m with | some x, some y => some (x + y) | _, _ => none := rfl
      cases h1 : sumO f m with
      | none =>
        rw [h1] at es
        have es : sumO f (m + 1) = none := es
        rw [es] at ih
        refine st_istore hc dX12_trees_317 (by decide) rfl ?_
        refine st_iload hc dX12_trees_319 rfl ?_
        refine st_ldc hc dX12_trees_321 kcX12_227 ?_
        refine st_icmp_ge (tgt := 333) hc dX12_trees_323 (by decide) (fun h323 => ?_) (fun h323 => ?_)
        · refine st_ldc hc dX12_trees_333 kcX12_227 ?_
          refine st_goto (tgt := 343) hc dX12_trees_335 (by decide) ?_
          refine st_istore hc dX12_trees_343 (by decide) rfl ?_
          refine st_inc hc dX12_trees_345 rfl (by decide) rfl ?_
          rw [nI_1]
          refine st_goto (tgt := 267) hc dX12_trees_348 (by decide) ?_
          exact st_lvq _ (by simp [lvq, List.set, encX]) ih
        · exact absurd (Int32.le_refl (1000000000 : Int32)) h323
      | some x =>
        have hx := hb x h1
        cases h2 : f m with
        | none =>
          rw [h1, h2] at es
          have es : sumO f (m + 1) = none := es
          rw [h2] at hy
          have hy : y = 1000000000 := hy
          subst hy
          rw [es] at ih
          refine st_istore hc dX12_trees_317 (by decide) rfl ?_
          refine st_iload hc dX12_trees_319 rfl ?_
          refine st_ldc hc dX12_trees_321 kcX12_227 ?_
          refine st_icmp_ge (tgt := 333) hc dX12_trees_323 (by decide) (fun h323 => ?_) (fun h323 => ?_)
          · exact absurd ((nI_leI (a := 1000000000) (by decide) (by omega)).mp h323) (by omega)
          · refine st_iload hc dX12_trees_326 rfl ?_
            refine st_ldc hc dX12_trees_328 kcX12_227 ?_
            refine st_icmp_lt (tgt := 338) hc dX12_trees_330 (by decide) (fun h330 => ?_) (fun h330 => ?_)
            · exact absurd h330 (by decide)
            · refine st_ldc hc dX12_trees_333 kcX12_227 ?_
              refine st_goto (tgt := 343) hc dX12_trees_335 (by decide) ?_
              refine st_istore hc dX12_trees_343 (by decide) rfl ?_
              refine st_inc hc dX12_trees_345 rfl (by decide) rfl ?_
              rw [nI_1]
              refine st_goto (tgt := 267) hc dX12_trees_348 (by decide) ?_
              exact st_lvq _ (by simp [lvq, List.set, encX]) ih
        | some v =>
          rw [h1, h2] at es
          have es : sumO f (m + 1) = some (x + v) := es
          have hv : v ≤ 121 := by
            rw [hfm] at h2
            by_cases q : d = 1
            · rw [if_pos q] at h2; cases h2
            · rw [if_neg q, Option.map_eq_some_iff] at h2
              obtain ⟨b, hb2, rfl⟩ := h2
              exact hval _ b (pA_lt _ _ _) hb2
          rw [h2] at hy
          have hy : y = nI v := hy
          subst hy
          rw [es] at ih
          refine st_istore hc dX12_trees_317 (by decide) rfl ?_
          refine st_iload hc dX12_trees_319 rfl ?_
          refine st_ldc hc dX12_trees_321 kcX12_227 ?_
          refine st_icmp_ge (tgt := 333) hc dX12_trees_323 (by decide) (fun h323 => ?_) (fun h323 => ?_)
          · exact absurd ((nI_leI (a := 1000000000) (by decide) (by omega)).mp h323) (by omega)
          · refine st_iload hc dX12_trees_326 rfl ?_
            refine st_ldc hc dX12_trees_328 kcX12_227 ?_
            refine st_icmp_lt (tgt := 338) hc dX12_trees_330 (by decide) (fun h330 => ?_) (fun h330 => ?_)
            · refine st_iload hc dX12_trees_338 rfl ?_
              refine st_iload hc dX12_trees_340 rfl ?_
              refine st_iadd hc dX12_trees_342 ?_
              refine st_istore hc dX12_trees_343 (by decide) rfl ?_
              refine st_inc hc dX12_trees_345 rfl (by decide) rfl ?_
              rw [nI_1]
              refine st_goto (tgt := 267) hc dX12_trees_348 (by decide) ?_
              exact st_lvq _ (by simp [lvq, List.set, encX, nI_add, Nat.add_assoc]) ih
            · exact absurd (nI_lt (b := 1000000000) (by omega) (by decide)) h330
    have hrow : ∀ e : Nat, e < 11 → τ 16 (1024 * e + pA t gg s (pa m)) = enc (ms t e (pA t gg s (pa m))) := fun e he => ((hTB _ (Nat.pos_of_ne_zero hpa) hpl).2 e he).1
    refine st_iload hc dX12_trees_267 rfl ?_
    refine st_aload_n hc dX12_trees_269 rfl rfl ?_
    refine st_getE hc dX12_trees_270 flX12_238 rfl rfl (hM) ?_
    refine st_icmp_ge (tgt := 351) hc dX12_trees_273 (by decide) (fun h273 => ?_) (fun h273 => ?_)
    · exact absurd h273 (nI_ge hm (by omega))
    · refine st_iload hc dX12_trees_276 rfl ?_
      refine st_iconst (v := 1) hc dX12_trees_278 (by decide) ?_
      refine st_icmp_ne (tgt := 287) hc dX12_trees_279 (by decide) (fun h279 => ?_) (fun h279 => ?_)
      · have hd1 : ¬ d = 1 := fun q => h279 (by rw [q]; rfl)
        refine st_aload_n hc dX12_trees_287 rfl rfl ?_
        refine st_getr hc dX12_trees_288 flX12_69 rfl rfl ?_
        refine st_sipush (v := 1024) hc dX12_trees_291 (by decide) ?_
        refine st_iload hc dX12_trees_294 rfl ?_
        refine st_if_ne (tgt := 303) hc dX12_trees_296 (by decide) (fun h296 => ?_) (fun h296 => ?_)
        · have hd0 : ¬ d = 0 := fun q => h296 (by rw [q]; rfl)
          refine st_iload hc dX12_trees_303 rfl ?_
          refine st_iconst (v := 1) hc dX12_trees_305 (by decide) ?_
          refine st_isub hc dX12_trees_306 ?_
          refine st_imul hc dX12_trees_307 ?_
          refine st_aload_n hc dX12_trees_308 rfl rfl ?_
          refine st_getr hc dX12_trees_309 flX12_79 rfl rfl ?_
          refine st_iload hc dX12_trees_312 rfl ?_
          refine st_ialdN (k := m) hc dX12_trees_314 rfl (rfl) (by omega) (by first | decide | omega) (a2) ?_
          refine st_iadd hc dX12_trees_315 ?_
          refine st_ialdN (k := 1024 * (d - 1) + pA t gg s (pa m)) hc dX12_trees_316 rfl (by first | (rw [hd0]; show (1024 : Int32) * 0 + _ = _; rw [show (1024 : Int32) * 0 = nI 0 by decide, nI_add]) | (rw [show nI d - 1 = nI (d - 1) by rw [show d = (d - 1) + 1 by omega, nI_pred]; rfl, show (1024 : Int32) = nI 1024 from rfl, pk_mul, nI_add])) (by omega) (by first | decide | omega) (hrow (d - 1) (by omega)) ?_
          refine k317 _ ?_
          rw [hfm]
          first
            | (rw [if_pos hd1]; done)
            | (rw [if_neg hd1]; cases ms t (d - 1) (pA t gg s (pa m)) <;> rfl)
        · have hd0 : d = 0 := nI_inj (b := 0) (by omega) (by decide) h296
          refine st_iconst (v := 0) hc dX12_trees_299 (by decide) ?_
          refine st_goto (tgt := 307) hc dX12_trees_300 (by decide) ?_
          refine st_imul hc dX12_trees_307 ?_
          refine st_aload_n hc dX12_trees_308 rfl rfl ?_
          refine st_getr hc dX12_trees_309 flX12_79 rfl rfl ?_
          refine st_iload hc dX12_trees_312 rfl ?_
          refine st_ialdN (k := m) hc dX12_trees_314 rfl (rfl) (by omega) (by first | decide | omega) (a2) ?_
          refine st_iadd hc dX12_trees_315 ?_
          refine st_ialdN (k := 1024 * (d - 1) + pA t gg s (pa m)) hc dX12_trees_316 rfl (by first | (rw [hd0]; show (1024 : Int32) * 0 + _ = _; rw [show (1024 : Int32) * 0 = nI 0 by decide, nI_add]) | (rw [show nI d - 1 = nI (d - 1) by rw [show d = (d - 1) + 1 by omega, nI_pred]; rfl, show (1024 : Int32) = nI 1024 from rfl, pk_mul, nI_add])) (by omega) (by first | decide | omega) (hrow (d - 1) (by omega)) ?_
          refine k317 _ ?_
          rw [hfm]
          first
            | (rw [if_pos hd1]; done)
            | (rw [if_neg hd1]; cases ms t (d - 1) (pA t gg s (pa m)) <;> rfl)
      · have hd1 : d = 1 := nI_inj (b := 1) (by omega) (by decide) h279
        refine st_ldc hc dX12_trees_282 kcX12_227 ?_
        refine st_goto (tgt := 317) hc dX12_trees_284 (by decide) ?_
        refine k317 _ ?_
        rw [hfm]
        first
          | (rw [if_pos hd1]; done)
          | (rw [if_neg hd1]; cases ms t (d - 1) (pA t gg s (pa m)) <;> rfl)
def TI (σ : St) (t : TD) (τ : St) : Prop := sE σ τ ∧ τ 0 18 = nI (tn t) ∧ (∀ k, k < tn t → τ 7 k = nI (tL t k)) ∧ ∀ g, g < tN2 t → ∀ k, k < tn t → τ 18 (10 * g + k) = nI (tA t g k)
theorem TI.v {σ τ : St} {t : TD} (h : TI σ t τ) {k : Nat} (hk : perM k 0 = false) (h0 : k ≠ 0) (h7 : k ≠ 7) (h18 : k ≠ 18) (w : Nat → Int32) : TI σ t (va_up τ k w) := by
  obtain ⟨h1, h2, h3, h4⟩ := h
  refine ⟨h1.v hk h0 w, ?_, ?_, ?_⟩
  · rw [vu_n (fun q => h0 q.symm)]; exact h2
  · intro j hj; rw [vu_n (fun q => h7 q.symm)]; exact h3 j hj
  · intro j hj k hk; rw [vu_n (fun q => h18 q.symm)]; exact h4 j hj k hk
theorem TI.sp {σ τ : St} {t : TD} (h : TI σ t τ) (M : Nat) (w19 w20 : Nat → Int32) : TI σ t (spS τ M w19 w20) := by
  have h1 : TI σ t (up τ 0 32 (nI M)) := by
    obtain ⟨h1, h2, h3, h4⟩ := h
    refine ⟨?_, h2, h3, h4⟩
    intro a b hp
    rw [up_eq, if_neg]
    · exact h1 a b hp
    · rintro ⟨rfl, rfl⟩; simp [perM] at hp
  exact (h1.v rfl (by decide) (by decide) (by decide) w19).v rfl (by decide) (by decide) (by decide) w20
/-- the tables agree -/
theorem TB.eq {t : TD} {τ υ : St} {s : Nat} (h : TB t τ s) (h14 : ∀ p, p < s → υ 14 p = τ 14 p) (h15 : ∀ p, p < s → υ 15 p = τ 15 p) (h16 : ∀ d p, p < s → υ 16 (1024 * d + p) = τ 16 (1024 * d + p)) (h17 : ∀ d p, p < s → υ 17 (1024 * d + p) = τ 17 (1024 * d + p)) : TB t υ s := by
  intro p hp0 hps
  obtain ⟨⟨a1, a2⟩, a3⟩ := h p hp0 hps
  refine ⟨⟨by rw [h14 p hps]; exact a1, fun b hb => by rw [h15 p hps]; exact a2 b hb⟩, fun d hd => ?_⟩
  obtain ⟨b1, b2⟩ := a3 d hd
  exact ⟨by rw [h16 d p hps]; exact b1, fun b hb => by rw [h17 d p hps]; exact b2 b hb⟩
theorem ix_ne {d e p s : Nat} (hp : p < s) (hs : s < 1024) : 1024 * d + p ≠ 1024 * e + s := by omega
theorem msC_le {t : TD} (ht : tOK t) {d s g v : Nat} (h : msC t (ms t) d s g = some v) : v ≤ 7271 := by
  unfold msC at h
  by_cases hc : cand t g s = true
  · rw [if_pos hc, Option.map_eq_some_iff] at h
    obtain ⟨x, h3, rfl⟩ := h
    have h5 := sumO_le (b := fun _ => 121) 60 x h3 (fun a ha y hy => by
      by_cases hp : pA t g s a = 0
      · rw [if_pos hp] at hy; cases hy; omega
      · rw [if_neg hp] at hy
        by_cases hd : d = 1
        · rw [if_pos hd] at hy; cases hy
        · rw [if_neg hd, Option.map_eq_some_iff] at hy
          obtain ⟨b, hb, rfl⟩ := hy
          have h1 := ms_le ht _ (d - 1) _ b (Nat.le_refl _) (pA_lt _ _ _) hb
          have h2 : ones (pA t g s a) ≤ 11 := cnt_le _ _
          exact Nat.le_trans h1 (Nat.mul_le_mul h2 h2))
    have h6 : sumN 60 (fun _ => 121) = 7260 := by decide
    have h7 : ones s ≤ 11 := cnt_le _ _
    omega
  · rw [if_neg hc] at h; cases h
/-- one guess more: its cost against the best so far -/
theorem bst_no {c : Nat → Option Nat} {n : Nat} (h : c n = none) : bstO c (n + 1) = bstO c n := by
  rw [bstO, h]
  cases bstO c n <;> rfl
theorem bst_some {c : Nat → Option Nat} {n v : Nat} (h : c n = some v) : bstO c (n + 1) = match bstO c n with | some b => if v < b.1 then some (v, n) else some b | none => some (v, n) := by
  rw [bstO, h]
  cases bstO c n <;> rfl
/-- the rows below d have seen guess gg already -/
def pcs (t : TD) (s gg d e : Nat) : Option (Nat × Nat) := if e < d then bstO (msC t (ms t) e s) (gg + 1) else bstO (msC t (ms t) e s) gg
theorem pcs_lt {t : TD} {s gg d e : Nat} (h : e < d) : pcs t s gg d e = bstO (msC t (ms t) e s) (gg + 1) := if_pos h
theorem pcs_ge {t : TD} {s gg d e : Nat} (h : d ≤ e) : pcs t s gg d e = bstO (msC t (ms t) e s) gg := if_neg (Nat.not_lt.mpr h)
theorem T_upd {g : Gx} {dd : Nat} {σ : St} {t : TD} {Q : Option Value → St → Prop} {s gg d : Nat} (hc : cX g YM RX12 cX12_trees 10 none dd) (ht : tOK t) (hs : s < 2 ^ tn t) (hd : d < 11) (hg : gg < tN2 t) (hN : tN2 t ≤ 4096) (hcd : cand t gg s = true) (τ : St) (hTI : TI σ t τ) (hTB : TB t τ s) (cd : Option (Nat × Nat)) {M : Nat} (hM : τ 0 32 = nI M) (w : Nat → Int32) (hw : τ 19 = w)
    (hRW : RW τ s cd (pcs t s gg d)) {x1 x3 x5 : Int32}
    (k : ∀ υ, TI σ t υ → TB t υ s → υ 0 32 = nI M → υ 19 = w → RW υ s cd (pcs t s gg (d + 1)) → aW g YM 10 Q 402 [some (.ref 0), some (.int x1), some (.int (nI s)), some (.int x3), some (.int (nI gg)), some (.int x5), some (.int (nI d)), none, none, none] [] υ) :
    aW g YM 10 Q 351 [some (.ref 0), some (.int x1), some (.int (nI s)), some (.int x3), some (.int (nI gg)), some (.int x5), some (.int (nI d)), some (.int (encX (ones s) (sumO (fun a => if pA t gg s a = 0 then some 0 else if d = 1 then none else (ms t (d - 1) (pA t gg s a)).map Prod.fst) 60))), none, none] [] τ := by
  have h10 : 2 ^ tn t ≤ 1024 := Nat.pow_le_pow_right (by decide) ht.1
  have hcost : msC t (ms t) d s gg = (sumO (fun a => if pA t gg s a = 0 then some 0 else if d = 1 then none else (ms t (d - 1) (pA t gg s a)).map Prod.fst) 60).map (fun x => ones s + x) := by unfold msC; rw [if_pos hcd]
  generalize sumO (fun a => if pA t gg s a = 0 then some 0 else if d = 1 then none else (ms t (d - 1) (pA t gg s a)).map Prod.fst) 60 = o at hcost ⊢
  obtain ⟨hR1, hR2⟩ := id hRW
  obtain ⟨hcur, hcby⟩ := hR2 d hd
  rw [pcs_ge (Nat.le_refl _)] at hcur hcby
  have hbb : ∀ b, bstO (msC t (ms t) d s) gg = some b → b.1 ≤ 7271 := fun b hb => msC_le ht (bstO_val _ _ hb).2
  -- nothing is changed
  have kno : bstO (msC t (ms t) d s) (gg + 1) = bstO (msC t (ms t) d s) gg → aW g YM 10 Q 402 [some (.ref 0), some (.int x1), some (.int (nI s)), some (.int x3), some (.int (nI gg)), some (.int x5), some (.int (nI d)), none, none, none] [] τ := by
    intro e
    refine k τ hTI hTB hM hw ⟨hR1, fun e' he' => ?_⟩
    have := hR2 e' he'
    by_cases q : e' = d
    · subst q
      rw [pcs_lt (Nat.lt_succ_self _), e]
      exact ⟨hcur, hcby⟩
    · by_cases q2 : e' < d
      · rw [pcs_lt q2] at this; rw [pcs_lt (by omega)]; exact this
      · rw [pcs_ge (by omega)] at this; rw [pcs_ge (by omega)]; exact this
  -- the better one is written
  have kyes : ∀ v, bstO (msC t (ms t) d s) (gg + 1) = some (v, gg) → aW g YM 10 Q 402 [some (.ref 0), some (.int x1), some (.int (nI s)), some (.int x3), some (.int (nI gg)), some (.int x5), some (.int (nI d)), none, none, none] [] (up (up τ 16 (1024 * d + s) (nI v)) 17 (1024 * d + s) (nI gg)) := by
    intro v e
    refine k _ ((hTI.v (k := 16) rfl (by decide) (by decide) (by decide) _).v (k := 17) rfl (by decide) (by decide) (by decide) _) ?_ hM hw ⟨hR1, fun e' he' => ?_⟩
    · refine hTB.eq (fun _ _ => rfl) (fun _ _ => rfl) (fun e' p hp => ?_) (fun e' p hp => ?_)
      · rw [up_eq, if_neg (fun q => absurd q.1 (by decide)), up_eq, if_neg (fun q => ix_ne hp (by omega) q.2)]
      · rw [up_eq, if_neg (fun q => ix_ne hp (by omega) q.2)]; rfl
    · have h0 := hR2 e' he'
      by_cases q : e' = d
      · subst q
        rw [pcs_lt (Nat.lt_succ_self _), e]
        refine ⟨?_, fun b hb => ?_⟩
        · rw [up_eq, if_neg (fun q => absurd q.1 (by decide)), up_eq, if_pos ⟨rfl, rfl⟩]; rfl
        · cases hb; rw [up_eq, if_pos ⟨rfl, rfl⟩]
      · have e1 : up (up τ 16 (1024 * d + s) (nI v)) 17 (1024 * d + s) (nI gg) 16 (1024 * e' + s) = τ 16 (1024 * e' + s) := by rw [up_eq, if_neg (fun q => absurd q.1 (by decide)), up_eq, if_neg (fun z => q (by omega))]
        have e2 : up (up τ 16 (1024 * d + s) (nI v)) 17 (1024 * d + s) (nI gg) 17 (1024 * e' + s) = τ 17 (1024 * e' + s) := by rw [up_eq, if_neg (fun z => q (by omega))]; rfl
        rw [e1, e2]
        by_cases q2 : e' < d
        · rw [pcs_lt q2] at h0; rw [pcs_lt (by omega)]; exact h0
        · rw [pcs_ge (by omega)] at h0; rw [pcs_ge (by omega)]; exact h0
  cases o with
  | none =>
    have e := bst_no (c := msC t (ms t) d s) (n := gg) hcost
    have kk := kno e
    have hle : ¬ (1000000000 : Int32) < enc (bstO (msC t (ms t) d s) gg) := by
      cases hb : bstO (msC t (ms t) d s) gg with
      | none => exact (by decide : ¬ (1000000000 : Int32) < 1000000000)
      | some b => exact nI_nlt (a := 1000000000) (by have := hbb b hb; omega) (by decide)
    refine st_iload hc dX12_trees_351 rfl ?_
    refine st_aload_n hc dX12_trees_353 rfl rfl ?_
    refine st_getr hc dX12_trees_354 flX12_69 rfl rfl ?_
    refine st_sipush (v := 1024) hc dX12_trees_357 (by decide) ?_
    refine st_iload hc dX12_trees_360 rfl ?_
    refine st_imul hc dX12_trees_362 ?_
    refine st_iload_n hc dX12_trees_363 rfl rfl ?_
    refine st_iadd hc dX12_trees_364 ?_
    refine st_ialdN (k := 1024 * d + s) hc dX12_trees_365 rfl (by rw [show (1024 : Int32) = nI 1024 from rfl, pk_mul, nI_add]) (by omega) (by first | decide | omega) (hcur) ?_
    refine st_icmp_lt (tgt := 372) hc dX12_trees_366 (by decide) (fun h366 => ?_) (fun h366 => ?_)
    · exact absurd h366 hle
    · refine st_goto (tgt := 402) hc dX12_trees_369 (by decide) ?_
      exact st_lvq _ (by simp [lvq]) kk
  | some x =>
    have hcost : msC t (ms t) d s gg = some (ones s + x) := hcost
    have e := bst_some (c := msC t (ms t) d s) (n := gg) hcost
    have hv := msC_le ht hcost
    cases hb : bstO (msC t (ms t) d s) gg with
    | none =>
      rw [hb] at e hcur
      have kk := kyes (ones s + x) e
      refine st_iload hc dX12_trees_351 rfl ?_
      refine st_aload_n hc dX12_trees_353 rfl rfl ?_
      refine st_getr hc dX12_trees_354 flX12_69 rfl rfl ?_
      refine st_sipush (v := 1024) hc dX12_trees_357 (by decide) ?_
      refine st_iload hc dX12_trees_360 rfl ?_
      refine st_imul hc dX12_trees_362 ?_
      refine st_iload_n hc dX12_trees_363 rfl rfl ?_
      refine st_iadd hc dX12_trees_364 ?_
      refine st_ialdN (k := 1024 * d + s) hc dX12_trees_365 rfl (by rw [show (1024 : Int32) = nI 1024 from rfl, pk_mul, nI_add]) (by omega) (by first | decide | omega) (hcur) ?_
      refine st_icmp_lt (tgt := 372) hc dX12_trees_366 (by decide) (fun h366 => ?_) (fun h366 => ?_)
      · refine st_aload_n hc dX12_trees_372 rfl rfl ?_
        refine st_getr hc dX12_trees_373 flX12_69 rfl rfl ?_
        refine st_sipush (v := 1024) hc dX12_trees_376 (by decide) ?_
        refine st_iload hc dX12_trees_379 rfl ?_
        refine st_imul hc dX12_trees_381 ?_
        refine st_iload_n hc dX12_trees_382 rfl rfl ?_
        refine st_iadd hc dX12_trees_383 ?_
        refine st_iload hc dX12_trees_384 rfl ?_
        refine st_iastN (k := 1024 * d + s) hc dX12_trees_386 rfl (by rw [show (1024 : Int32) = nI 1024 from rfl, pk_mul, nI_add]) (by omega) (by first | decide | omega)  ?_
        refine st_aload_n hc dX12_trees_387 rfl rfl ?_
        refine st_getr hc dX12_trees_388 flX12_72 rfl rfl ?_
        refine st_sipush (v := 1024) hc dX12_trees_391 (by decide) ?_
        refine st_iload hc dX12_trees_394 rfl ?_
        refine st_imul hc dX12_trees_396 ?_
        refine st_iload_n hc dX12_trees_397 rfl rfl ?_
        refine st_iadd hc dX12_trees_398 ?_
        refine st_iload hc dX12_trees_399 rfl ?_
        refine st_iastN (k := 1024 * d + s) hc dX12_trees_401 rfl (by rw [show (1024 : Int32) = nI 1024 from rfl, pk_mul, nI_add]) (by omega) (by first | decide | omega)  ?_
        exact st_lvq _ (by simp [lvq]) kk
      · exact absurd (nI_lt (b := 1000000000) (show ones s + x < 1000000000 by omega) (by decide)) h366
    | some b =>
      have hb1 := hbb b hb
      rw [hb] at e hcur
      have e : bstO (msC t (ms t) d s) (gg + 1) = if ones s + x < b.1 then some (ones s + x, gg) else some b := e
      refine st_iload hc dX12_trees_351 rfl ?_
      refine st_aload_n hc dX12_trees_353 rfl rfl ?_
      refine st_getr hc dX12_trees_354 flX12_69 rfl rfl ?_
      refine st_sipush (v := 1024) hc dX12_trees_357 (by decide) ?_
      refine st_iload hc dX12_trees_360 rfl ?_
      refine st_imul hc dX12_trees_362 ?_
      refine st_iload_n hc dX12_trees_363 rfl rfl ?_
      refine st_iadd hc dX12_trees_364 ?_
      refine st_ialdN (k := 1024 * d + s) hc dX12_trees_365 rfl (by rw [show (1024 : Int32) = nI 1024 from rfl, pk_mul, nI_add]) (by omega) (by first | decide | omega) (hcur) ?_
      refine st_icmp_lt (tgt := 372) hc dX12_trees_366 (by decide) (fun h366 => ?_) (fun h366 => ?_)
      · have hlt : ones s + x < b.1 := (nI_ltI (by omega) (by omega)).mp h366
        rw [if_pos hlt] at e
        have kk := kyes (ones s + x) e
        refine st_aload_n hc dX12_trees_372 rfl rfl ?_
        refine st_getr hc dX12_trees_373 flX12_69 rfl rfl ?_
        refine st_sipush (v := 1024) hc dX12_trees_376 (by decide) ?_
        refine st_iload hc dX12_trees_379 rfl ?_
        refine st_imul hc dX12_trees_381 ?_
        refine st_iload_n hc dX12_trees_382 rfl rfl ?_
        refine st_iadd hc dX12_trees_383 ?_
        refine st_iload hc dX12_trees_384 rfl ?_
        refine st_iastN (k := 1024 * d + s) hc dX12_trees_386 rfl (by rw [show (1024 : Int32) = nI 1024 from rfl, pk_mul, nI_add]) (by omega) (by first | decide | omega)  ?_
        refine st_aload_n hc dX12_trees_387 rfl rfl ?_
        refine st_getr hc dX12_trees_388 flX12_72 rfl rfl ?_
        refine st_sipush (v := 1024) hc dX12_trees_391 (by decide) ?_
        refine st_iload hc dX12_trees_394 rfl ?_
        refine st_imul hc dX12_trees_396 ?_
        refine st_iload_n hc dX12_trees_397 rfl rfl ?_
        refine st_iadd hc dX12_trees_398 ?_
        refine st_iload hc dX12_trees_399 rfl ?_
        refine st_iastN (k := 1024 * d + s) hc dX12_trees_401 rfl (by rw [show (1024 : Int32) = nI 1024 from rfl, pk_mul, nI_add]) (by omega) (by first | decide | omega)  ?_
        exact st_lvq _ (by simp [lvq]) kk
      · have hlt : ¬ ones s + x < b.1 := fun q => h366 ((nI_ltI (by omega) (by omega)).mpr q)
        rw [if_neg hlt] at e
        have kk := kno (e.trans hb.symm)
        refine st_goto (tgt := 402) hc dX12_trees_369 (by decide) ?_
        exact st_lvq _ (by simp [lvq]) kk

