/-! ===== calls of the class: the best guess, the tree, its nodes ===== -/
theorem ms_v {t : TD} (ht : tG t) {d : Nat} {q : Nat × Nat} (hq : ms t d (2 ^ tn t - 1) = some q) : 1 ≤ q.1 ∧ q.1 ≤ 121 := by
  obtain ⟨a1, a2⟩ := all_pos ht.2.1
  have h1 := ms_ge ht _ a1 a2 _ q hq
  have h2 := ms_le ht.1 _ _ _ q (Nat.le_refl _) a2 hq
  have h3 := ones_pos' ht.1.1 a2 a1
  have h4 := ones_le (2 ^ tn t - 1)
  have h5 : ones (2 ^ tn t - 1) * ones (2 ^ tn t - 1) ≤ 11 * 11 := Nat.mul_le_mul h4 h4
  exact ⟨by omega, by omega⟩
theorem vS_0 {t : TD} (ht : tG t) {d : Nat} : nI (vS (ms t d (2 ^ tn t - 1))) = 0 ↔ ms t d (2 ^ tn t - 1) = none := by
  rcases hz : ms t d (2 ^ tn t - 1) with _ | q
  · exact ⟨fun _ => rfl, fun _ => rfl⟩
  · have := ms_v ht hz
    constructor
    · intro h
      have := nI_inj (a := q.1) (b := 0) (by omega) (by decide) h
      omega
    · intro h; simp at h
theorem C11_best {k : Nat} {σ μ : St} (h : Rel k σ μ) (w p x : Int32) : Mt YC mX11_best 70 [.ref 0, .int w, .int p, .int x] σ (fun r τ => r = some (.int (sp_best μ w p x).1) ∧ Rel (k + 1) τ (sp_best μ w p x).2) := by
  have h' := h.t
  have e2p : (sp_best μ w p x).2 = t0 μ := rfl
  rw [e2p]
  obtain ⟨y0, y1, y2, y3, y4, y5, y6, y7, y8, y9, yR, -, yb1, yb2⟩ := id (poY p)
  have hwi : (0 ≤ w ∧ w ≤ 1) ↔ (w = 0 ∨ w = 1) := by
    constructor
    · intro q
      have := pool_b q
      by_cases z : w = 1
      · exact Or.inr z
      · rw [decide_eq_false z] at this; exact Or.inl this
    · rintro (rfl | rfl) <;> decide
  refine Mt.ofA [some (.ref 0), some (.int w), some (.int p), some (.int x), none, none] (by decide) (fun _ => Nat.le_of_ble_eq_true rfl) (fun _ => rfl) (fun g hc => ?_)
  unfold sp_best msA
  generalize t0 μ = ν at *
  have k9 : (0 ≤ w ∧ w ≤ 1) → aW g YC 6 (fun r τ => r = some (.int (if ¬ (0 ≤ w ∧ w ≤ 1) then -1 else if askT ν p x = 0 then (if w = 0 then (match md (tdP ν p) (2 ^ lm ν - 1) with | none => 0 | some b => nI b.2) else byA (ms (tdP ν p) (rD x) (2 ^ lm ν - 1))) else askT ν p x, ν).1) ∧ Rel (k + 1) τ ν) 9 [some (.ref 0), some (.int w), some (.int p), some (.int x), none, none] [] σ := by
    intro hw
    simp only [if_neg (fun q => q hw : ¬ ¬ (0 ≤ w ∧ w ≤ 1))]
    refine st_iload_n hc dX11_best_9 rfl rfl ?_
    refine st_callSp hc dX11_best_10 (C11_isPool 60 σ p) msX11_266 (by omega) rfl rfl (Nat.le_of_ble_eq_true rfl) ?_
    refine st_if_eq (tgt := 23) hc dX11_best_13 (by decide) (fun h13 => ?_) (fun h13 => ?_)
    · have e : askT ν p x = -1 := if_neg (fun q => of_decide_eq_false (bI_0.mp h13) q.1)
      refine st_iconst (v := (-1)) hc dX11_best_23 (by decide) ?_
      refine st_iret (st := []) hc dX11_best_24 rfl ?_
      refine ⟨?_, h'⟩
      rw [e]
      rfl
    · have hp := of_decide_eq_true (bI_t h13)
      refine st_iload_n hc dX11_best_16 rfl rfl ?_
      refine st_callSp hc dX11_best_17 (C11_isDepth 60 σ x) msX11_279 (by omega) rfl rfl (Nat.le_of_ble_eq_true rfl) ?_
      refine st_if_ne (tgt := 25) hc dX11_best_20 (by decide) (fun h20 => ?_) (fun h20 => ?_)
      · have hx := of_decide_eq_true (bI_t h20)
        have e : askT ν p x = whyT ν := (if_pos ⟨hp, hx⟩).trans (rfT_w hp)
        obtain ⟨ex, hx20⟩ := nat20 hx
        rw [e]
        refine st_aload_n hc dX11_best_25 rfl rfl ?_
        refine st_callVp hc dX11_best_26 (C11_whyNoTrees 60 h') mvX11_269 (by omega) rfl rfl rfl (Nat.le_of_ble_eq_true rfl) ?_
        refine st_istore hc dX11_best_29 (by decide) rfl ?_
        refine st_iload hc dX11_best_31 rfl ?_
        refine st_if_eq (tgt := 39) hc dX11_best_33 (by decide) (fun h33 => ?_) (fun h33 => ?_)
        · have hmk := ms_K (x := x) h' hp h33
          obtain ⟨wm, hm1, hm2⟩ := md_K h' hp h33
          rw [if_pos h33, hmk, hm1]
          refine st_aload_n hc dX11_best_39 rfl rfl ?_
          refine st_iload_n hc dX11_best_40 rfl rfl ?_
          refine st_callV hc dX11_best_41 (C11_forestOf h' hp h33) mvX11_272 (by omega) rfl rfl rfl (Nat.le_of_ble_eq_true rfl) ?_
          rintro r τ1 ⟨er, d1, E, d2, d3, d4⟩
          subst er
          show aW g YC 6 _ _ _ (.ref (poB p) :: []) τ1
          have hls := C1_leastSumWithin (poY p) d2.2.1 hx20 d2.fm
          rw [← ex] at hls
          have ht := d2.2.1.1
          refine st_astore hc dX11_best_44 (by decide) rfl ?_
          refine st_iload_n hc dX11_best_46 rfl rfl ?_
          refine st_if_ne (tgt := 56) hc dX11_best_47 (by decide) (fun h47 => ?_) (fun h47 => ?_)
          · refine st_aload hc dX11_best_56 rfl ?_
            refine st_iload_n hc dX11_best_58 rfl rfl ?_
            refine st_callVq hc dX11_best_59 (hls) mvX11_282 (by omega) rfl y0 rfl (Nat.le_of_ble_eq_true rfl) ?_
            rintro τ2 j2
            obtain ⟨k1, k2, k3, k4⟩ := fm_fo yb1 d1 d2 j2
            have hRR := h'.fo k1 k2 (k3.trans d3) (k4.trans d4)
            refine st_if_ne (tgt := 70) hc dX11_best_62 (by decide) (fun h62 => ?_) (fun h62 => ?_)
            · obtain ⟨q, hq⟩ : ∃ q, ms (tdK ν p) (bdN (lm ν) (nat x)) (2 ^ lm ν - 1) = some q := by
                rcases hz : ms (tdK ν p) (bdN (lm ν) (nat x)) (2 ^ lm ν - 1) with _ | q
                · exact absurd ((vS_0 ht).mpr hz) h62
                · exact ⟨q, rfl⟩
              have hfs := C1_firstOfLeastSum (poY p) k2.2.1 hx20 hq k2.fm
              rw [← ex] at hfs
              refine st_aload hc dX11_best_70 rfl ?_
              refine st_iload_n hc dX11_best_72 rfl rfl ?_
              refine st_callVq hc dX11_best_73 (hfs) mvX11_288 (by omega) rfl y0 rfl (Nat.le_of_ble_eq_true rfl) ?_
              rintro τ3 j3
              refine st_iret (st := []) hc dX11_best_76 rfl ?_
              first
               | (refine ⟨?_, hRR⟩
                  rw [if_neg h47, show ms (tdK ν p) (bdN (lm ν) (nat x)) (2 ^ lm ν - 1) = none from hno]
                  rfl)
               | (obtain ⟨n1, n2, n3, n4⟩ := fm_fo yb1 k1 k2 j3
                  refine ⟨?_, h'.fo n1 n2 (n3.trans (k3.trans d3)) (n4.trans (k4.trans d4))⟩
                  rw [if_neg h47, hq]
                  rfl)
            · have hno := (vS_0 ht).mp h62
              refine st_bipush (v := (-7)) hc dX11_best_65 (by decide) ?_
              refine st_goto (tgt := 76) hc dX11_best_67 (by decide) ?_
              refine st_iret (st := []) hc dX11_best_76 rfl ?_
              first
               | (refine ⟨?_, hRR⟩
                  rw [if_neg h47, show ms (tdK ν p) (bdN (lm ν) (nat x)) (2 ^ lm ν - 1) = none from hno]
                  rfl)
               | (obtain ⟨n1, n2, n3, n4⟩ := fm_fo yb1 k1 k2 j3
                  refine ⟨?_, h'.fo n1 n2 (n3.trans (k3.trans d3)) (n4.trans (k4.trans d4))⟩
                  rw [if_neg h47, hq]
                  rfl)
          · refine st_aload hc dX11_best_50 rfl ?_
            refine st_callVq hc dX11_best_52 (C1_firstOfLeastDepth (poY p) d2.2.1 hm2 d2.fm) mvX11_285 (by omega) rfl y0 rfl (Nat.le_of_ble_eq_true rfl) ?_
            rintro τ2 j2
            refine st_iret (st := []) hc dX11_best_55 rfl ?_
            obtain ⟨k1, k2, k3, k4⟩ := fm_fo yb1 d1 d2 j2
            refine ⟨?_, h'.fo k1 k2 (k3.trans d3) (k4.trans d4)⟩
            rw [if_pos h47]
        · have h33 : ¬ whyT ν = 0 := h33
          refine st_iload hc dX11_best_36 rfl ?_
          refine st_iret (st := []) hc dX11_best_38 rfl ?_
          refine ⟨?_, h'⟩
          rw [if_neg h33]
      · have e : askT ν p x = -1 := if_neg (fun q => of_decide_eq_false (bI_0.mp h20) q.2)
        refine st_iconst (v := (-1)) hc dX11_best_23 (by decide) ?_
        refine st_iret (st := []) hc dX11_best_24 rfl ?_
        refine ⟨?_, h'⟩
        rw [e]
        rfl
  refine st_iload_n hc dX11_best_0 rfl rfl ?_
  refine st_if_eq (tgt := 9) hc dX11_best_1 (by decide) (fun h1 => ?_) (fun h1 => ?_)
  · have hw : 0 ≤ w ∧ w ≤ 1 := hwi.mpr (Or.inl h1)
    exact k9 hw
  · refine st_iload_n hc dX11_best_4 rfl rfl ?_
    refine st_iconst (v := 1) hc dX11_best_5 (by decide) ?_
    refine st_icmp_ne (tgt := 23) hc dX11_best_6 (by decide) (fun h6 => ?_) (fun h6 => ?_)
    · have hw : ¬ (0 ≤ w ∧ w ≤ 1) := fun q => by rcases hwi.mp q with z | z; exact h1 z; exact h6 z
      refine st_iconst (v := (-1)) hc dX11_best_23 (by decide) ?_
      refine st_iret (st := []) hc dX11_best_24 rfl ?_
      refine ⟨?_, h'⟩
      simp only
      rw [if_pos hw]
    · have hw : 0 ≤ w ∧ w ≤ 1 := hwi.mpr (Or.inr h6)
      exact k9 hw
theorem ndS_P {ν : St} {L : List Nd} : muP ν (ndS ν L) := ⟨⟨nd_o (by decide) (by decide) (by decide) (by decide) (by decide) (by decide), nd_o (by decide) (by decide) (by decide) (by decide) (by decide) (by decide), nd_o (by decide) (by decide) (by decide) (by decide) (by decide) (by decide)⟩, nd_o (by decide) (by decide) (by decide) (by decide) (by decide) (by decide), nd_o (by decide) (by decide) (by decide) (by decide) (by decide) (by decide), nd_o (by decide) (by decide) (by decide) (by decide) (by decide) (by decide), nd_o (by decide) (by decide) (by decide) (by decide) (by decide) (by decide), nd_o (by decide) (by decide) (by decide) (by decide) (by decide) (by decide), funext (fun b => nd_o (by simp) (by decide) (by decide) (by decide) (by decide) (by decide)), funext (fun b => nd_o (by simp) (by decide) (by decide) (by decide) (by decide) (by decide)), funext (fun b => nd_o (by simp) (by decide) (by decide) (by decide) (by decide) (by decide))⟩
theorem nd_c {ν : St} {L : List Nd} {a : Nat} (h0 : ¬ a = 0) (h : ¬ (21 ≤ a ∧ a ≤ 25)) : ndS ν L a = ν a := funext (fun b => nd_o (fun q => h0 q.1) (by omega) (by omega) (by omega) (by omega) (by omega))
theorem nd_i {ν : St} {L : List Nd} {i : Nat} (h : ¬ i = 33) : ndS ν L 0 i = ν 0 i := nd_o (fun q => h q.2) (by decide) (by decide) (by decide) (by decide) (by decide)
/-- the tree of both sides becomes a list of nodes -/
theorem Rel.nd {k : Nat} {σ τ ν : St} (h : Rel k σ ν) {L : List Nd} (hL : L.length ≤ 20) (e : ∀ a, ¬ (46 ≤ a ∧ a ≤ 51) → τ a = σ a) (hT : tnR τ L) : Rel k τ (ndS ν L) := by
  obtain ⟨⟨⟨m1, m2, m3, m4, m5, m6⟩, hb, hP, hQ, hH, hS, hF, -, hR, hV⟩, hN⟩ := h
  have hmu := ndS_P (ν := ν) (L := L)
  obtain ⟨l1, l2, l3⟩ := muP_l hmu
  have h33 : ndS ν L 0 33 = nI L.length := by unfold ndS; rw [if_pos ⟨rfl, rfl⟩]
  refine ⟨⟨⟨kMI m1 hmu.1 (nd_i (by decide)) (nd_i (by decide)) (nd_c (by decide) (by decide)), khO m2 hmu.1 (nd_c (by decide) (by decide)), kqO m3 (nd_i (by decide)), ksO m4 (nd_c (by decide) (by decide)), kpO m5 hmu.1 (nd_i (by decide)) (nd_c (by decide) (by decide)) (nd_c (by decide) (by decide)) (nd_c (by decide) (by decide)), ?_⟩, kB hb hmu.1 (e 1 (by decide)) (e 2 (by decide)) (e 3 (by decide)) (e 4 (by decide)), kP hP hmu (fun i _ _ => by rw [e 7 (by decide)]) (e 11 (by decide)) (e 12 (by decide)) (e 13 (by decide)) (e 14 (by decide)) (e 15 (by decide)) (e 16 (by decide)), kQ hQ (by rw [e 7 (by decide)]) (nd_i (by decide)) (nd_c (by decide) (by decide)), kH hH hmu.1 (e 17 (by decide)) (e 18 (by decide)) (nd_c (by decide) (by decide)), ?_, kF hF (fun a h1 h2 => e a (by omega)), ?_, kR hR (by rw [e 52 (by decide)]) (by rw [e 52 (by decide)]) (fun a h1 h2 => e a (by omega)) (nd_i (by decide)) (nd_c (by decide) (by decide)) (nd_c (by decide) (by decide)) (nd_c (by decide) (by decide)), kV hV (fun a h1 h2 => e a (by omega)) (fun a h1 h2 => nd_c (by omega) (by omega))⟩, ?_⟩
  · unfold ndOK
    rw [h33, nat_nI (by omega)]
    exact ⟨Int32.not_lt.mp (nI_pos (by omega)), by omega⟩
  · have := hS.eq (e 7 (by decide)) (e 21 (by decide))
    unfold rlS at *
    rw [l2, l3]
    unfold pN cN nN at *
    rw [hmu.1.1, hmu.1.2.1, hmu.1.2.2]
    exact this
  · unfold rlT
    rw [h33, nat_nI (by omega)]
    refine ⟨hT.1, hL, fun j hj => ?_⟩
    obtain ⟨x, hx⟩ : ∃ x, L[j]? = some x := ⟨L[j], List.getElem?_eq_getElem hj⟩
    obtain ⟨t1, t2, t3, t4, t5⟩ := hT.2 j x hx
    have hv : ∀ a, 21 ≤ a → a ≤ 25 → ndS ν L a j = (if a = 21 then nI x.1 else if a = 22 then x.2.1 else if a = 23 then x.2.2.1 else if a = 24 then nI x.2.2.2.1 else if a = 25 then nI x.2.2.2.2 else ν a j) := fun a h1 h2 => by
      unfold ndS
      rw [if_neg (by omega), hx]
    rw [hv 21 (by decide) (by decide), hv 22 (by decide) (by decide), hv 23 (by decide) (by decide), hv 24 (by decide) (by decide), hv 25 (by decide) (by decide)]
    exact ⟨t1, t2, t3, t4, t5⟩
  · rw [e 0 (by decide), nd_i (by decide)]; exact hN
theorem C11_tree {k : Nat} {σ μ : St} (h : Rel k σ μ) (p x : Int32) : Mt YC mX11_tree 70 [.ref 0, .int p, .int x] σ (fun r τ => r = some (.int (sp_tree μ p x).1) ∧ Rel (k + 1) τ (sp_tree μ p x).2) := by
  have h' := h.t
  obtain ⟨y0, y1, y2, y3, y4, y5, y6, y7, y8, y9, yR, -, yb1, yb2⟩ := id (poY p)
  refine Mt.ofA [some (.ref 0), some (.int p), some (.int x), none, none] (by decide) (fun _ => Nat.le_of_ble_eq_true rfl) (fun _ => rfl) (fun g hc => ?_)
  unfold sp_tree msA nodesL
  generalize t0 μ = ν at *
  refine st_iload_n hc dX11_tree_0 rfl rfl ?_
  refine st_callSp hc dX11_tree_1 (C11_isPool 60 σ p) msX11_266 (by omega) rfl rfl (Nat.le_of_ble_eq_true rfl) ?_
  refine st_if_eq (tgt := 14) hc dX11_tree_4 (by decide) (fun h4 => ?_) (fun h4 => ?_)
  · have e : askT ν p x = -1 := if_neg (fun q => of_decide_eq_false (bI_0.mp h4) q.1)
    refine st_iconst (v := (-1)) hc dX11_tree_14 (by decide) ?_
    refine st_iret (st := []) hc dX11_tree_15 rfl ?_
    rw [e, if_neg (by decide)]
    exact ⟨rfl, h'⟩
  · have hp := of_decide_eq_true (bI_t h4)
    refine st_iload_n hc dX11_tree_7 rfl rfl ?_
    refine st_callSp hc dX11_tree_8 (C11_isDepth 60 σ x) msX11_279 (by omega) rfl rfl (Nat.le_of_ble_eq_true rfl) ?_
    refine st_if_ne (tgt := 16) hc dX11_tree_11 (by decide) (fun h11 => ?_) (fun h11 => ?_)
    · have hx := of_decide_eq_true (bI_t h11)
      have e : askT ν p x = whyT ν := (if_pos ⟨hp, hx⟩).trans (rfT_w hp)
      obtain ⟨ex, hx20⟩ := nat20 hx
      refine st_aload_n hc dX11_tree_16 rfl rfl ?_
      refine st_callVp hc dX11_tree_17 (C11_whyNoTrees 60 h') mvX11_269 (by omega) rfl rfl rfl (Nat.le_of_ble_eq_true rfl) ?_
      refine st_istore_n hc dX11_tree_20 rfl (by decide) rfl ?_
      refine st_iload_n hc dX11_tree_21 rfl rfl ?_
      refine st_if_eq (tgt := 27) hc dX11_tree_22 (by decide) (fun h22 => ?_) (fun h22 => ?_)
      · have hmk := ms_K (x := x) h' hp h22
        rw [e, if_pos h22, hmk]
        refine st_aload_n hc dX11_tree_27 rfl rfl ?_
        refine st_iload_n hc dX11_tree_28 rfl rfl ?_
        refine st_callV hc dX11_tree_29 (C11_forestOf h' hp h22) mvX11_272 (by omega) rfl rfl rfl (Nat.le_of_ble_eq_true rfl) ?_
        rintro r τ1 ⟨er, d1, E, d2, d3, d4⟩
        subst er
        show aW g YC 5 _ _ _ (.ref (poB p) :: []) τ1
        have hls := C1_leastSumWithin (poY p) d2.2.1 hx20 d2.fm
        rw [← ex] at hls
        have ht := d2.2.1.1
        refine st_astore hc dX11_tree_32 (by decide) rfl ?_
        refine st_aload hc dX11_tree_34 rfl ?_
        refine st_iload_n hc dX11_tree_36 rfl rfl ?_
        refine st_callVq hc dX11_tree_37 (hls) mvX11_282 (by omega) rfl y0 rfl (Nat.le_of_ble_eq_true rfl) ?_
        rintro τ2 j2
        obtain ⟨k1, k2, k3, k4⟩ := fm_fo yb1 d1 d2 j2
        have hRR := h'.fo k1 k2 (k3.trans d3) (k4.trans d4)
        refine st_if_ne (tgt := 46) hc dX11_tree_40 (by decide) (fun h40 => ?_) (fun h40 => ?_)
        · obtain ⟨q, hq⟩ : ∃ q, ms (tdK ν p) (bdN (lm ν) (nat x)) (2 ^ lm ν - 1) = some q := by
            rcases hz : ms (tdK ν p) (bdN (lm ν) (nat x)) (2 ^ lm ν - 1) with _ | q
            · exact absurd ((vS_0 ht).mpr hz) h40
            · exact ⟨q, rfl⟩
          have hpl := C1_plant (poY p) hx20 τ2 k2 hq
          rw [← ex] at hpl
          rw [hq]
          refine st_aload hc dX11_tree_46 rfl ?_
          refine st_aload_n hc dX11_tree_48 rfl rfl ?_
          refine st_getr hc dX11_tree_49 flX11_68 rfl rfl ?_
          refine st_iload_n hc dX11_tree_52 rfl rfl ?_
          refine st_callVn hc dX11_tree_53 (hpl) mvX11_291 (by omega) rfl y0 rfl (Nat.le_of_ble_eq_true rfl) ?_
          rintro τ3 ⟨n1, n2, n3, n4⟩
          have e1 := h'.f.2.1.1
          have hrc : ∀ f st c, runT (tdP ν p) (rD x) f st c = runT (tdK ν p) (rD x) f st c := runT_c (tdE_K e1 hp) (rD x)
          have hR3 : Rel (k + 1) (fun a => if 46 ≤ a ∧ a ≤ 51 then τ2 a else τ3 a) ν := by
            refine Rel.fo h' (p := p) (E := E) (fun a ha => ?_) (n2.eq yb1 yb2 (fun a ha => by show (if 46 ≤ a ∧ a ≤ 51 then τ2 a else τ3 a) = τ3 a; rw [if_neg (by omega)])) ?_ ?_
            · show (if 46 ≤ a ∧ a ≤ 51 then τ2 a else τ3 a) = σ a
              by_cases z : 46 ≤ a ∧ a ≤ 51
              · rw [if_pos z]; exact k1 a ha
              · rw [if_neg z, n1 a (by omega)]; exact k1 a ha
            · show (if 46 ≤ poB p ∧ poB p ≤ 51 then τ2 (poB p) else τ3 (poB p)) 4 = _
              rw [if_neg (by omega), n1 (poB p) (by omega)]; exact k3.trans d3
            · show (if 46 ≤ poB p ∧ poB p ≤ 51 then τ2 (poB p) else τ3 (poB p)) 5 = _
              rw [if_neg (by omega), n1 (poB p) (by omega)]; exact k4.trans d4
          refine st_aload_n hc dX11_tree_56 rfl rfl ?_
          refine st_getr hc dX11_tree_57 flX11_68 rfl rfl ?_
          refine st_getE hc dX11_tree_60 flX11_110 rfl rfl (n4.1) ?_
          refine st_iret (st := []) hc dX11_tree_63 rfl ?_
          simp only
          rw [hrc]
          refine ⟨rfl, Rel.nd hR3 n3 (fun a ha => ?_) n4⟩
          show τ3 a = (if 46 ≤ a ∧ a ≤ 51 then τ2 a else τ3 a)
          rw [if_neg ha]
        · have hno := (vS_0 ht).mp h40
          refine st_bipush (v := (-7)) hc dX11_tree_43 (by decide) ?_
          refine st_iret (st := []) hc dX11_tree_45 rfl ?_
          rw [show ms (tdK ν p) (bdN (lm ν) (nat x)) (2 ^ lm ν - 1) = none from hno]
          exact ⟨rfl, hRR⟩
      · have h22 : ¬ whyT ν = 0 := h22
        refine st_iload_n hc dX11_tree_25 rfl rfl ?_
        refine st_iret (st := []) hc dX11_tree_26 rfl ?_
        rw [e, if_neg h22]
        exact ⟨rfl, h'⟩
    · have e : askT ν p x = -1 := if_neg (fun q => of_decide_eq_false (bI_0.mp h11) q.2)
      refine st_iconst (v := (-1)) hc dX11_tree_14 (by decide) ?_
      refine st_iret (st := []) hc dX11_tree_15 rfl ?_
      rw [e, if_neg (by decide)]
      exact ⟨rfl, h'⟩
theorem C11_node {k : Nat} {σ μ : St} (h : Rel k σ μ) (i w : Int32) : Mt YC mX11_node 70 [.ref 0, .int i, .int w] σ (fun r τ => r = some (.int (sp_node μ i w).1) ∧ Rel (k + 1) τ (sp_node μ i w).2) := by
  have hR : Rel (k + 1) σ (sp_node μ i w).2 := h.t
  obtain ⟨t1, t2, t3⟩ := h.1.2.2.2.2.2.2.2.1
  have h0 := h.1.1.2.2.2.2.2.1
  have hn := nat_lt i
  refine Mt.ofA [some (.ref 0), some (.int i), some (.int w)] (by decide) (fun _ => Nat.le_of_ble_eq_true rfl) (fun _ => rfl) (fun g hc => ?_)
  refine st_iload_n hc dX11_node_0 rfl rfl ?_
  refine st_if_lt (tgt := 15) hc dX11_node_1 (by decide) (fun h1 => ?_) (fun h1 => ?_)
  · have hbad : ¬ (0 ≤ i ∧ nat i < nat (μ 0 33)) := fun q => absurd h1 (Int32.not_lt.mpr q.1)
    refine st_iconst (v := (-1)) hc dX11_node_15 (by decide) ?_
    refine st_iret (st := []) hc dX11_node_16 rfl ?_
    refine ⟨?_, hR⟩
    unfold sp_node
    rw [if_pos hbad]
  · have h1 := Int32.not_lt.mp h1
    refine st_iload_n hc dX11_node_4 rfl rfl ?_
    refine st_aload_n hc dX11_node_5 rfl rfl ?_
    refine st_getr hc dX11_node_6 flX11_68 rfl rfl ?_
    refine st_getE hc dX11_node_9 flX11_110 rfl rfl (t1) ?_
    refine st_icmp_lt (tgt := 17) hc dX11_node_12 (by decide) (fun h12 => ?_) (fun h12 => ?_)
    · have hi : nat i < nat (μ 0 33) := by rw [← nI_nat h1, ← nI_nat h0] at h12; exact (nI_ltI hn (by omega)).mp h12
      have hok : ¬ ¬ (0 ≤ i ∧ nat i < nat (μ 0 33)) := fun q => q ⟨h1, hi⟩
      obtain ⟨a1, a2, a3, a4, a5⟩ := t3 (nat i) hi
      refine st_iload_n hc dX11_node_17 rfl rfl ?_
      rcases sw_c 5 (by decide) w with hsw | ⟨ksw, hksw, esw⟩
      · refine st_tableOut (tgt := 102) hc dX11_node_18 (by rcases hsw with q | q; exact Or.inl (by omega); exact Or.inr (by omega)) (by decide) ?_
        have hne : ∀ n, n < 5 → ¬ w = nI n := fun n hn e => by
          rw [e, nI_toInt (by omega)] at hsw
          omega
        refine st_iconst (v := (-1)) hc dX11_node_102 (by decide) ?_
        refine st_iret (st := []) hc dX11_node_103 rfl ?_
        exact ⟨(by unfold sp_node; rw [if_neg hok, if_neg (show ¬ w = 0 from hne 0 (by decide)), if_neg (show ¬ w = 1 from hne 1 (by decide)), if_neg (show ¬ w = 2 from hne 2 (by decide)), if_neg (show ¬ w = 3 from hne 3 (by decide)), if_neg (show ¬ w = 4 from hne 4 (by decide))]), hR⟩
      · rcases (show ksw = 0 ∨ ksw = 1 ∨ ksw = 2 ∨ ksw = 3 ∨ ksw = 4 by omega) with rfl | rfl | rfl | rfl | rfl
        · subst esw
          refine st_tableIn (off := 34) (tgt := 52) hc dX11_node_18 (by decide) (by decide) (by decide) (by decide) ?_
          refine st_aload_n hc dX11_node_52 rfl rfl ?_
          refine st_getr hc dX11_node_53 flX11_68 rfl rfl ?_
          refine st_getr hc dX11_node_56 flX11_299 rfl rfl ?_
          refine st_iload_n hc dX11_node_59 rfl rfl ?_
          refine st_ialdN (k := nat i) hc dX11_node_60 rfl ((nI_nat h1).symm) (by omega) (by first | decide | omega) (a1) ?_
          refine st_iret (st := []) hc dX11_node_61 rfl ?_
          exact ⟨(by unfold sp_node; rw [if_neg hok, if_pos (by rfl)]), hR⟩
        · subst esw
          refine st_tableIn (off := 44) (tgt := 62) hc dX11_node_18 (by decide) (by decide) (by decide) (by decide) ?_
          refine st_aload_n hc dX11_node_62 rfl rfl ?_
          refine st_getr hc dX11_node_63 flX11_68 rfl rfl ?_
          refine st_getr hc dX11_node_66 flX11_302 rfl rfl ?_
          refine st_iload_n hc dX11_node_69 rfl rfl ?_
          refine st_ialdN (k := nat i) hc dX11_node_70 rfl ((nI_nat h1).symm) (by omega) (by first | decide | omega) (a2) ?_
          refine st_iret (st := []) hc dX11_node_71 rfl ?_
          exact ⟨(by unfold sp_node; rw [if_neg hok, if_neg (by decide), if_pos (by rfl)]), hR⟩
        · subst esw
          refine st_tableIn (off := 54) (tgt := 72) hc dX11_node_18 (by decide) (by decide) (by decide) (by decide) ?_
          refine st_aload_n hc dX11_node_72 rfl rfl ?_
          refine st_getr hc dX11_node_73 flX11_68 rfl rfl ?_
          refine st_getr hc dX11_node_76 flX11_305 rfl rfl ?_
          refine st_iload_n hc dX11_node_79 rfl rfl ?_
          refine st_ialdN (k := nat i) hc dX11_node_80 rfl ((nI_nat h1).symm) (by omega) (by first | decide | omega) (a3) ?_
          refine st_iret (st := []) hc dX11_node_81 rfl ?_
          exact ⟨(by unfold sp_node; rw [if_neg hok, if_neg (by decide), if_neg (by decide), if_pos (by rfl)]), hR⟩
        · subst esw
          refine st_tableIn (off := 64) (tgt := 82) hc dX11_node_18 (by decide) (by decide) (by decide) (by decide) ?_
          refine st_aload_n hc dX11_node_82 rfl rfl ?_
          refine st_getr hc dX11_node_83 flX11_68 rfl rfl ?_
          refine st_getr hc dX11_node_86 flX11_306 rfl rfl ?_
          refine st_iload_n hc dX11_node_89 rfl rfl ?_
          refine st_ialdN (k := nat i) hc dX11_node_90 rfl ((nI_nat h1).symm) (by omega) (by first | decide | omega) (a4) ?_
          refine st_iret (st := []) hc dX11_node_91 rfl ?_
          exact ⟨(by unfold sp_node; rw [if_neg hok, if_neg (by decide), if_neg (by decide), if_neg (by decide), if_pos (by rfl)]), hR⟩
        · subst esw
          refine st_tableIn (off := 74) (tgt := 92) hc dX11_node_18 (by decide) (by decide) (by decide) (by decide) ?_
          refine st_aload_n hc dX11_node_92 rfl rfl ?_
          refine st_getr hc dX11_node_93 flX11_68 rfl rfl ?_
          refine st_getr hc dX11_node_96 flX11_307 rfl rfl ?_
          refine st_iload_n hc dX11_node_99 rfl rfl ?_
          refine st_ialdN (k := nat i) hc dX11_node_100 rfl ((nI_nat h1).symm) (by omega) (by first | decide | omega) (a5) ?_
          refine st_iret (st := []) hc dX11_node_101 rfl ?_
          exact ⟨(by unfold sp_node; rw [if_neg hok, if_neg (by decide), if_neg (by decide), if_neg (by decide), if_neg (by decide), if_pos (by rfl)]), hR⟩
    · have hbad : ¬ (0 ≤ i ∧ nat i < nat (μ 0 33)) := fun q => h12 (by rw [← nI_nat h1, ← nI_nat h0]; exact (nI_ltI hn (by omega)).mpr q.2)
      refine st_iconst (v := (-1)) hc dX11_node_15 (by decide) ?_
      refine st_iret (st := []) hc dX11_node_16 rfl ?_
      refine ⟨?_, hR⟩
      unfold sp_node
      rw [if_pos hbad]

