/-! ===== the class: standing ===== -/
theorem W1_sf1 {g : Gx} {σ : St} {d b R SL P C n : Nat} {L : Nat → Nat} (hY : frY b R SL) (hc : cX g YC RX1 cX1_standsFor 3 (some .boolean) d) (hn : σ b 3 = nI n) (h10 : n ≤ 10) (h1 : σ b 4 = nI P) (h2 : σ b 5 = nI C) (hz : ∀ k, k < n → σ (b + 1) k = nI (L k)) : aW g YC 3 (fun r τ => ∃ v, r = some (.int (bI v)) ∧ τ = σ ∧ (v = true → σ b 4 = nI P ∧ σ b 5 = nI C ∧ n = n ∧ ∀ k, k < n → σ (b + 1) k = nI (L k))) 43 [some (.ref b), some (.ref 7), some (.int (nI n))] [] σ := by
  obtain ⟨y0, y1, -⟩ := id hY
  refine st_iload_n hc dX1_standsFor_43 rfl rfl ?_
  refine st_aload_n hc dX1_standsFor_44 rfl rfl ?_
  refine st_getE hc dX1_standsFor_45 flX1_74 y0 rfl (hn) ?_
  refine st_icmp_ge (tgt := 74) hc dX1_standsFor_48 (by decide) (fun h48 => ?_) (fun h48 => ?_)
  · refine st_iconst (v := 1) hc dX1_standsFor_74 (by decide) ?_
    refine st_zret (st := []) hc dX1_standsFor_75 rfl (Or.inr rfl) ?_
    exact ⟨true, rfl, rfl, fun _ => ⟨h1, h2, rfl, hz⟩⟩
  · exact absurd (nI_le (Nat.le_refl _) (by omega)) h48
theorem W1_sf2 {g : Gx} {σ : St} {d b R SL P C n i : Nat} {L : Nat → Nat} (hY : frY b R SL) (hc : cX g YC RX1 cX1_standsFor 3 (some .boolean) d) (hn : σ b 3 = nI n) (h10 : n ≤ 10) (hi : i < n) (hL : σ 16 i = nI (L i)) (ih : σ (b + 1) i = nI (L i) → aW g YC 3 (fun r τ => ∃ v, r = some (.int (bI v)) ∧ τ = σ ∧ (v = true → σ b 4 = nI P ∧ σ b 5 = nI C ∧ n = n ∧ ∀ k, k < n → σ (b + 1) k = nI (L k))) 43 [some (.ref b), some (.ref 7), some (.int (nI (i + 1)))] [] σ) : aW g YC 3 (fun r τ => ∃ v, r = some (.int (bI v)) ∧ τ = σ ∧ (v = true → σ b 4 = nI P ∧ σ b 5 = nI C ∧ n = n ∧ ∀ k, k < n → σ (b + 1) k = nI (L k))) 43 [some (.ref b), some (.ref 7), some (.int (nI i))] [] σ := by
  obtain ⟨y0, y1, -⟩ := id hY
  refine st_iload_n hc dX1_standsFor_43 rfl rfl ?_
  refine st_aload_n hc dX1_standsFor_44 rfl rfl ?_
  refine st_getE hc dX1_standsFor_45 flX1_74 y0 rfl (hn) ?_
  refine st_icmp_ge (tgt := 74) hc dX1_standsFor_48 (by decide) (fun h48 => ?_) (fun h48 => ?_)
  · exact absurd h48 (nI_ge hi (by omega))
  · refine st_aload_n hc dX1_standsFor_51 rfl rfl ?_
    refine st_getr hc dX1_standsFor_52 flX1_11 y0 rfl ?_
    refine st_iload_n hc dX1_standsFor_55 rfl rfl ?_
    refine st_ialdN (k := i) hc dX1_standsFor_56 y1 (rfl) (by omega) (by first | decide | omega) rfl ?_
    refine st_aload_n hc dX1_standsFor_57 rfl rfl ?_
    refine st_getr hc dX1_standsFor_58 flX1_77 rfl rfl ?_
    refine st_iload_n hc dX1_standsFor_61 rfl rfl ?_
    refine st_ialdN (k := i) hc dX1_standsFor_62 rfl (rfl) (by omega) (by first | decide | omega) (hL) ?_
    refine st_icmp_eq (tgt := 68) hc dX1_standsFor_63 (by decide) (fun h63 => ?_) (fun h63 => ?_)
    · refine st_inc hc dX1_standsFor_68 rfl (by decide) rfl ?_
      rw [nI_1]
      refine st_goto (tgt := 43) hc dX1_standsFor_71 (by decide) ?_
      exact ih h63
    · refine st_iconst (v := 0) hc dX1_standsFor_66 (by decide) ?_
      refine st_zret (st := []) hc dX1_standsFor_67 rfl (Or.inl rfl) ?_
      exact ⟨false, rfl, rfl, fun q => absurd q (by decide)⟩
theorem C1_standsFor (d : Nat) (σ : St) {b R SL : Nat} (hY : frY b R SL) {P C n n' : Nat} {L : Nat → Nat} (hP : σ 1 0 = nI P) (hC : σ 1 1 = nI C) (hl : σ 7 13 = nI n) (hL : ∀ k, k < n → σ 16 k = nI (L k)) (hn' : σ b 3 = nI n') (h10' : n' ≤ 10) (h4 : n ≤ 4096) : Mt YC mX1_standsFor d [.ref b, .ref 7] σ (fun r τ => ∃ v, r = some (.int (bI v)) ∧ τ = σ ∧ (v = true → σ b 4 = nI P ∧ σ b 5 = nI C ∧ n' = n ∧ ∀ k, k < n → σ (b + 1) k = nI (L k))) := by
  obtain ⟨y0, y1, -⟩ := id hY
  refine Mt.ofA [some (.ref b), some (.ref 7), none] (by decide) (fun _ => Nat.le_of_ble_eq_true rfl) (fun _ => rfl) (fun g hc => ?_)
  refine st_aload_n hc dX1_standsFor_0 rfl rfl ?_
  refine st_getE hc dX1_standsFor_1 flX1_58 y0 rfl rfl ?_
  refine st_aload_n hc dX1_standsFor_4 rfl rfl ?_
  refine st_getr hc dX1_standsFor_5 flX1_21 y0 rfl ?_
  refine st_getE hc dX1_standsFor_8 flX1_52 rfl rfl (hP) ?_
  refine st_icmp_ne (tgt := 39) hc dX1_standsFor_11 (by decide) (fun h11 => ?_) (fun h11 => ?_)
  · refine st_iconst (v := 0) hc dX1_standsFor_39 (by decide) ?_
    refine st_zret (st := []) hc dX1_standsFor_40 rfl (Or.inl rfl) ?_
    exact ⟨false, rfl, rfl, fun q => absurd q (by decide)⟩
  · have h11 : σ b 4 = nI P := h11
    refine st_aload_n hc dX1_standsFor_14 rfl rfl ?_
    refine st_getE hc dX1_standsFor_15 flX1_62 y0 rfl rfl ?_
    refine st_aload_n hc dX1_standsFor_18 rfl rfl ?_
    refine st_getr hc dX1_standsFor_19 flX1_21 y0 rfl ?_
    refine st_getE hc dX1_standsFor_22 flX1_59 rfl rfl (hC) ?_
    refine st_icmp_ne (tgt := 39) hc dX1_standsFor_25 (by decide) (fun h25 => ?_) (fun h25 => ?_)
    · refine st_iconst (v := 0) hc dX1_standsFor_39 (by decide) ?_
      refine st_zret (st := []) hc dX1_standsFor_40 rfl (Or.inl rfl) ?_
      exact ⟨false, rfl, rfl, fun q => absurd q (by decide)⟩
    · have h25 : σ b 5 = nI C := h25
      refine st_aload_n hc dX1_standsFor_28 rfl rfl ?_
      refine st_getE hc dX1_standsFor_29 flX1_74 y0 rfl (hn') ?_
      refine st_aload_n hc dX1_standsFor_32 rfl rfl ?_
      refine st_getE hc dX1_standsFor_33 flX1_63 rfl rfl (hl) ?_
      refine st_icmp_eq (tgt := 41) hc dX1_standsFor_36 (by decide) (fun h36 => ?_) (fun h36 => ?_)
      · have h36 : n' = n := nI_inj (by omega) (by omega) h36
        subst h36
        refine st_iconst (v := 0) hc dX1_standsFor_41 (by decide) ?_
        refine st_istore_n hc dX1_standsFor_42 rfl (by decide) rfl ?_
        have k43 : (∀ k, k < 0 → σ (b + 1) k = nI (L k)) → aW g YC 3 (fun r τ => ∃ v, r = some (.int (bI v)) ∧ τ = σ ∧ (v = true → σ b 4 = nI P ∧ σ b 5 = nI C ∧ n' = n' ∧ ∀ k, k < n' → σ (b + 1) k = nI (L k))) 43 [some (.ref b), some (.ref 7), some (.int (nI 0))] [] σ := by
          refine lpN (n := n') (F := fun i => (∀ k, k < i → σ (b + 1) k = nI (L k)) → aW g YC 3 (fun r τ => ∃ v, r = some (.int (bI v)) ∧ τ = σ ∧ (v = true → σ b 4 = nI P ∧ σ b 5 = nI C ∧ n' = n' ∧ ∀ k, k < n' → σ (b + 1) k = nI (L k))) 43 [some (.ref b), some (.ref 7), some (.int (nI i))] [] σ) (fun hz => ?_) (fun i hi ih hz => ?_)
          · exact W1_sf1 hY hc hn' h10' h11 h25 hz
          · exact W1_sf2 hY hc hn' h10' hi (hL i hi) (fun h => ih (fun k hk => by
              by_cases q : k = i
              · rw [q]; exact h
              · exact hz k (by omega)))
        exact k43 (fun k hk => absurd hk (Nat.not_lt_zero k))
      · refine st_iconst (v := 0) hc dX1_standsFor_39 (by decide) ?_
        refine st_zret (st := []) hc dX1_standsFor_40 rfl (Or.inl rfl) ?_
        exact ⟨false, rfl, rfl, fun q => absurd q (by decide)⟩
theorem meO_zero {τ : St} {b : Nat} {t : TD} {E : Ent} (h10 : tn t ≤ 10) (h : ∀ x, x < 11264 → τ (b + 9) x = 0) : meO τ b t E := fun d s h1 h2 h3 _ => Or.inl (h _ (by have := p2n h10; omega))
theorem cov_C {P C n : Nat} {L : Nat → Nat} {any : Bool} {E : Ent} (ht : tG (tdC P C n L any)) (hG : ∀ e, e < eN E → eG E e < C ^ P) (hLab : ∀ e, e < eN E → Lab (tA (tdC P C n L any) (eG E e)) (10 * P) n (eM E e) (eL E e)) {i : Nat} (hi : i = if any = true then C ^ P else n) (h6 : ∀ e e', e < e' → e' < eN E → eG E e < eG E e') (h10 : ∀ j, j < i → ∃ e, e < eN E ∧ eG E e ≤ cgF any n L j ∧ (any = false → eG E e = cgF any n L j) ∧ ∃ M lb, Lab (tA (tdC P C n L any) (cgF any n L j)) (10 * P) n M lb ∧ ∀ k, k < n → eL E e k = lb k) : enC (tdC P C n L any) E := by
  refine ⟨h6, fun d s g v hs h1 hg hv => ?_⟩
  have hg : g < C ^ P := hg
  rcases hany : any with _ | _
  · subst hany
    have hcd := (msC_some.mp ⟨v, hv⟩).1
    rw [cand_in ht hg hs h1] at hcd
    have hfu : hasFu (tdC P C n L false) g s = true := by
      rcases hz : hasFu (tdC P C n L false) g s with _ | _
      · rw [hz] at hcd; simp at hcd; exact absurd hcd.1 (by show ¬ (!false) = false; decide)
      · rfl
    obtain ⟨k, k1, -, k3⟩ := fu_bit ht hg hfu
    obtain ⟨e, e1, e2, e3, -⟩ := h10 k (by rw [hi, if_neg (by decide)]; exact k1)
    have e4 : eG E e = g := by rw [e3 rfl]; exact k3
    exact ⟨e, e1, by omega, by rw [e4]; exact hv⟩
  · subst hany
    obtain ⟨e, e1, e2, -, M, lb, e4, e5⟩ := h10 g (by rw [hi, if_pos rfl]; exact hg)
    have e2 : eG E e ≤ g := e2
    have e4 : Lab (tA (tdC P C n L true) g) (10 * P) n M lb := e4
    refine ⟨e, e1, e2, ?_⟩
    rw [← hv]
    exact Lab_same ht (hG e e1) hg hs h1 (hLab e e1) e4 e5
/-- a forest's cells are right for what they stand for, if they stand for anything -/
def frV (σ : St) (b R : Nat) (any : Bool) : Prop := σ b 1 = bI any ∧ (∃ m, σ b 3 = nI m ∧ m ≤ 10) ∧ (σ b 4 = 0 ∨ ∃ P C n L E, σ b 4 = nI P ∧ P ≤ 5 ∧ σ b 5 = nI C ∧ C ≤ 8 ∧ frF σ b R (tdC P C n L any) E ∧ meO σ b (tdC P C n L any) E)
theorem cut_eq {n : Nat} {L L' : Nat → Nat} (h : ∀ k, k < n → L k = L' k) : cutL n L = cutL n L' := by
  funext k
  unfold cutL
  by_cases q : k < n
  · rw [if_pos q, if_pos q]; exact h k q
  · rw [if_neg q, if_neg q]
theorem C1_standFor (d : Nat) (σ : St) {b R SL : Nat} (hY : frY b R SL) {P C n : Nat} {L : Nat → Nat} {any : Bool} (hSL : any = true → SL = 2048) (hR : (if any = true then C ^ P else n) ≤ R) (hb : bkI σ P C) (hl : lfI σ (C ^ P) n L) (h1 : 1 ≤ n) (h10 : n ≤ 10) (hr : ∀ j k, j < k → k < n → L j < L k) (hV : frV σ b R any) : Mt YC mX1_standFor (d + 5) [.ref b, .ref 7] σ (fun r τ => r = none ∧ (∀ a, ¬ (b ≤ a ∧ a ≤ b + 9) → τ a = σ a) ∧ τ b 4 = nI P ∧ τ b 5 = nI C ∧ ∃ E, frF τ b R (tdC P C n L any) E ∧ meO τ b (tdC P C n L any) E) := by
  obtain ⟨y0, y1, y2, y3, y4, y5, y6, y7, y8, y9, yR, ySL, yb1, yb2⟩ := id hY
  obtain ⟨l1, l2, l3⟩ := id hl
  obtain ⟨⟨hz, hC4, n0, n1, n2⟩, -⟩ := id hb
  obtain ⟨v1, ⟨m, vm, vm10⟩, v2⟩ := id hV
  have ht : tG (tdC P C n L any) := tdC_G hz h1 h10 (fun k hk => (l3 k hk).2) hr
  have hcgl : ∀ i, i < (if any = true then C ^ P else n) → cgF any n L i < C ^ P := fun i hi => by
    rcases hany : any with _ | _
    · subst hany; rw [if_neg (by decide)] at hi; show (if false = true then i else cutL n L i) < _; rw [if_neg (by decide), cutL_lt hi]; exact (l3 i hi).2
    · subst hany; rw [if_pos rfl] at hi; exact hi
  have hcgr : ∀ i j, j < i → i < (if any = true then C ^ P else n) → cgF any n L j < cgF any n L i := fun i j hj hi => by
    rcases hany : any with _ | _
    · subst hany; rw [if_neg (by decide)] at hi
      show (if false = true then j else cutL n L j) < (if false = true then i else cutL n L i)
      rw [if_neg (by decide), if_neg (by decide), cutL_lt hi, cutL_lt (Nat.lt_trans hj hi)]; exact hr j i hj hi
    · subst hany; exact hj
  have hK : (if any = true then C ^ P else n) ≤ 4096 := by split <;> omega
  generalize hKe : (if any = true then C ^ P else n) = K at *
  refine Mt.ofA [some (.ref b), some (.ref 7), none, none] (by decide) (fun _ => Nat.le_of_ble_eq_true rfl) (fun _ => rfl) (fun g hc => ?_)
  have k106 : ∀ τ E, stI σ b P C n L any 0 E τ → aW g YC 4 (fun r τ => r = none ∧ (∀ a, ¬ (b ≤ a ∧ a ≤ b + 9) → τ a = σ a) ∧ τ b 4 = nI P ∧ τ b 5 = nI C ∧ ∃ E, frF τ b R (tdC P C n L any) E ∧ meO τ b (tdC P C n L any) E) 106 [some (.ref b), some (.ref 7), some (.int (nI K)), some (.int (nI 0))] [] τ := by
    refine lpN (n := K) (F := fun i => ∀ τ E, stI σ b P C n L any i E τ → aW g YC 4 (fun r τ => r = none ∧ (∀ a, ¬ (b ≤ a ∧ a ≤ b + 9) → τ a = σ a) ∧ τ b 4 = nI P ∧ τ b 5 = nI C ∧ ∃ E, frF τ b R (tdC P C n L any) E ∧ meO τ b (tdC P C n L any) E) 106 [some (.ref b), some (.ref 7), some (.int (nI K)), some (.int (nI i))] [] τ) (fun τ E h => ?_) (fun i hi ih τ E h => ?_)
    · obtain ⟨s1, s2, s3, s4, s5, s6, s7, s8, s9, s10, s11⟩ := id h
      refine st_iload_n hc dX1_standFor_106 rfl rfl ?_
      refine st_iload_n hc dX1_standFor_107 rfl rfl ?_
      refine st_icmp_ge (tgt := 138) hc dX1_standFor_108 (by decide) (fun h108 => ?_) (fun h108 => ?_)
      · refine st_vret (st := []) hc dX1_standFor_138 rfl ?_
        exact ⟨rfl, s1, s2, s3, E, ⟨ht, s4, cov_C ht (fun e he => (s4.2.2.2.2 e he).2.2.2.2.1) (fun e he => (s4.2.2.2.2 e he).2.2.2.2.2) hKe.symm s6 s10, by omega⟩, meO_zero h10 s5⟩
      · exact absurd (nI_le (Nat.le_refl _) (by omega)) h108
    · obtain ⟨s1, s2, s3, s4, s5, s6, s7, s8, s9, s10, s11⟩ := id h
      have s41 : τ b 1 = bI any := by have q := s4.1; rw [show tpo (tdC P C n L any) = !any from rfl, Bool.not_not] at q; exact q
      have hen := C1_enter d σ hY hSL hb ht (fun j hj => hcgr i j hj hi) (hcgl i hi) (by omega) τ h
      refine st_iload_n hc dX1_standFor_106 rfl rfl ?_
      refine st_iload_n hc dX1_standFor_107 rfl rfl ?_
      refine st_icmp_ge (tgt := 138) hc dX1_standFor_108 (by decide) (fun h108 => ?_) (fun h108 => ?_)
      · exact absurd h108 (nI_ge hi (by omega))
      · refine st_aload_n hc dX1_standFor_111 rfl rfl ?_
        refine st_aload_n hc dX1_standFor_112 rfl rfl ?_
        refine st_getE hc dX1_standFor_113 flX1_25 y0 rfl (s41) ?_
        refine st_if_eq (tgt := 123) hc dX1_standFor_116 (by decide) (fun h116 => ?_) (fun h116 => ?_)
        · have hany : any = false := bI_0.mp h116
          have hcg : cgF any n L i = cutL n L i := by rw [hany]; rfl
          have hin : i < n := by rw [hany] at hKe; rw [if_neg (by decide)] at hKe; omega
          refine st_aload_n hc dX1_standFor_123 rfl rfl ?_
          refine st_getr hc dX1_standFor_124 flX1_11 y0 rfl ?_
          refine st_iload_n hc dX1_standFor_127 rfl rfl ?_
          refine st_ialdN (k := i) hc dX1_standFor_128 y1 (rfl) (by omega) (by first | decide | omega) (s4.2.2.2.1 i hin) ?_
          refine st_callVn hc dX1_standFor_129 ((hcg ▸ hen)) mvX1_98 (by omega) rfl y0 rfl (Nat.le_of_ble_eq_true rfl) ?_
          rintro τ1 ⟨E1, h1⟩
          refine st_inc hc dX1_standFor_132 rfl (by decide) rfl ?_
          rw [nI_1]
          refine st_goto (tgt := 106) hc dX1_standFor_135 (by decide) ?_
          exact ih τ1 E1 h1
        · have hany : any = true := bI_t h116
          have hcg : cgF any n L i = i := by rw [hany]; rfl
          refine st_iload_n hc dX1_standFor_119 rfl rfl ?_
          refine st_goto (tgt := 129) hc dX1_standFor_120 (by decide) ?_
          refine st_callVn hc dX1_standFor_129 ((hcg ▸ hen)) mvX1_98 (by omega) rfl y0 rfl (Nat.le_of_ble_eq_true rfl) ?_
          rintro τ1 ⟨E1, h1⟩
          refine st_inc hc dX1_standFor_132 rfl (by decide) rfl ?_
          rw [nI_1]
          refine st_goto (tgt := 106) hc dX1_standFor_135 (by decide) ?_
          exact ih τ1 E1 h1
  have hnxt : ∀ τ, (∀ a, ¬ (b ≤ a ∧ a ≤ b + 9) → τ a = σ a) → τ b 1 = bI any → τ b 3 = nI n → τ b 4 = nI P → τ b 5 = nI C → τ b 6 = 0 → (∀ k, k < n → τ (b + 1) k = nI (L k)) → (∀ x, x < 11264 → τ (b + 9) x = 0) → (∀ x, x < SL → τ (b + 7) x = 0) → aW g YC 4 (fun r τ => r = none ∧ (∀ a, ¬ (b ≤ a ∧ a ≤ b + 9) → τ a = σ a) ∧ τ b 4 = nI P ∧ τ b 5 = nI C ∧ ∃ E, frF τ b R (tdC P C n L any) E ∧ meO τ b (tdC P C n L any) E) 82 [some (.ref b), some (.ref 7), none, none] [] τ := by
    intro τ u0 u1 u3 u4 u5 u6 uL u9 u7
    have hst : stI σ b P C n L any 0 (0, fun _ => 0, fun _ => 0, fun _ _ => 0) τ := ⟨u0, u4, u5, ⟨by show _ = bI (!!any); rw [Bool.not_not]; exact u1, u3, by rw [u6]; rfl, fun k hk => by show _ = nI (cutL n L k); rw [cutL_lt hk]; exact uL k hk, fun e he => absurd he (Nat.not_lt_zero e)⟩, u9, fun e e' _ he => absurd he (Nat.not_lt_zero e'), fun e he => absurd he (Nat.not_lt_zero e), fun ha => ⟨fun _ => 0, fun p hp => ⟨by rw [u7 p (by rw [hSL ha]; exact hp)]; rfl, Nat.zero_le _⟩, Nat.le_of_eq (cnt_zero (n := 2048) (p := fun _ => false) (fun _ _ => rfl))⟩, Nat.zero_le _, fun j hj => absurd hj (Nat.not_lt_zero j), fun e he => absurd he (Nat.not_lt_zero e)⟩
    refine st_aload_n hc dX1_standFor_82 rfl rfl ?_
    refine st_getE hc dX1_standFor_83 flX1_25 y0 rfl (u1) ?_
    refine st_if_eq (tgt := 99) hc dX1_standFor_86 (by decide) (fun h86 => ?_) (fun h86 => ?_)
    · have hk2 : K = n := by rw [← hKe, bI_0.mp h86]; rfl
      refine st_aload_n hc dX1_standFor_99 rfl rfl ?_
      refine st_getE hc dX1_standFor_100 flX1_74 y0 rfl (u3) ?_
      refine st_istore_n hc dX1_standFor_103 rfl (by decide) rfl ?_
      refine st_iconst (v := 0) hc dX1_standFor_104 (by decide) ?_
      refine st_istore_n hc dX1_standFor_105 rfl (by decide) rfl ?_
      exact hk2 ▸ k106 τ _ hst
    · have hk2 : K = C ^ P := by rw [← hKe, bI_t h86]; rfl
      refine st_aload_n hc dX1_standFor_89 rfl rfl ?_
      refine st_getr hc dX1_standFor_90 flX1_21 y0 rfl ?_
      refine st_getE hc dX1_standFor_93 flX1_95 rfl rfl ((by rw [u0 1 (by omega)]; exact n2 : _ = nI (C ^ P))) ?_
      refine st_goto (tgt := 103) hc dX1_standFor_96 (by decide) ?_
      refine st_istore_n hc dX1_standFor_103 rfl (by decide) rfl ?_
      refine st_iconst (v := 0) hc dX1_standFor_104 (by decide) ?_
      refine st_istore_n hc dX1_standFor_105 rfl (by decide) rfl ?_
      exact hk2 ▸ k106 τ _ hst
  refine st_aload_n hc dX1_standFor_0 rfl rfl ?_
  refine st_aload_n hc dX1_standFor_1 rfl rfl ?_
  refine st_callV hc dX1_standFor_2 (C1_standsFor (d + 4) σ hY (L := L) n0 n1 l1 (fun k hk => (l3 k hk).1) vm vm10 l2) mvX1_48 (by omega) rfl y0 rfl (Nat.le_of_ble_eq_true rfl) ?_
  rintro r τ1 ⟨v, er, e2, hv⟩
  subst er e2
  show aW g YC 4 _ _ _ (.int (bI v) :: []) τ1
  refine st_if_eq (tgt := 9) hc dX1_standFor_5 (by decide) (fun h5 => ?_) (fun h5 => ?_)
  · refine st_aload_n hc dX1_standFor_9 rfl rfl ?_
    refine st_aload_n hc dX1_standFor_10 rfl rfl ?_
    refine st_getr hc dX1_standFor_11 flX1_21 y0 rfl ?_
    refine st_getE hc dX1_standFor_14 flX1_52 rfl rfl (n0) ?_
    refine st_put hc dX1_standFor_17 fpX1_58 y0 rfl  ?_
    refine st_aload_n hc dX1_standFor_20 rfl rfl ?_
    refine st_aload_n hc dX1_standFor_21 rfl rfl ?_
    refine st_getr hc dX1_standFor_22 flX1_21 y0 rfl ?_
    refine st_getE hc dX1_standFor_25 flX1_59 rfl rfl ((by rw [up_o 1 (by omega)]; exact n1 : _ = nI C)) ?_
    refine st_put hc dX1_standFor_28 fpX1_62 y0 rfl  ?_
    refine st_aload_n hc dX1_standFor_31 rfl rfl ?_
    refine st_aload_n hc dX1_standFor_32 rfl rfl ?_
    refine st_getE hc dX1_standFor_33 flX1_63 rfl rfl ((by rw [up_o 7 (by omega), up_o 7 (by omega)]; exact l1 : _ = nI n)) ?_
    refine st_bipush (v := 10) hc dX1_standFor_36 (by decide) ?_
    refine st_min hc dX1_standFor_38 lkmin1_68 (by omega) (Nat.le_of_ble_eq_true rfl) ?_
    rw [show (10 : Int32) = nI 10 from rfl, min_n (by omega) (by decide), Nat.min_eq_left h10]
    refine st_put hc dX1_standFor_41 fpX1_74 y0 rfl  ?_
    refine st_aload_n hc dX1_standFor_44 rfl rfl ?_
    refine st_getr hc dX1_standFor_45 flX1_77 rfl rfl ?_
    refine st_iconst (v := 0) hc dX1_standFor_48 (by decide) ?_
    refine st_aload_n hc dX1_standFor_49 rfl rfl ?_
    refine st_getr hc dX1_standFor_50 flX1_11 y0 rfl ?_
    refine st_iconst (v := 0) hc dX1_standFor_53 (by decide) ?_
    refine st_aload_n hc dX1_standFor_54 rfl rfl ?_
    refine st_getE hc dX1_standFor_55 flX1_74 y0 rfl ((by simp [up_eq] : _ = nI n)) ?_
    refine st_acopy (s := 0) (t := 0) (m := n) hc dX1_standFor_58 lkcpy1_80 (by omega) rfl y1 (rfl) (rfl) (rfl) (by omega) (by omega) (by decide) (by decide) (Nat.le_of_ble_eq_true rfl) ?_
    refine st_aload_n hc dX1_standFor_61 rfl rfl ?_
    refine st_getr hc dX1_standFor_62 flX1_18 y0 rfl ?_
    refine st_iconst (v := 0) hc dX1_standFor_65 (by decide) ?_
    refine st_callSn hc dX1_standFor_66 (CJ_fill (d + 4) _ y9 (by decide) 0) msX1_86 (by omega) rfl rfl (Nat.le_of_ble_eq_true rfl) ?_
    rintro τ2 e2
    subst e2
    refine st_aload_n hc dX1_standFor_69 rfl rfl ?_
    refine st_getr hc dX1_standFor_70 flX1_45 y0 rfl ?_
    refine st_iconst (v := 0) hc dX1_standFor_73 (by decide) ?_
    refine st_callSn hc dX1_standFor_74 (CJ_fill (d + 4) _ y7 (by omega) 0) msX1_86 (by omega) rfl rfl (Nat.le_of_ble_eq_true rfl) ?_
    rintro τ2 e2
    subst e2
    refine st_aload_n hc dX1_standFor_77 rfl rfl ?_
    refine st_iconst (v := 0) hc dX1_standFor_78 (by decide) ?_
    refine st_put hc dX1_standFor_79 fpX1_92 y0 rfl  ?_
    refine hnxt _ (fun a ha => ?_) ?_ ?_ ?_ ?_ ?_ (fun k hk => ?_) (fun x hx => ?_) (fun x hx => ?_)
    · rw [up_o a (by omega), vu_n (by omega), vu_n (by omega), vu_n (by omega), up_o a (by omega), up_o a (by omega), up_o a (by omega)]
    · simp [up_eq, va_up, v1]
    · simp [up_eq, va_up]
    · simp [up_eq, va_up]
    · simp [up_eq, va_up]
    · simp [up_eq, va_up]
    · have q : ¬ 16 = b := by omega
      simp [up_eq, va_up, rng, hk, q]
      exact (l3 k hk).1
    · simp [up_eq, va_up, clr, hx]
    · simp [up_eq, va_up, clr, hx]
  · obtain ⟨h4, h5, h3, hk⟩ := hv (bI_t h5)
    refine st_vret (st := []) hc dX1_standFor_8 rfl ?_
    rcases v2 with z | ⟨P', C', n', L', E', w1, w2, w3, w4, w5, w6⟩
    · rw [z] at h4; exact absurd (nI_inj (a := 0) (b := P) (by decide) (by have := hz.2.1; omega) h4) (by have := hz.1; omega)
    · have eP : P' = P := nI_inj (by omega) (by have := hz.2.1; omega) (w1.symm.trans h4)
      have eC : C' = C := nI_inj (by omega) (by have := hz.2.2.2.1; omega) (w3.symm.trans h5)
      have en : n' = n := nI_inj (by have := w5.1.1.1; show n' < _; have : n' ≤ 10 := w5.1.1.1; omega) (by omega) (w5.2.1.2.1.symm.trans (by rw [vm, h3]))
      subst eP eC en
      have ecut : cutL n' L' = cutL n' L := cut_eq (fun k hkn => by
        have q1 := w5.2.1.2.2.2.1 k hkn
        have q1 : τ1 (b + 1) k = nI (cutL n' L' k) := q1
        rw [cutL_lt hkn, hk k hkn] at q1
        have hlk := w5.1.2.2.2.1 k hkn
        have hlk : cutL n' L' k < C' ^ P' := hlk
        rw [cutL_lt hkn] at hlk
        exact (nI_inj (by have := (l3 k hkn).2; omega) (by omega) q1).symm)
      have etd : tdC P' C' n' L' any = tdC P' C' n' L any := by unfold tdC; rw [ecut]
      rw [etd] at w5 w6
      exact ⟨rfl, fun _ _ => rfl, h4, by rw [w3], E', w5, w6⟩

