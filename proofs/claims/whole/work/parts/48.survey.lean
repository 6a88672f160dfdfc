/-! ===== the class: the survey ===== -/
abbrev grC (P C n : Nat) (Lk : Nat → Nat) (c : Nat) : Nat := mxN 60 (szA n (fun k => ans P C (cw P C c) (Lk k)))
abbrev naC (P C n : Nat) (Lk : Nat → Nat) (c : Nat) : Nat := npA n (fun k => ans P C (cw P C c) (Lk k))
theorem npA_pos {n : Nat} {A : Nat → Nat} (hn : 1 ≤ n) (hA : A 0 < 60) : 1 ≤ npA n A := by
  have h1 : 0 < szA n A (A 0) := Nat.lt_of_le_of_lt (Nat.zero_le _) (cnt_lt (p := fun k => A k == A 0) (i := 0) (j := n) (by omega) (by simp))
  exact Nat.lt_of_le_of_lt (Nat.zero_le _) (cnt_lt (p := fun a => decide (0 < szA n A a)) (i := A 0) (j := 60) hA (decide_eq_true h1))
def svF (σ : St) (N : Nat) (gr na : Nat → Nat) : Prop := σ 21 0 = nI (lsN gr N).1 ∧ σ 21 1 = nI (msN na N).1 ∧ σ 21 2 = (lsN gr N).2 ∧ σ 21 3 = (msN na N).2
def svI (σ : St) (n : Nat) (gr na : Nat → Nat) (x : Int32) (k : Nat) (τ : St) : Prop := (∀ a, ¬ (a = 19 ∨ a = 20 ∨ a = 21) → τ a = σ a) ∧ τ 21 4 = x ∧ (k = 0 → τ 21 0 = nI (n + 1) ∧ τ 21 1 = nI 0) ∧ (0 < k → svF τ k gr na)
theorem ls_step {gr : Nat → Nat} {n k : Nat} (hg : gr k ≤ n) (hn : n ≤ 4096) : lsN gr (k + 1) = if gr k < (if k = 0 then n + 1 else (lsN gr k).1) then (gr k, nI k) else lsN gr k := by
  by_cases e : k = 0
  · subst e
    rw [if_pos rfl, if_pos (by omega)]
    show (if gr 0 < 1000000000 then (gr 0, nI 0) else _) = _
    rw [if_pos (by omega)]
  · rw [if_neg e]; rfl
theorem C8_look (d : Nat) (σ : St) {P C n : Nat} {Lk : Nat → Nat} (hb : bkI σ P C) (hl : lfI σ (C ^ P) n Lk) (hn : 1 ≤ n) (hs : σ 21 4 = σ 7 16 → svF σ (C ^ P) (grC P C n Lk) (naC P C n Lk)) : Mt YC mX8_look (d + 3) [.ref 21, .ref 7, .ref 19] σ (fun r τ => r = none ∧ (∀ a, ¬ (a = 19 ∨ a = 20 ∨ a = 21) → τ a = σ a) ∧ τ 21 4 = σ 7 16 ∧ svF τ (C ^ P) (grC P C n Lk) (naC P C n Lk)) := by
  obtain ⟨l1, l2, l3⟩ := id hl
  have hC4 := hb.1.2.1
  have hNs := hb.1.2.2.2.2
  have hP5 := hb.1.1.2.1
  have hN0 : 0 < C ^ P := Nat.pow_pos hb.1.1.2.2.1
  refine Mt.ofA [some (.ref 21), some (.ref 7), some (.ref 19), none] (by decide) (fun _ => Nat.le_of_ble_eq_true rfl) (fun _ => rfl) (fun g hc => ?_)
  have k37 : ∀ τ, svI σ n (grC P C n Lk) (naC P C n Lk) (σ 7 16) 0 τ → aW g YC 4 (fun r τ => r = none ∧ (∀ a, ¬ (a = 19 ∨ a = 20 ∨ a = 21) → τ a = σ a) ∧ τ 21 4 = σ 7 16 ∧ svF τ (C ^ P) (grC P C n Lk) (naC P C n Lk)) 37 [some (.ref 21), some (.ref 7), some (.ref 19), some (.int (nI 0))] [] τ := by
    refine lpN (n := C ^ P) (F := fun k => ∀ τ, svI σ n (grC P C n Lk) (naC P C n Lk) (σ 7 16) k τ → aW g YC 4 (fun r τ => r = none ∧ (∀ a, ¬ (a = 19 ∨ a = 20 ∨ a = 21) → τ a = σ a) ∧ τ 21 4 = σ 7 16 ∧ svF τ (C ^ P) (grC P C n Lk) (naC P C n Lk)) 37 [some (.ref 21), some (.ref 7), some (.ref 19), some (.int (nI k))] [] τ) (fun τ hS => ?_) (fun k hk ih τ hS => ?_)
    · obtain ⟨s1, s2, s3, s4⟩ := hS
      refine st_iload_n hc dX8_look_37 rfl rfl ?_
      refine st_aload_n hc dX8_look_38 rfl rfl ?_
      refine st_getr hc dX8_look_39 flX8_27 rfl rfl ?_
      refine st_getE hc dX8_look_42 flX8_31 rfl rfl ((by rw [s1 1 (by omega)]; exact hNs : _ = nI (C ^ P))) ?_
      refine st_icmp_ge (tgt := 125) hc dX8_look_45 (by decide) (fun h45 => ?_) (fun h45 => ?_)
      · refine st_vret (st := []) hc dX8_look_125 rfl ?_
        exact ⟨rfl, s1, s2, s4 hN0⟩
      · exact absurd (nI_le (Nat.le_refl _) (by omega)) h45
    · obtain ⟨s1, s2, s3, s4⟩ := hS
      have hbk : bkI τ P C := hb.eq (s1 1 (by omega)) (s1 2 (by omega)) (s1 3 (by omega)) (s1 4 (by omega))
      have hgr : grC P C n Lk k ≤ n := mxN_le (fun j _ => szA_le n _ j)
      have hls := ls_step (gr := grC P C n Lk) (k := k) hgr l2
      have hms : msN (naC P C n Lk) (k + 1) = if (msN (naC P C n Lk) k).1 < naC P C n Lk k then (naC P C n Lk k, nI k) else msN (naC P C n Lk) k := rfl
      have hnal : naC P C n Lk k ≤ 60 := npA_le n _
      have hmsl := msN_le (f := naC P C n Lk) (b := 60) (fun i => npA_le n _) k
      have hlsl := lsN_le (grC P C n Lk) k
      have hna0 : k = 0 → (msN (naC P C n Lk) k).1 < naC P C n Lk k := fun e => by
        subst e
        show 0 < naC P C n Lk 0
        exact npA_pos hn (by have := ans_50 hP5 (C := C) (cw P C 0) (Lk 0); omega)
      have a1 : τ 21 0 = nI (if k = 0 then n + 1 else (lsN (grC P C n Lk) k).1) := by
        by_cases e : k = 0
        · rw [if_pos e]; exact (s3 e).1
        · rw [if_neg e]; exact (s4 (by omega)).1
      have a2 : τ 21 1 = nI (msN (naC P C n Lk) k).1 := by
        by_cases e : k = 0
        · rw [(s3 e).2]; subst e; rfl
        · exact (s4 (by omega)).2.1
      have a0l : (if k = 0 then n + 1 else (lsN (grC P C n Lk) k).1) ≤ 1000000000 := by split <;> omega
      refine st_iload_n hc dX8_look_37 rfl rfl ?_
      refine st_aload_n hc dX8_look_38 rfl rfl ?_
      refine st_getr hc dX8_look_39 flX8_27 rfl rfl ?_
      refine st_getE hc dX8_look_42 flX8_31 rfl rfl ((by rw [s1 1 (by omega)]; exact hNs : _ = nI (C ^ P))) ?_
      refine st_icmp_ge (tgt := 125) hc dX8_look_45 (by decide) (fun h45 => ?_) (fun h45 => ?_)
      · exact absurd h45 (nI_ge hk (by omega))
      · refine st_aload_n hc dX8_look_48 rfl rfl ?_
        refine st_aload_n hc dX8_look_49 rfl rfl ?_
        refine st_aload_n hc dX8_look_50 rfl rfl ?_
        refine st_getr hc dX8_look_51 flX8_27 rfl rfl ?_
        refine st_getr hc dX8_look_54 flX8_36 rfl rfl ?_
        refine st_iload_n hc dX8_look_57 rfl rfl ?_
        refine st_ialdN (k := k) hc dX8_look_58 rfl (rfl) (by omega) (by first | decide | omega) ((hbk.2 k hk).1) ?_
        refine st_aload_n hc dX8_look_59 rfl rfl ?_
        refine st_getr hc dX8_look_60 flX8_27 rfl rfl ?_
        refine st_getr hc dX8_look_63 flX8_40 rfl rfl ?_
        refine st_iload_n hc dX8_look_66 rfl rfl ?_
        refine st_ialdN (k := k) hc dX8_look_67 rfl (rfl) (by omega) (by first | decide | omega) ((hbk.2 k hk).2.1) ?_
        refine st_callVn hc dX8_look_68 (C3_divide d τ hbk (hl.eq (by rw [s1 7 (by omega)]) (s1 16 (by omega))) (cw P C k)) mvX8_43 (by omega) rfl rfl rfl (Nat.le_of_ble_eq_true rfl) ?_
        rintro τ1 ⟨d1, d2, d3, d4⟩
        have g1 : ∀ a, ¬ (a = 19 ∨ a = 20 ∨ a = 21) → τ1 a = σ a := fun a ha => by rw [d1 a (by omega), s1 a ha]
        have e21 := d1 21 (by omega)
        have d3' : τ1 19 2 = nI (grC P C n Lk k) := d3
        have d2' : τ1 19 1 = nI (naC P C n Lk k) := d2
        refine st_aload_n hc dX8_look_71 rfl rfl ?_
        refine st_getE hc dX8_look_72 flX8_49 rfl rfl (d3') ?_
        refine st_aload_n hc dX8_look_75 rfl rfl ?_
        refine st_getE hc dX8_look_76 flX8_21 rfl rfl ((by rw [e21]; exact a1 : _ = nI (if k = 0 then n + 1 else (lsN (grC P C n Lk) k).1))) ?_
        refine st_icmp_ge (tgt := 95) hc dX8_look_79 (by decide) (fun h79 => ?_) (fun h79 => ?_)
        · have h79 := (nI_leI (by omega) (by omega)).mp h79
          rw [if_neg (by omega)] at hls
          have hk0 : ¬ k = 0 := fun e => by rw [if_pos e] at h79; omega
          refine st_aload_n hc dX8_look_95 rfl rfl ?_
          refine st_getE hc dX8_look_96 flX8_55 rfl rfl ((by simp [up_eq, d2'] : _ = nI (naC P C n Lk k))) ?_
          refine st_aload_n hc dX8_look_99 rfl rfl ?_
          refine st_getE hc dX8_look_100 flX8_24 rfl rfl ((by simp [up_eq, e21, a2] : _ = nI (msN (naC P C n Lk) k).1)) ?_
          refine st_icmp_le (tgt := 119) hc dX8_look_103 (by decide) (fun h103 => ?_) (fun h103 => ?_)
          · have h103 := (nI_leI (by omega) (by omega)).mp h103
            rw [if_neg (by omega)] at hms
            have hk1 : ¬ k = 0 := fun e => by have := hna0 e; omega
            refine st_inc hc dX8_look_119 rfl (by decide) rfl ?_
            rw [nI_1]
            refine st_goto (tgt := 37) hc dX8_look_122 (by decide) ?_
            refine ih _ ⟨fun a ha => ?_, by simp [up_eq, e21, s2], fun e => absurd e (by omega), fun _ => ?_⟩
            · have q1 : ¬ a = 21 := by omega
              refine Eq.trans ?_ (g1 a ha)
              first
               | rfl
               | (funext b; simp [up_eq, q1])
            · unfold svF
              rw [hls, hms]
              first
               | (have h4 := s4 (by omega); unfold svF at h4; simp [up_eq, e21, h4, d2]; done)
               | (simp [up_eq, e21, d2]; done)
          · have h103 : (msN (naC P C n Lk) k).1 < naC P C n Lk k := Nat.lt_of_not_le (fun q => h103 (nI_le q (by omega)))
            rw [if_pos h103] at hms
            refine st_aload_n hc dX8_look_106 rfl rfl ?_
            refine st_aload_n hc dX8_look_107 rfl rfl ?_
            refine st_getE hc dX8_look_108 flX8_55 rfl rfl ((by simp [up_eq, d2'] : _ = nI (naC P C n Lk k))) ?_
            refine st_put hc dX8_look_111 fpX8_24 rfl rfl  ?_
            refine st_aload_n hc dX8_look_114 rfl rfl ?_
            refine st_iload_n hc dX8_look_115 rfl rfl ?_
            refine st_put hc dX8_look_116 fpX8_58 rfl rfl  ?_
            refine st_inc hc dX8_look_119 rfl (by decide) rfl ?_
            rw [nI_1]
            refine st_goto (tgt := 37) hc dX8_look_122 (by decide) ?_
            refine ih _ ⟨fun a ha => ?_, by simp [up_eq, e21, s2], fun e => absurd e (by omega), fun _ => ?_⟩
            · have q1 : ¬ a = 21 := by omega
              refine Eq.trans ?_ (g1 a ha)
              first
               | rfl
               | (funext b; simp [up_eq, q1])
            · unfold svF
              rw [hls, hms]
              first
               | (have h4 := s4 (by omega); unfold svF at h4; simp [up_eq, e21, h4, d2]; done)
               | (simp [up_eq, e21, d2]; done)
        · have h79 : grC P C n Lk k < (if k = 0 then n + 1 else (lsN (grC P C n Lk) k).1) := Nat.lt_of_not_le (fun q => h79 (nI_le q (by omega)))
          rw [if_pos h79] at hls
          refine st_aload_n hc dX8_look_82 rfl rfl ?_
          refine st_aload_n hc dX8_look_83 rfl rfl ?_
          refine st_getE hc dX8_look_84 flX8_49 rfl rfl (d3') ?_
          refine st_put hc dX8_look_87 fpX8_21 rfl rfl  ?_
          refine st_aload_n hc dX8_look_90 rfl rfl ?_
          refine st_iload_n hc dX8_look_91 rfl rfl ?_
          refine st_put hc dX8_look_92 fpX8_52 rfl rfl  ?_
          refine st_aload_n hc dX8_look_95 rfl rfl ?_
          refine st_getE hc dX8_look_96 flX8_55 rfl rfl ((by simp [up_eq, d2'] : _ = nI (naC P C n Lk k))) ?_
          refine st_aload_n hc dX8_look_99 rfl rfl ?_
          refine st_getE hc dX8_look_100 flX8_24 rfl rfl ((by simp [up_eq, e21, a2] : _ = nI (msN (naC P C n Lk) k).1)) ?_
          refine st_icmp_le (tgt := 119) hc dX8_look_103 (by decide) (fun h103 => ?_) (fun h103 => ?_)
          · have h103 := (nI_leI (by omega) (by omega)).mp h103
            rw [if_neg (by omega)] at hms
            have hk1 : ¬ k = 0 := fun e => by have := hna0 e; omega
            refine st_inc hc dX8_look_119 rfl (by decide) rfl ?_
            rw [nI_1]
            refine st_goto (tgt := 37) hc dX8_look_122 (by decide) ?_
            refine ih _ ⟨fun a ha => ?_, by simp [up_eq, e21, s2], fun e => absurd e (by omega), fun _ => ?_⟩
            · have q1 : ¬ a = 21 := by omega
              refine Eq.trans ?_ (g1 a ha)
              first
               | rfl
               | (funext b; simp [up_eq, q1])
            · unfold svF
              rw [hls, hms]
              first
               | (have h4 := s4 (by omega); unfold svF at h4; simp [up_eq, e21, h4, d2]; done)
               | (simp [up_eq, e21, d2]; done)
          · have h103 : (msN (naC P C n Lk) k).1 < naC P C n Lk k := Nat.lt_of_not_le (fun q => h103 (nI_le q (by omega)))
            rw [if_pos h103] at hms
            refine st_aload_n hc dX8_look_106 rfl rfl ?_
            refine st_aload_n hc dX8_look_107 rfl rfl ?_
            refine st_getE hc dX8_look_108 flX8_55 rfl rfl ((by simp [up_eq, d2'] : _ = nI (naC P C n Lk k))) ?_
            refine st_put hc dX8_look_111 fpX8_24 rfl rfl  ?_
            refine st_aload_n hc dX8_look_114 rfl rfl ?_
            refine st_iload_n hc dX8_look_115 rfl rfl ?_
            refine st_put hc dX8_look_116 fpX8_58 rfl rfl  ?_
            refine st_inc hc dX8_look_119 rfl (by decide) rfl ?_
            rw [nI_1]
            refine st_goto (tgt := 37) hc dX8_look_122 (by decide) ?_
            refine ih _ ⟨fun a ha => ?_, by simp [up_eq, e21, s2], fun e => absurd e (by omega), fun _ => ?_⟩
            · have q1 : ¬ a = 21 := by omega
              refine Eq.trans ?_ (g1 a ha)
              first
               | rfl
               | (funext b; simp [up_eq, q1])
            · unfold svF
              rw [hls, hms]
              first
               | (have h4 := s4 (by omega); unfold svF at h4; simp [up_eq, e21, h4, d2]; done)
               | (simp [up_eq, e21, d2]; done)
  refine st_aload_n hc dX8_look_0 rfl rfl ?_
  refine st_getE hc dX8_look_1 flX8_7 rfl rfl rfl ?_
  refine st_aload_n hc dX8_look_4 rfl rfl ?_
  refine st_getE hc dX8_look_5 flX8_13 rfl rfl ((by simp [up_eq] : _ = σ 7 16)) ?_
  refine st_icmp_ne (tgt := 12) hc dX8_look_8 (by decide) (fun h8 => ?_) (fun h8 => ?_)
  · refine st_aload_n hc dX8_look_12 rfl rfl ?_
    refine st_aload_n hc dX8_look_13 rfl rfl ?_
    refine st_getE hc dX8_look_14 flX8_13 rfl rfl ((by simp [up_eq] : _ = σ 7 16)) ?_
    refine st_put hc dX8_look_17 fpX8_7 rfl rfl  ?_
    refine st_aload_n hc dX8_look_20 rfl rfl ?_
    refine st_aload_n hc dX8_look_21 rfl rfl ?_
    refine st_getE hc dX8_look_22 flX8_18 rfl rfl ((by simp [up_eq, l1] : _ = nI n)) ?_
    refine st_iconst (v := 1) hc dX8_look_25 (by decide) ?_
    refine st_iadd hc dX8_look_26 ?_
    rw [nI_1]
    refine st_put hc dX8_look_27 fpX8_21 rfl rfl  ?_
    refine st_aload_n hc dX8_look_30 rfl rfl ?_
    refine st_iconst (v := 0) hc dX8_look_31 (by decide) ?_
    refine st_put hc dX8_look_32 fpX8_24 rfl rfl  ?_
    refine st_iconst (v := 0) hc dX8_look_35 (by decide) ?_
    refine st_istore_n hc dX8_look_36 rfl (by decide) rfl ?_
    refine k37 _ ⟨fun a ha => ?_, by simp [up_eq], fun _ => ⟨by simp [up_eq], by simp [up_eq, nI_0]⟩, fun q => absurd q (Nat.lt_irrefl 0)⟩
    have q1 : ¬ a = 21 := by omega
    funext b
    simp [up_eq, q1]
  · have h8 : σ 21 4 = σ 7 16 := h8
    refine st_vret (st := []) hc dX8_look_11 rfl ?_
    exact ⟨rfl, fun _ _ => rfl, h8, hs h8⟩

