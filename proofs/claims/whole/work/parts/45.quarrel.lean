/-! ===== the class: the finder of quarrels ===== -/
theorem cnt_upd1 {n x : Nat} {p q : Nat → Bool} (hx : x < n) (h1 : p x = false) (h2 : q x = true) (h : ∀ i, i < n → i ≠ x → q i = p i) : cnt n q = cnt n p + 1 := by
  induction n with
  | zero => omega
  | succ n ih =>
    show cnt n q + (if q n = true then 1 else 0) = cnt n p + (if p n = true then 1 else 0) + 1
    by_cases e : x = n
    · subst e
      rw [h1, h2, cnt_congr (fun i hi => h i (by omega) (by omega))]
      rfl
    · rw [ih (by omega) (fun i hi hne => h i (by omega) hne), h n (by omega) (fun q => e q.symm)]
      omega
abbrev knB (ok : Nat → Bool) (fb : Nat → Nat) (k x : Nat) : Bool := anyN k (fun c => ok c && fb c == x)
def fsI (τ : St) (T : Nat) (A : Nat → Bool) : Prop := ∃ (m : Nat) (S : Nat → Nat), τ 8 2 = nI m ∧ m ≤ 1024 ∧ (∀ i, i < m → τ 10 i = nI (S i) ∧ S i < 2 ^ T) ∧ ∀ x, (∃ i, i < m ∧ S i = x) ↔ A x = true
theorem pow10 {T : Nat} (h : T ≤ 10) : 2 ^ T ≤ 1024 := Nat.pow_le_pow_right (by decide) h
def gaI (σ : St) (T : Nat) (ok : Nat → Bool) (fb : Nat → Nat) (k : Nat) (τ : St) : Prop := eqX 8 10 σ τ ∧ τ 8 2 = nI (cnt (2 ^ T) (knB ok fb k)) ∧ (∀ x, x < 2 ^ T → τ 9 x = bI (knB ok fb k x)) ∧ ∃ S : Nat → Nat, (∀ i, i < cnt (2 ^ T) (knB ok fb k) → τ 10 i = nI (S i) ∧ S i < 2 ^ T) ∧ ∀ x, (∃ i, i < cnt (2 ^ T) (knB ok fb k) ∧ S i = x) ↔ knB ok fb k x = true
theorem gaI.same {σ τ : St} {T k : Nat} {ok : Nat → Bool} {fb : Nat → Nat} (h : gaI σ T ok fb k τ) (e : ∀ x, knB ok fb (k + 1) x = knB ok fb k x) : gaI σ T ok fb (k + 1) τ := by
  have e2 : knB ok fb (k + 1) = knB ok fb k := funext e
  unfold gaI at *
  rw [e2]
  exact h
theorem C6_gather (d : Nat) (σ : St) {N T L : Nat} {ok : Nat → Bool} {fb : Nat → Nat} (hA : plA σ N ok fb L) (hT : T ≤ 10) (hf : ∀ c, c < N → fb c < 2 ^ T) : Mt YC mX6_gather d [.ref 8, .ref 7, .int (nI T)] σ (fun r τ => r = none ∧ eqX 8 10 σ τ ∧ fsI τ T (knB ok fb N)) := by
  obtain ⟨a1, a2, a3, a4, a5⟩ := hA
  have hp := pow10 hT
  refine Mt.ofA [some (.ref 8), some (.ref 7), some (.int (nI T)), none, none, none] (by decide) (fun _ => Nat.le_of_ble_eq_true rfl) (fun _ => rfl) (fun g hc => ?_)
  have k35 : ∀ τ, gaI σ T ok fb 0 τ → aW g YC 6 (fun r τ => r = none ∧ eqX 8 10 σ τ ∧ fsI τ T (knB ok fb N)) 35 [some (.ref 8), some (.ref 7), some (.int (nI T)), some (.int (nI (2 ^ T))), some (.int (nI 0)), none] [] τ := by
    refine lpN (n := N) (F := fun k => ∀ τ, gaI σ T ok fb k τ → aW g YC 6 (fun r τ => r = none ∧ eqX 8 10 σ τ ∧ fsI τ T (knB ok fb N)) 35 [some (.ref 8), some (.ref 7), some (.int (nI T)), some (.int (nI (2 ^ T))), some (.int (nI k)), none] [] τ) (fun τ hG => ?_) (fun k hk ih τ hG => ?_)
    · obtain ⟨g1, g2, g3, S, g4, g5⟩ := hG
      have := cnt_le (2 ^ T) (knB ok fb N)
      refine st_iload hc dX6_gather_35 rfl ?_
      refine st_aload_n hc dX6_gather_37 rfl rfl ?_
      refine st_getr hc dX6_gather_38 flX6_42 rfl rfl ?_
      refine st_getE hc dX6_gather_41 flX6_46 rfl rfl ((by rw [g1 1 (by omega)]; exact a1 : _ = nI N)) ?_
      refine st_icmp_ge (tgt := 111) hc dX6_gather_44 (by decide) (fun h44 => ?_) (fun h44 => ?_)
      · refine st_vret (st := []) hc dX6_gather_111 rfl ?_
        exact ⟨rfl, g1, cnt (2 ^ T) (knB ok fb N), S, g2, by omega, g4, g5⟩
      · exact absurd (nI_le (Nat.le_refl _) (by omega)) h44
    · obtain ⟨g1, g2, g3, S, g4, g5⟩ := id hG
      obtain ⟨b1, b2, b3⟩ := a5 k hk
      have hfk := hf k hk
      refine st_iload hc dX6_gather_35 rfl ?_
      refine st_aload_n hc dX6_gather_37 rfl rfl ?_
      refine st_getr hc dX6_gather_38 flX6_42 rfl rfl ?_
      refine st_getE hc dX6_gather_41 flX6_46 rfl rfl ((by rw [g1 1 (by omega)]; exact a1 : _ = nI N)) ?_
      refine st_icmp_ge (tgt := 111) hc dX6_gather_44 (by decide) (fun h44 => ?_) (fun h44 => ?_)
      · exact absurd h44 (nI_ge hk (by omega))
      · refine st_aload_n hc dX6_gather_47 rfl rfl ?_
        refine st_getr hc dX6_gather_48 flX6_51 rfl rfl ?_
        refine st_iload hc dX6_gather_51 rfl ?_
        refine st_ialdN (k := k) hc dX6_gather_53 rfl (rfl) (by omega) (by first | decide | omega) ((by rw [g1 15 (by omega)]; exact b2 : _ = nI (fb k))) ?_
        refine st_istore hc dX6_gather_54 (by decide) rfl ?_
        refine st_aload_n hc dX6_gather_56 rfl rfl ?_
        refine st_getr hc dX6_gather_57 flX6_54 rfl rfl ?_
        refine st_iload hc dX6_gather_60 rfl ?_
        refine st_zaldN (k := k) hc dX6_gather_62 rfl (rfl) (by omega) (by first | decide | omega) ((by rw [g1 14 (by omega)]; exact b1 : _ = bI (ok k))) ?_
        refine st_if_eq (tgt := 105) hc dX6_gather_63 (by decide) (fun h63 => ?_) (fun h63 => ?_)
        · have hG2 : gaI σ T ok fb (k + 1) τ := hG.same (fun x => by show (knB ok fb k x || (ok k && fb k == x)) = _; rw [bI_0.mp h63]; simp)
          refine st_inc hc dX6_gather_105 rfl (by decide) rfl ?_
          rw [nI_1]
          refine st_goto (tgt := 35) hc dX6_gather_108 (by decide) ?_
          first
           | exact st_lvq _ (by simp [lvq, List.set]) (ih τ hG2)
           | (refine st_lvq _ (by simp [lvq, List.set]) (ih _ ⟨((g1.up (by decide) (by decide)).up (by decide) (by decide)).up (by decide) (by decide), by simp [up_eq], fun x hx => ?_, fun i => if i = cnt (2 ^ T) (knB ok fb k) then fb k else S i, fun i hi => ?_, fun x => ?_⟩)
              · have : knB ok fb (k + 1) x = (knB ok fb k x || (ok k && fb k == x)) := rfl
                rw [this, hok]
                by_cases e : x = fb k
                · subst e; simp [up_eq, bI]
                · simp [up_eq, e, g3 x hx, beq_false_of_ne (fun q => e (Eq.symm q) : ¬ fb k = x)]
              · rw [e1] at hi
                by_cases e : i = cnt (2 ^ T) (knB ok fb k)
                · subst e; simp [up_eq, hfk]
                · simp [up_eq, e]; exact g4 i (by omega)
              · have : knB ok fb (k + 1) x = (knB ok fb k x || (ok k && fb k == x)) := rfl
                rw [this, hok, e1]
                constructor
                · rintro ⟨i, hi, hx⟩
                  by_cases e : i = cnt (2 ^ T) (knB ok fb k)
                  · simp only [e, if_true] at hx; simp [hx]
                  · simp only [e, if_false] at hx; rw [(g5 x).mp ⟨i, by omega, hx⟩]; rfl
                · intro hx
                  by_cases e : fb k = x
                  · exact ⟨cnt (2 ^ T) (knB ok fb k), by omega, by simp [e]⟩
                  · have hx2 : knB ok fb k x = true := by rw [beq_false_of_ne e] at hx; simpa using hx
                    obtain ⟨i, h1, h2⟩ := (g5 x).mpr hx2
                    exact ⟨i, by omega, by simp only []; rw [if_neg (by omega)]; exact h2⟩)
        · refine st_aload_n hc dX6_gather_66 rfl rfl ?_
          refine st_getr hc dX6_gather_67 flX6_9 rfl rfl ?_
          refine st_iload hc dX6_gather_70 rfl ?_
          refine st_zaldN (k := fb k) hc dX6_gather_72 rfl (rfl) (by omega) (by first | decide | omega) (g3 (fb k) hfk) ?_
          refine st_if_ne (tgt := 105) hc dX6_gather_73 (by decide) (fun h73 => ?_) (fun h73 => ?_)
          · have hG2 : gaI σ T ok fb (k + 1) τ := hG.same (fun x => by
              show (knB ok fb k x || (ok k && fb k == x)) = _
              by_cases e : fb k = x
              · subst e; rw [bI_t h73]; rfl
              · rw [beq_false_of_ne e]; simp)
            refine st_inc hc dX6_gather_105 rfl (by decide) rfl ?_
            rw [nI_1]
            refine st_goto (tgt := 35) hc dX6_gather_108 (by decide) ?_
            first
             | exact st_lvq _ (by simp [lvq, List.set]) (ih τ hG2)
             | (refine st_lvq _ (by simp [lvq, List.set]) (ih _ ⟨((g1.up (by decide) (by decide)).up (by decide) (by decide)).up (by decide) (by decide), by simp [up_eq], fun x hx => ?_, fun i => if i = cnt (2 ^ T) (knB ok fb k) then fb k else S i, fun i hi => ?_, fun x => ?_⟩)
                · have : knB ok fb (k + 1) x = (knB ok fb k x || (ok k && fb k == x)) := rfl
                  rw [this, hok]
                  by_cases e : x = fb k
                  · subst e; simp [up_eq, bI]
                  · simp [up_eq, e, g3 x hx, beq_false_of_ne (fun q => e (Eq.symm q) : ¬ fb k = x)]
                · rw [e1] at hi
                  by_cases e : i = cnt (2 ^ T) (knB ok fb k)
                  · subst e; simp [up_eq, hfk]
                  · simp [up_eq, e]; exact g4 i (by omega)
                · have : knB ok fb (k + 1) x = (knB ok fb k x || (ok k && fb k == x)) := rfl
                  rw [this, hok, e1]
                  constructor
                  · rintro ⟨i, hi, hx⟩
                    by_cases e : i = cnt (2 ^ T) (knB ok fb k)
                    · simp only [e, if_true] at hx; simp [hx]
                    · simp only [e, if_false] at hx; rw [(g5 x).mp ⟨i, by omega, hx⟩]; rfl
                  · intro hx
                    by_cases e : fb k = x
                    · exact ⟨cnt (2 ^ T) (knB ok fb k), by omega, by simp [e]⟩
                    · have hx2 : knB ok fb k x = true := by rw [beq_false_of_ne e] at hx; simpa using hx
                      obtain ⟨i, h1, h2⟩ := (g5 x).mpr hx2
                      exact ⟨i, by omega, by simp only []; rw [if_neg (by omega)]; exact h2⟩)
          · have hk0 := bI_0.mp h73
            have hok := bI_t h63
            have e1 : cnt (2 ^ T) (knB ok fb (k + 1)) = cnt (2 ^ T) (knB ok fb k) + 1 := cnt_upd1 hfk hk0 (by show (knB ok fb k (fb k) || (ok k && fb k == fb k)) = true; rw [hok]; simp) (fun i _ hne => by show (knB ok fb k i || (ok k && fb k == i)) = _; rw [beq_false_of_ne (fun q => hne q.symm)]; simp)
            have hle := cnt_le (2 ^ T) (knB ok fb (k + 1))
            refine st_aload_n hc dX6_gather_76 rfl rfl ?_
            refine st_getr hc dX6_gather_77 flX6_9 rfl rfl ?_
            refine st_iload hc dX6_gather_80 rfl ?_
            refine st_iconst (v := 1) hc dX6_gather_82 (by decide) ?_
            refine st_zastN (k := fb k) hc dX6_gather_83 rfl (rfl) (by omega) (by first | decide | omega) (Or.inr rfl) ?_
            refine st_aload_n hc dX6_gather_84 rfl rfl ?_
            refine st_getr hc dX6_gather_85 flX6_15 rfl rfl ?_
            refine st_aload_n hc dX6_gather_88 rfl rfl ?_
            refine st_getE hc dX6_gather_89 flX6_39 rfl rfl ((by simp [up_eq, g2] : _ = nI (cnt (2 ^ T) (knB ok fb k)))) ?_
            refine st_iload hc dX6_gather_92 rfl ?_
            refine st_iastN (k := cnt (2 ^ T) (knB ok fb k)) hc dX6_gather_94 rfl (rfl) (by omega) (by first | decide | omega)  ?_
            refine st_aload_n hc dX6_gather_95 rfl rfl ?_
            refine st_dup hc dX6_gather_96 rfl ?_
            refine st_getE hc dX6_gather_97 flX6_39 rfl rfl ((by simp [up_eq, g2] : _ = nI (cnt (2 ^ T) (knB ok fb k)))) ?_
            refine st_iconst (v := 1) hc dX6_gather_100 (by decide) ?_
            refine st_iadd hc dX6_gather_101 ?_
            rw [nI_1, ← e1]
            refine st_put hc dX6_gather_102 fpX6_39 rfl rfl  ?_
            refine st_inc hc dX6_gather_105 rfl (by decide) rfl ?_
            rw [nI_1]
            refine st_goto (tgt := 35) hc dX6_gather_108 (by decide) ?_
            first
             | exact st_lvq _ (by simp [lvq, List.set]) (ih τ hG2)
             | (refine st_lvq _ (by simp [lvq, List.set]) (ih _ ⟨((g1.up (by decide) (by decide)).up (by decide) (by decide)).up (by decide) (by decide), by simp [up_eq], fun x hx => ?_, fun i => if i = cnt (2 ^ T) (knB ok fb k) then fb k else S i, fun i hi => ?_, fun x => ?_⟩)
                · have : knB ok fb (k + 1) x = (knB ok fb k x || (ok k && fb k == x)) := rfl
                  rw [this, hok]
                  by_cases e : x = fb k
                  · subst e; simp [up_eq, bI]
                  · simp [up_eq, e, g3 x hx, beq_false_of_ne (fun q => e (Eq.symm q) : ¬ fb k = x)]
                · rw [e1] at hi
                  by_cases e : i = cnt (2 ^ T) (knB ok fb k)
                  · subst e; simp [up_eq, hfk]
                  · simp [up_eq, e]; exact g4 i (by omega)
                · have : knB ok fb (k + 1) x = (knB ok fb k x || (ok k && fb k == x)) := rfl
                  rw [this, hok, e1]
                  constructor
                  · rintro ⟨i, hi, hx⟩
                    by_cases e : i = cnt (2 ^ T) (knB ok fb k)
                    · simp only [e, if_true] at hx; simp [hx]
                    · simp only [e, if_false] at hx; rw [(g5 x).mp ⟨i, by omega, hx⟩]; rfl
                  · intro hx
                    by_cases e : fb k = x
                    · exact ⟨cnt (2 ^ T) (knB ok fb k), by omega, by simp [e]⟩
                    · have hx2 : knB ok fb k x = true := by rw [beq_false_of_ne e] at hx; simpa using hx
                      obtain ⟨i, h1, h2⟩ := (g5 x).mpr hx2
                      exact ⟨i, by omega, by simp only []; rw [if_neg (by omega)]; exact h2⟩)
  have k7 : ∀ w, aW g YC 6 (fun r τ => r = none ∧ eqX 8 10 σ τ ∧ fsI τ T (knB ok fb N)) 7 [some (.ref 8), some (.ref 7), some (.int (nI T)), some (.int (nI (2 ^ T))), some (.int (nI 0)), none] [] (va_up σ 9 (clr 0 0 w)) := by
    intro w
    refine lpN (n := 2 ^ T) (F := fun k => aW g YC 6 (fun r τ => r = none ∧ eqX 8 10 σ τ ∧ fsI τ T (knB ok fb N)) 7 [some (.ref 8), some (.ref 7), some (.int (nI T)), some (.int (nI (2 ^ T))), some (.int (nI k)), none] [] (va_up σ 9 (clr k 0 w))) ?_ (fun k hk ih => ?_)
    · have hc0 : cnt (2 ^ T) (knB ok fb 0) = 0 := cnt_zero (fun _ _ => rfl)
      refine st_iload hc dX6_gather_7 rfl ?_
      refine st_iload_n hc dX6_gather_9 rfl rfl ?_
      refine st_icmp_ge (tgt := 27) hc dX6_gather_10 (by decide) (fun h10 => ?_) (fun h10 => ?_)
      · refine st_aload_n hc dX6_gather_27 rfl rfl ?_
        refine st_iconst (v := 0) hc dX6_gather_28 (by decide) ?_
        refine st_put hc dX6_gather_29 fpX6_39 rfl rfl  ?_
        refine st_iconst (v := 0) hc dX6_gather_32 (by decide) ?_
        refine st_istore hc dX6_gather_33 (by decide) rfl ?_
        refine st_lvq _ (by simp [lvq, List.set, nI_0]) (k35 _ ⟨(eqX.rf.vu (by decide) (by decide)).up (by decide) (by decide), by rw [hc0]; simp [up_eq, nI_0], fun x hx => ?_, fun _ => 0, fun i hi => by rw [hc0] at hi; omega, fun x => ⟨?_, fun hx => absurd hx (by show ¬ false = true; decide)⟩⟩)
        · rw [up_o 9 (by decide), vu_s]; unfold clr; rw [if_pos hx]; rfl
        · rintro ⟨i, hi, -⟩; rw [hc0] at hi; omega
      · exact absurd (nI_le (Nat.le_refl _) (by omega)) h10
    · refine st_iload hc dX6_gather_7 rfl ?_
      refine st_iload_n hc dX6_gather_9 rfl rfl ?_
      refine st_icmp_ge (tgt := 27) hc dX6_gather_10 (by decide) (fun h10 => ?_) (fun h10 => ?_)
      · exact absurd h10 (nI_ge hk (by omega))
      · refine st_aload_n hc dX6_gather_13 rfl rfl ?_
        refine st_getr hc dX6_gather_14 flX6_9 rfl rfl ?_
        refine st_iload hc dX6_gather_17 rfl ?_
        refine st_iconst (v := 0) hc dX6_gather_19 (by decide) ?_
        refine st_zastN (k := k) hc dX6_gather_20 rfl (rfl) (by omega) (by first | decide | omega) (Or.inl rfl) ?_
        rw [vu_up, clr_s]
        refine st_inc hc dX6_gather_21 rfl (by decide) rfl ?_
        rw [nI_1]
        refine st_goto (tgt := 7) hc dX6_gather_24 (by decide) ?_
        exact ih
  have h9 := k7 (σ 9)
  rw [clr_0, vu_id] at h9
  refine st_iconst (v := 1) hc dX6_gather_0 (by decide) ?_
  refine st_iload_n hc dX6_gather_1 rfl rfl ?_
  refine st_ishl hc dX6_gather_2 ?_
  rw [nI_shl1 (by omega)]
  refine st_istore_n hc dX6_gather_3 rfl (by decide) rfl ?_
  refine st_iconst (v := 0) hc dX6_gather_4 (by decide) ?_
  refine st_istore hc dX6_gather_5 (by decide) rfl ?_
  exact h9
theorem C6_bringForward (d : Nat) (σ : St) {i : Nat} (hi : i < 1024) : Mt YC mX6_bringForward d [.ref 8, .int (nI i)] σ (fun r τ => r = none ∧ τ = va_up σ 10 (upd (upd (σ 10) i (σ 10 0)) 0 (σ 10 i))) := by
  refine Mt.ofA [some (.ref 8), some (.int (nI i)), none] (by decide) (fun _ => Nat.le_of_ble_eq_true rfl) (fun _ => rfl) (fun g hc => ?_)
  refine st_aload_n hc dX6_bringForward_0 rfl rfl ?_
  refine st_getr hc dX6_bringForward_1 flX6_15 rfl rfl ?_
  refine st_iload_n hc dX6_bringForward_4 rfl rfl ?_
  refine st_ialdN (k := i) hc dX6_bringForward_5 rfl (rfl) (by omega) (by first | decide | omega) rfl ?_
  refine st_istore_n hc dX6_bringForward_6 rfl (by decide) rfl ?_
  refine st_aload_n hc dX6_bringForward_7 rfl rfl ?_
  refine st_getr hc dX6_bringForward_8 flX6_15 rfl rfl ?_
  refine st_iload_n hc dX6_bringForward_11 rfl rfl ?_
  refine st_aload_n hc dX6_bringForward_12 rfl rfl ?_
  refine st_getr hc dX6_bringForward_13 flX6_15 rfl rfl ?_
  refine st_iconst (v := 0) hc dX6_bringForward_16 (by decide) ?_
  refine st_ialdN (k := 0) hc dX6_bringForward_17 rfl (rfl) (by omega) (by first | decide | omega) rfl ?_
  refine st_iastN (k := i) hc dX6_bringForward_18 rfl (rfl) (by omega) (by first | decide | omega)  ?_
  refine st_aload_n hc dX6_bringForward_19 rfl rfl ?_
  refine st_getr hc dX6_bringForward_20 flX6_15 rfl rfl ?_
  refine st_iconst (v := 0) hc dX6_bringForward_23 (by decide) ?_
  refine st_iload_n hc dX6_bringForward_24 rfl rfl ?_
  refine st_iastN (k := 0) hc dX6_bringForward_25 rfl (rfl) (by omega) (by first | decide | omega)  ?_
  refine st_vret (st := []) hc dX6_bringForward_26 rfl ?_
  refine ⟨rfl, ?_⟩
  rw [vu_ud (σ := up σ 10 i (σ 10 0)), up_k, vu_ud, vu_vu]
theorem fsI.swap {τ : St} {T : Nat} {A : Nat → Bool} {m i : Nat} {S : Nat → Nat} (h2 : m ≤ 1024) (h1 : τ 8 2 = nI m) (h3 : ∀ i, i < m → τ 10 i = nI (S i) ∧ S i < 2 ^ T) (h4 : ∀ x, (∃ i, i < m ∧ S i = x) ↔ A x = true) (hi : i < m) : fsI (va_up τ 10 (upd (upd (τ 10) i (τ 10 0)) 0 (τ 10 i))) T A := by
  refine ⟨m, fun j => if j = 0 then S i else if j = i then S 0 else S j, by rw [vu_n (by decide)]; exact h1, h2, fun j hj => ?_, fun x => ?_⟩
  · rw [vu_s]
    by_cases e : j = 0
    · subst e; rw [upd_s]; exact h3 i hi
    · rw [upd_n e]
      simp only [e, if_false]
      by_cases e2 : j = i
      · subst e2; rw [upd_s]; simp only [if_true]; exact h3 0 (by omega)
      · rw [upd_n e2]; simp only [e2, if_false]; exact h3 j hj
  · rw [← h4 x]
    constructor
    · rintro ⟨j, hj, hx⟩
      by_cases e : j = 0
      · simp only [e, if_true] at hx; exact ⟨i, hi, hx⟩
      · simp only [e, if_false] at hx
        by_cases e2 : j = i
        · simp only [e2, if_true] at hx; exact ⟨0, by omega, hx⟩
        · simp only [e2, if_false] at hx; exact ⟨j, hj, hx⟩
    · rintro ⟨j, hj, hx⟩
      by_cases e : j = 0
      · by_cases e2 : i = 0
        · exact ⟨0, by omega, by simp only [if_true]; rw [e2, ← e]; exact hx⟩
        · exact ⟨i, hi, by simp only [e2, if_false, if_true]; rw [← e]; exact hx⟩
      · by_cases e2 : j = i
        · exact ⟨0, by omega, by simp only [if_true]; rw [← e2]; exact hx⟩
        · exact ⟨j, hj, by simp only [e, e2, if_false]; exact hx⟩
abbrev qq (A : Nat → Bool) (T L s : Nat) : Bool := !anyN (2 ^ T) (fun x => A x && decide (ones (x &&& s) ≤ L))
theorem C6_isQuarrel (d : Nat) (σ : St) {T L s : Nat} {A : Nat → Bool} (hT : T ≤ 10) (hF : fsI σ T A) (hL : L ≤ 2) : Mt YC mX6_isQuarrel (d + 1) [.ref 8, .int (nI s), .int (nI L)] σ (fun r τ => r = some (.int (bI (qq A T L s))) ∧ fsI τ T A ∧ eqX 8 10 σ τ) := by
  obtain ⟨m, S, f1, f2, f3, f4⟩ := id hF
  have hp := pow10 hT
  refine Mt.ofA [some (.ref 8), some (.int (nI s)), some (.int (nI L)), none] (by decide) (fun _ => Nat.le_of_ble_eq_true rfl) (fun _ => rfl) (fun g hc => ?_)
  have k2 : (∀ j, j < 0 → L < ones (S j &&& s)) → aW g YC 4 (fun r τ => r = some (.int (bI (qq A T L s))) ∧ fsI τ T A ∧ eqX 8 10 σ τ) 2 [some (.ref 8), some (.int (nI s)), some (.int (nI L)), some (.int (nI 0))] [] σ := by
    refine lpN (n := m) (F := fun i => (∀ j, j < i → L < ones (S j &&& s)) → aW g YC 4 (fun r τ => r = some (.int (bI (qq A T L s))) ∧ fsI τ T A ∧ eqX 8 10 σ τ) 2 [some (.ref 8), some (.int (nI s)), some (.int (nI L)), some (.int (nI i))] [] σ) (fun hz => ?_) (fun i hi ih hz => ?_)
    · have e : qq A T L s = true := by
        unfold qq
        rcases hq : anyN (2 ^ T) (fun x => A x && decide (ones (x &&& s) ≤ L)) with _ | _
        · rfl
        · obtain ⟨x, -, hx⟩ := (anyN_iff _ _).mp hq
          rw [Bool.and_eq_true] at hx
          obtain ⟨j, hj, e⟩ := (f4 x).mpr hx.1
          have := hz j hj
          rw [e] at this
          have := of_decide_eq_true hx.2
          omega
      refine st_iload_n hc dX6_isQuarrel_2 rfl rfl ?_
      refine st_aload_n hc dX6_isQuarrel_3 rfl rfl ?_
      refine st_getE hc dX6_isQuarrel_4 flX6_39 rfl rfl (f1) ?_
      refine st_icmp_ge (tgt := 38) hc dX6_isQuarrel_7 (by decide) (fun h7 => ?_) (fun h7 => ?_)
      · refine st_iconst (v := 1) hc dX6_isQuarrel_38 (by decide) ?_
        refine st_zret (st := []) hc dX6_isQuarrel_39 rfl (by simp) ?_
        rw [e]
        exact ⟨rfl, hF, eqX.rf⟩
      · exact absurd (nI_le (Nat.le_refl _) (by omega)) h7
    · obtain ⟨b1, b2⟩ := f3 i hi
      have hlt : (S i &&& s) < 2 ^ 11 := Nat.lt_of_le_of_lt Nat.and_le_left (by omega)
      have ho := ones_le (S i &&& s)
      refine st_iload_n hc dX6_isQuarrel_2 rfl rfl ?_
      refine st_aload_n hc dX6_isQuarrel_3 rfl rfl ?_
      refine st_getE hc dX6_isQuarrel_4 flX6_39 rfl rfl (f1) ?_
      refine st_icmp_ge (tgt := 38) hc dX6_isQuarrel_7 (by decide) (fun h7 => ?_) (fun h7 => ?_)
      · exact absurd h7 (nI_ge hi (by omega))
      · refine st_aload_n hc dX6_isQuarrel_10 rfl rfl ?_
        refine st_getr hc dX6_isQuarrel_11 flX6_15 rfl rfl ?_
        refine st_iload_n hc dX6_isQuarrel_14 rfl rfl ?_
        refine st_ialdN (k := i) hc dX6_isQuarrel_15 rfl (rfl) (by omega) (by first | decide | omega) (b1) ?_
        refine st_iload_n hc dX6_isQuarrel_16 rfl rfl ?_
        refine st_iand hc dX6_isQuarrel_17 ?_
        rw [nI_and]
        refine st_callSp hc dX6_isQuarrel_18 (CJ_bitCount YC d σ _ (Nat.lt_trans hlt (by decide))) msX6_23 (by omega) rfl rfl (Nat.le_of_ble_eq_true rfl) ?_
        refine st_iload_n hc dX6_isQuarrel_21 rfl rfl ?_
        refine st_icmp_gt (tgt := 32) hc dX6_isQuarrel_22 (by decide) (fun h22 => ?_) (fun h22 => ?_)
        · have hz2 : ∀ j, j < i + 1 → L < ones (S j &&& s) := fun j hj => by
            by_cases e : j = i
            · subst e; rw [pc_ones hlt] at h22; exact (nI_ltI (by omega) (by omega)).mp h22
            · exact hz j (by omega)
          refine st_inc hc dX6_isQuarrel_32 rfl (by decide) rfl ?_
          rw [nI_1]
          refine st_goto (tgt := 2) hc dX6_isQuarrel_35 (by decide) ?_
          exact ih hz2
        · have hle : ones (S i &&& s) ≤ L := by rw [pc_ones hlt] at h22; exact Nat.le_of_not_lt (fun q => h22 ((nI_ltI (by omega) (by omega)).mpr q))
          have e : qq A T L s = false := by
            unfold qq
            rw [(anyN_iff _ _).mpr ⟨S i, b2, by rw [(f4 (S i)).mp ⟨i, hi, rfl⟩, decide_eq_true hle]; rfl⟩]
            rfl
          refine st_aload_n hc dX6_isQuarrel_25 rfl rfl ?_
          refine st_iload_n hc dX6_isQuarrel_26 rfl rfl ?_
          refine st_callVn hc dX6_isQuarrel_27 (C6_bringForward d σ (i := i) (by omega)) mvX6_57 (by omega) rfl rfl rfl (Nat.le_of_ble_eq_true rfl) ?_
          rintro τ1 e1
          subst e1
          refine st_iconst (v := 0) hc dX6_isQuarrel_30 (by decide) ?_
          refine st_zret (st := []) hc dX6_isQuarrel_31 rfl (by simp) ?_
          rw [e]
          exact ⟨rfl, fsI.swap f2 f1 f3 f4 hi, eqX.rf.vu (by decide) (by decide)⟩
  refine st_iconst (v := 0) hc dX6_isQuarrel_0 (by decide) ?_
  refine st_istore_n hc dX6_isQuarrel_1 rfl (by decide) rfl ?_
  exact k2 (fun j hj => absurd hj (Nat.not_lt_zero j))
/-- a least quarrel among the sets below n -/
def lqP (q : Nat → Bool) (n R : Nat) : Prop := (q R = true ∧ R < n ∧ ∀ x, x < n → q x = true → ones R < ones x ∨ (ones R = ones x ∧ R ≤ x)) ∨ ((∀ x, x < n → q x = false) ∧ R = n - 1)
theorem C6_leastQuarrel (d : Nat) (σ : St) {N T L : Nat} {ok : Nat → Bool} {fb : Nat → Nat} (hA : plA σ N ok fb L) (hT : T ≤ 10) (hf : ∀ c, c < N → fb c < 2 ^ T) : Mt YC mX6_leastQuarrel (d + 2) [.ref 8, .ref 7, .int (nI T)] σ (fun r τ => ∃ R, r = some (.int (nI R)) ∧ lqP (qq (knB ok fb N) T L) (2 ^ T) R ∧ eqX 8 10 σ τ) := by
  have hp := pow10 hT
  have hL := hA.2.2.2.1
  have hp0 : 0 < 2 ^ T := Nat.pow_pos (by decide)
  refine Mt.ofA [some (.ref 8), some (.ref 7), some (.int (nI T)), none, none, none] (by decide) (fun _ => Nat.le_of_ble_eq_true rfl) (fun _ => rfl) (fun g hc => ?_)
  have h11 : ∀ x, x < 2 ^ T → x < 2 ^ 11 := fun x hx => by omega
  have k13 : ∀ τ, (eqX 8 10 σ τ ∧ fsI τ T (knB ok fb N) ∧ ∀ x, x < 2 ^ T → ones x < 0 → qq (knB ok fb N) T L x = false) → aW g YC 6 (fun r τ => ∃ R, r = some (.int (nI R)) ∧ lqP (qq (knB ok fb N) T L) (2 ^ T) R ∧ eqX 8 10 σ τ) 13 [some (.ref 8), some (.ref 7), some (.int (nI T)), some (.int (nI (2 ^ T))), some (.int (nI 0)), none] [] τ := by
    refine lpN (n := T + 1) (F := fun z => ∀ τ, (eqX 8 10 σ τ ∧ fsI τ T (knB ok fb N) ∧ ∀ x, x < 2 ^ T → ones x < z → qq (knB ok fb N) T L x = false) → aW g YC 6 (fun r τ => ∃ R, r = some (.int (nI R)) ∧ lqP (qq (knB ok fb N) T L) (2 ^ T) R ∧ eqX 8 10 σ τ) 13 [some (.ref 8), some (.ref 7), some (.int (nI T)), some (.int (nI (2 ^ T))), some (.int (nI z)), none] [] τ) (fun τ h => ?_) (fun z hz ih τ h => ?_)
    · obtain ⟨e1, e2, e3⟩ := h
      have hall : ∀ x, x < 2 ^ T → ones x < T + 1 := fun x hx => by
        unfold ones
        have h0 : cnt 11 (fun k => x.testBit k) = cnt T (fun k => x.testBit k) := by
          obtain ⟨m, hm⟩ : ∃ m, 11 = T + m := ⟨11 - T, by omega⟩
          rw [hm, cnt_add, cnt_zero (p := fun k => x.testBit (T + k)) (fun k _ => Nat.testBit_lt_two_pow (Nat.lt_of_lt_of_le hx (Nat.pow_le_pow_right (by decide) (by omega)))), Nat.add_zero]
        have := cnt_le T (fun k => x.testBit k)
        omega
      refine st_iload hc dX6_leastQuarrel_13 rfl ?_
      refine st_iload_n hc dX6_leastQuarrel_15 rfl rfl ?_
      refine st_icmp_gt (tgt := 66) hc dX6_leastQuarrel_16 (by decide) (fun h16 => ?_) (fun h16 => ?_)
      · refine st_iload_n hc dX6_leastQuarrel_66 rfl rfl ?_
        refine st_iconst (v := 1) hc dX6_leastQuarrel_67 (by decide) ?_
        refine st_isub hc dX6_leastQuarrel_68 ?_
        rw [show (1 : Int32) = nI 1 from rfl, nI_sub (by omega)]
        refine st_iret (st := []) hc dX6_leastQuarrel_69 rfl ?_
        exact ⟨2 ^ T - 1, rfl, Or.inr ⟨fun x hx => e3 x hx (hall x hx), rfl⟩, e1⟩
      · exact absurd ((nI_ltI (by omega) (by omega)).mpr (Nat.lt_succ_self T)) h16
    · have k22 : ∀ τ, (eqX 8 10 σ τ ∧ fsI τ T (knB ok fb N) ∧ ∀ x, x < 2 ^ T → (ones x < z ∨ ones x = z ∧ x < 0) → qq (knB ok fb N) T L x = false) → aW g YC 6 (fun r τ => ∃ R, r = some (.int (nI R)) ∧ lqP (qq (knB ok fb N) T L) (2 ^ T) R ∧ eqX 8 10 σ τ) 22 [some (.ref 8), some (.ref 7), some (.int (nI T)), some (.int (nI (2 ^ T))), some (.int (nI z)), some (.int (nI 0))] [] τ := by
        refine lpN (n := 2 ^ T) (F := fun s => ∀ τ, (eqX 8 10 σ τ ∧ fsI τ T (knB ok fb N) ∧ ∀ x, x < 2 ^ T → (ones x < z ∨ ones x = z ∧ x < s) → qq (knB ok fb N) T L x = false) → aW g YC 6 (fun r τ => ∃ R, r = some (.int (nI R)) ∧ lqP (qq (knB ok fb N) T L) (2 ^ T) R ∧ eqX 8 10 σ τ) 22 [some (.ref 8), some (.ref 7), some (.int (nI T)), some (.int (nI (2 ^ T))), some (.int (nI z)), some (.int (nI s))] [] τ) (fun τ h => ?_) (fun s hs ih2 τ h => ?_)
        · obtain ⟨e1, e2, e3⟩ := h
          refine st_iload hc dX6_leastQuarrel_22 rfl ?_
          refine st_iload_n hc dX6_leastQuarrel_24 rfl rfl ?_
          refine st_icmp_ge (tgt := 60) hc dX6_leastQuarrel_25 (by decide) (fun h25 => ?_) (fun h25 => ?_)
          · refine st_inc hc dX6_leastQuarrel_60 rfl (by decide) rfl ?_
            rw [nI_1]
            refine st_goto (tgt := 13) hc dX6_leastQuarrel_63 (by decide) ?_
            exact st_lvq _ (by simp [lvq, List.set]) (ih τ ⟨e1, e2, fun x hx hz => e3 x hx (by omega)⟩)
          · exact absurd (nI_le (Nat.le_refl _) (by omega)) h25
        · obtain ⟨e1, e2, e3⟩ := h
          have ho := ones_le s
          have hnext : ∀ τ, eqX 8 10 σ τ → fsI τ T (knB ok fb N) → (ones s = z → qq (knB ok fb N) T L s = false) → aW g YC 6 (fun r τ => ∃ R, r = some (.int (nI R)) ∧ lqP (qq (knB ok fb N) T L) (2 ^ T) R ∧ eqX 8 10 σ τ) 22 [some (.ref 8), some (.ref 7), some (.int (nI T)), some (.int (nI (2 ^ T))), some (.int (nI z)), some (.int (nI (s + 1)))] [] τ := fun τ q1 q2 q3 => ih2 τ ⟨q1, q2, fun x hx hxz => by
            by_cases e : x = s
            · subst e
              rcases hxz with q | q
              · exact e3 x hx (Or.inl q)
              · exact q3 q.1
            · exact e3 x hx (by omega)⟩
          refine st_iload hc dX6_leastQuarrel_22 rfl ?_
          refine st_iload_n hc dX6_leastQuarrel_24 rfl rfl ?_
          refine st_icmp_ge (tgt := 60) hc dX6_leastQuarrel_25 (by decide) (fun h25 => ?_) (fun h25 => ?_)
          · exact absurd h25 (nI_ge hs (by omega))
          · refine st_iload hc dX6_leastQuarrel_28 rfl ?_
            refine st_callSp hc dX6_leastQuarrel_30 (CJ_bitCount YC (d + 1) τ s (by omega)) msX6_23 (by omega) rfl rfl (Nat.le_of_ble_eq_true rfl) ?_
            refine st_iload hc dX6_leastQuarrel_33 rfl ?_
            refine st_icmp_ne (tgt := 54) hc dX6_leastQuarrel_35 (by decide) (fun h35 => ?_) (fun h35 => ?_)
            · rw [pc_ones (h11 s hs)] at h35
              have hne : ¬ ones s = z := fun q => h35 (by rw [q])
              refine st_inc hc dX6_leastQuarrel_54 rfl (by decide) rfl ?_
              rw [nI_1]
              refine st_goto (tgt := 22) hc dX6_leastQuarrel_57 (by decide) ?_
              first
               | exact hnext τ e1 e2 (fun q => absurd q hne)
               | exact hnext _ (e1.tr i2) i1 (fun _ => hq0)
            · rw [pc_ones (h11 s hs)] at h35
              have heq : ones s = z := nI_inj (by omega) (by omega) h35
              refine st_aload_n hc dX6_leastQuarrel_38 rfl rfl ?_
              refine st_iload hc dX6_leastQuarrel_39 rfl ?_
              refine st_aload_n hc dX6_leastQuarrel_41 rfl rfl ?_
              refine st_getE hc dX6_leastQuarrel_42 flX6_29 rfl rfl ((by rw [e1 7 (by omega)]; exact hA.2.2.1 : _ = nI L)) ?_
              refine st_callVq hc dX6_leastQuarrel_45 (C6_isQuarrel d τ (s := s) hT e2 hL) mvX6_35 (by omega) rfl rfl rfl (Nat.le_of_ble_eq_true rfl) ?_
              rintro τ1 ⟨i1, i2⟩
              refine st_if_eq (tgt := 54) hc dX6_leastQuarrel_48 (by decide) (fun h48 => ?_) (fun h48 => ?_)
              · have hq0 := bI_0.mp h48
                refine st_inc hc dX6_leastQuarrel_54 rfl (by decide) rfl ?_
                rw [nI_1]
                refine st_goto (tgt := 22) hc dX6_leastQuarrel_57 (by decide) ?_
                first
                 | exact hnext τ e1 e2 (fun q => absurd q hne)
                 | exact hnext _ (e1.tr i2) i1 (fun _ => hq0)
              · refine st_iload hc dX6_leastQuarrel_51 rfl ?_
                refine st_iret (st := []) hc dX6_leastQuarrel_53 rfl ?_
                refine ⟨s, rfl, Or.inl ⟨bI_t h48, hs, fun x hx hqx => ?_⟩, e1.tr i2⟩
                rcases Nat.lt_trichotomy (ones x) z with q | q | q
                · rw [e3 x hx (Or.inl q)] at hqx; exact absurd hqx (by decide)
                · by_cases q2 : x < s
                  · rw [e3 x hx (Or.inr ⟨q, q2⟩)] at hqx; exact absurd hqx (by decide)
                  · exact Or.inr ⟨by omega, by omega⟩
                · exact Or.inl (by omega)
      obtain ⟨e1, e2, e3⟩ := h
      refine st_iload hc dX6_leastQuarrel_13 rfl ?_
      refine st_iload_n hc dX6_leastQuarrel_15 rfl rfl ?_
      refine st_icmp_gt (tgt := 66) hc dX6_leastQuarrel_16 (by decide) (fun h16 => ?_) (fun h16 => ?_)
      · exact absurd ((nI_ltI (by omega) (by omega)).mp h16) (by omega)
      · refine st_iconst (v := 0) hc dX6_leastQuarrel_19 (by decide) ?_
        refine st_istore hc dX6_leastQuarrel_20 (by decide) rfl ?_
        exact k22 τ ⟨e1, e2, fun x hx q => e3 x hx (by omega)⟩
  refine st_aload_n hc dX6_leastQuarrel_0 rfl rfl ?_
  refine st_aload_n hc dX6_leastQuarrel_1 rfl rfl ?_
  refine st_iload_n hc dX6_leastQuarrel_2 rfl rfl ?_
  refine st_callVn hc dX6_leastQuarrel_3 (C6_gather (d + 1) σ hA hT hf) mvX6_19 (by omega) rfl rfl rfl (Nat.le_of_ble_eq_true rfl) ?_
  rintro τ1 ⟨i1, i2⟩
  refine st_iconst (v := 1) hc dX6_leastQuarrel_6 (by decide) ?_
  refine st_iload_n hc dX6_leastQuarrel_7 rfl rfl ?_
  refine st_ishl hc dX6_leastQuarrel_8 ?_
  rw [nI_shl1 (by omega)]
  refine st_istore_n hc dX6_leastQuarrel_9 rfl (by decide) rfl ?_
  refine st_iconst (v := 0) hc dX6_leastQuarrel_10 (by decide) ?_
  refine st_istore hc dX6_leastQuarrel_11 (by decide) rfl ?_
  exact k13 τ1 ⟨i1, i2, fun x hx q => absurd q (Nat.not_lt_zero _)⟩

