/-- the reference with these nodes -/
def ndS (σ : St) (L : List Nd) : St := fun a b => if a = 0 ∧ b = 33 then nI L.length else match L[b]? with
  | some x => if a = 21 then nI x.1 else if a = 22 then x.2.1 else if a = 23 then x.2.2.1 else if a = 24 then nI x.2.2.2.1 else if a = 25 then nI x.2.2.2.2 else σ a b
  | none => σ a b
def nw5 (τ : St) (c : Nat) (x : Nd) : St := up (up (up (up (up τ 21 c (nI x.1)) 22 c x.2.1) 23 c x.2.2.1) 24 c (nI x.2.2.2.1)) 25 c (nI x.2.2.2.2)
theorem nd_o {σ : St} {L : List Nd} {a b : Nat} (h0 : ¬ (a = 0 ∧ b = 33)) (h21 : a ≠ 21) (h22 : a ≠ 22) (h23 : a ≠ 23) (h24 : a ≠ 24) (h25 : a ≠ 25) : ndS σ L a b = σ a b := by
  unfold ndS
  rw [if_neg h0]
  cases L[b]? with
  | none => rfl
  | some x => simp only [h21, h22, h23, h24, h25, if_false]
theorem nd_mid {σ τ : St} {O : List Nd} (h : sE (ndS σ O) τ) (x : Nd) : sE (up (ndS σ (O ++ [x])) 0 33 (nI O.length)) (nw5 τ O.length x) := by
  intro a b hp
  have h0 := h a b hp
  unfold nw5
  simp only [up_eq]
  by_cases hb : b = O.length
  · subst hb
    have e : (O ++ [x])[O.length]? = some x := by simp
    have e2 : O[O.length]? = none := by simp
    unfold ndS at h0 ⊢
    rw [e2] at h0
    rw [e]
    by_cases h25 : a = 25
    · subst h25; simp
    · by_cases h24 : a = 24
      · subst h24; simp
      · by_cases h23 : a = 23
        · subst h23; simp
        · by_cases h22 : a = 22
          · subst h22; simp
          · by_cases h21 : a = 21
            · subst h21; simp
            · simp only [h25, h24, h23, h22, h21, false_and, if_false]
              rw [h0]
              by_cases q : a = 0 ∧ O.length = 33
              · rw [if_pos q, if_pos q]
              · rw [if_neg q, if_neg q, if_neg q]
  · have e : (O ++ [x])[b]? = O[b]? := by
      rcases Nat.lt_or_ge b O.length with z | z
      · exact List.getElem?_append_left z
      · rw [List.getElem?_eq_none (by rw [List.length_append, List.length_singleton]; omega), List.getElem?_eq_none z]
    simp only [hb, and_false, if_false]
    rw [h0]
    unfold ndS
    rw [e]
    by_cases q : a = 0 ∧ b = 33
    · rw [if_pos q, if_pos q]
    · rw [if_neg q, if_neg q, if_neg q]
theorem nd_end {σ τ : St} {L : List Nd} {n : Nat} (h : sE (up (ndS σ L) 0 33 (nI n)) τ) : sE (ndS σ L) (up τ 0 33 (nI L.length)) := by
  intro a b hp
  have h0 := h a b hp
  rw [up_eq] at h0 ⊢
  by_cases q : a = 0 ∧ b = 33
  · rw [if_pos q]; unfold ndS; rw [if_pos q]
  · rw [if_neg q] at h0 ⊢; exact h0
theorem pot_len {t : TD} {w : Nat} (hn : tn t ≤ 10) : ∀ st : List It, (∀ q ∈ st, itOK t w q) → st.length ≤ pot st := by
  intro st
  induction st with
  | nil => intro _; exact Nat.le_refl _
  | cons i r ih =>
    intro h
    have h1 := ih (fun q hq => h q (List.mem_cons_of_mem _ hq))
    have h2 := h i List.mem_cons_self
    have h3 := ones_pos (show ¬ i.1 = 0 by have := h2.1; omega) (Nat.lt_of_lt_of_le h2.2.1 (Nat.pow_le_pow_right (by decide) (by omega)))
    show r.length + 1 ≤ (2 * ones i.1 - 1) + pot r
    omega
theorem T_run {g : Gx} {dd : Nat} {σ : St} {t : TD} {Q : Option Value → St → Prop} {w : Nat} (hc : cX g YM RX12 cX12_tree 13 (some .int) (dd + 1)) (ht : tOK t) (h60 : tfu t < 60) (hP : σ 0 0 = nI (pN σ)) (hP5 : pN σ ≤ 5) (hfu : tfu t = 10 * pN σ) (hN4 : tN2 t ≤ 4096) (hw : w ≤ 10) {x1 x2 x3 x4 : Int32} : ∀ (f : Nat) (st : List It) (O : List Nd) (τ : St), pot st < f → O.length + pot st ≤ 19 → (∀ q ∈ st, itOK t w q ∧ q.2.2.2 ≤ O.length + 1) → TT (ndS σ O) t τ → WS τ st →
    (∀ υ, sE (ndS σ (O ++ runT t w f st O.length)) υ → Q (some (.int (nI (O ++ runT t w f st O.length).length))) υ) →
    aW g YM 13 Q 98 [some (.ref 0), some (.int x1), some (.int x2), some (.int x3), some (.int x4), some (.int (nI w)), some (.int (nI st.length)), none, none, none, none, none, none] [] τ := by
  have hn10 := ht.1
  have h10 : 2 ^ tn t ≤ 1024 := Nat.pow_le_pow_right (by decide) ht.1
  intro f
  induction f with
  | zero => intro st O τ hf; omega
  | succ f ih =>
    intro st O τ hf hO hst hTT hWS hQ
    cases st with
    | nil =>
      have er : runT t w (f + 1) [] O.length = [] := rfl
      rw [er, List.append_nil] at hQ
      have h33 : τ 0 33 = nI O.length := by rw [hTT.1 0 33 rfl]; unfold ndS; rw [if_pos ⟨rfl, rfl⟩]
      refine st_iload hc dX12_tree_98 rfl ?_
      refine st_if_le (tgt := 341) hc dX12_tree_100 (by decide) (fun h100 => ?_) (fun h100 => ?_)
      · refine st_aload_n hc dX12_tree_341 rfl rfl ?_
        refine st_getE hc dX12_tree_342 flX12_186 rfl rfl (h33) ?_
        refine st_iret (st := []) hc dX12_tree_345 rfl ?_
        exact hQ τ hTT.1
      · exact absurd (by decide) h100
    | cons i r =>
      obtain ⟨hi, hdp⟩ := hst i List.mem_cons_self
      obtain ⟨i1, i2, i3, i4, i5, i6⟩ := id hi
      obtain ⟨⟨w1, w2, w3, w4⟩, hWr⟩ := hWS
      obtain ⟨b1, b2, b3⟩ := bg_ok ht i2 i3
      have hpot : pot (i :: r) = (2 * ones i.1 - 1) + pot r := rfl
      have hkp := kdF_pot ht h60 (g := bg t (lev w i.2.2.2) i.1) (s := i.1) (c := O.length) (dp := i.2.2.2) i1 i2 b2
      have hrl := pot_len hn10 r (fun q hq => (hst q (List.mem_cons_of_mem _ hq)).1)
      have hlen : (i :: r).length = r.length + 1 := rfl
      have hlv : lev w i.2.2.2 < 11 := by unfold lev; split; decide; omega
      have hrow : τ 17 (1024 * lev w i.2.2.2 + i.1) = nI (bg t (lev w i.2.2.2) i.1) := by
        obtain ⟨b, hb⟩ := i3
        have := ((hTT.2.2.2 i.1 i1 i2).2 (lev w i.2.2.2) hlv).2 b hb
        rw [this]
        unfold bg
        rw [hb]
      have h33 : τ 0 33 = nI O.length := by rw [hTT.1 0 33 rfl]; unfold ndS; rw [if_pos ⟨rfl, rfl⟩]
      -- behind the pushes
      have k328 : ∀ υ, TT (up (ndS σ (O ++ [ndO t w i])) 0 33 (nI O.length)) t υ → WS υ (kdF t (bg t (lev w i.2.2.2) i.1) i.1 O.length i.2.2.2 60 ++ r) → aW g YM 13 Q 328 [some (.ref 0), some (.int x1), some (.int x2), some (.int x3), some (.int x4), some (.int (nI w)), some (.int (nI (kdF t (bg t (lev w i.2.2.2) i.1) i.1 O.length i.2.2.2 60 ++ r).length)), none, none, none, none, none, none] [] υ := by
        intro υ a1 a2
        have hl1 : (O ++ [ndO t w i]).length = O.length + 1 := by rw [List.length_append, List.length_singleton]
        have hu33 : υ 0 33 = nI O.length := by rw [a1.1 0 33 rfl, up_eq, if_pos ⟨rfl, rfl⟩]
        have er : O ++ runT t w (f + 1) (i :: r) O.length = (O ++ [ndO t w i]) ++ runT t w f (kdF t (bg t (lev w i.2.2.2) i.1) i.1 O.length i.2.2.2 60 ++ r) (O ++ [ndO t w i]).length := by
          rw [hl1, runT, List.append_assoc, List.singleton_append]
        rw [er] at hQ
        have kk := ih (kdF t (bg t (lev w i.2.2.2) i.1) i.1 O.length i.2.2.2 60 ++ r) (O ++ [ndO t w i]) (up υ 0 33 (nI (O ++ [ndO t w i]).length)) (by rw [pot_app]; omega) (by rw [pot_app, hl1]; omega) (fun q hq => by
            rw [hl1]
            rcases List.mem_append.mp hq with z | z
            · refine ⟨kdF_ok ht hw hi (by omega) 60 (Nat.le_refl _) q z, ?_⟩
              have hkd : ∀ j, ∀ q ∈ kdF t (bg t (lev w i.2.2.2) i.1) i.1 O.length i.2.2.2 j, q.2.2.2 = i.2.2.2 + 1 := by
                intro j
                induction j with
                | zero => intro q hq; cases hq
                | succ j ihj =>
                  intro q hq
                  rw [kdF] at hq
                  split at hq
                  · exact ihj q hq
                  · rcases List.mem_cons.mp hq with e | hq
                    · rw [e]
                    · exact ihj q hq
              have := hkd 60 q z
              omega
            · have := hst q (List.mem_cons_of_mem _ z)
              exact ⟨this.1, by omega⟩) ⟨nd_end a1.1, a1.2.1, a1.2.2.1, a1.2.2.2.eq (fun _ _ => rfl) (fun _ _ => rfl) (fun _ _ _ => rfl) (fun _ _ _ => rfl)⟩ (a2.eq (fun _ _ => ⟨rfl, rfl, rfl, rfl⟩)) hQ
        rw [hl1] at kk
        refine st_aload_n hc dX12_tree_328 rfl rfl ?_
        refine st_dup hc dX12_tree_329 rfl ?_
        refine st_getE hc dX12_tree_330 flX12_186 rfl rfl (hu33) ?_
        refine st_iconst (v := 1) hc dX12_tree_333 (by decide) ?_
        refine st_iadd hc dX12_tree_334 ?_
        rw [nI_1]
        refine st_put hc dX12_tree_335 fpX12_186 rfl rfl  ?_
        refine st_goto (tgt := 98) hc dX12_tree_338 (by decide) ?_
        exact kk
      rw [hlen]
      have eidx : ∀ y : Int32, (y = nI (lev w i.2.2.2)) → (1024 : Int32) * y + nI i.1 = nI (1024 * lev w i.2.2.2 + i.1) := fun y hy => by rw [hy, show (1024 : Int32) = nI 1024 from rfl, pk_mul, nI_add]
      have eon : nI (ones i.1) = nI (ones i.1) := rfl
      have hTTm : TT (up (ndS σ (O ++ [ndO t w i])) 0 33 (nI O.length)) t (nw5 τ O.length (ndO t w i)) := ⟨nd_mid hTT.1 _, hTT.2.1, hTT.2.2.1, hTT.2.2.2.eq (fun _ _ => rfl) (fun _ _ => rfl) (fun _ _ _ => rfl) (fun _ _ _ => rfl)⟩
      have hWm : WS (nw5 τ O.length (ndO t w i)) r := hWr.eq (fun _ _ => ⟨rfl, rfl, rfl, rfl⟩)
      refine st_iload hc dX12_tree_98 rfl ?_
      refine st_if_le (tgt := 341) hc dX12_tree_100 (by decide) (fun h100 => ?_) (fun h100 => ?_)
      · exact absurd h100 (nI_nle (by omega) (by omega))
      · refine st_dec hc dX12_tree_103 rfl (by decide) rfl ?_
        rw [nI_pred]
        refine st_aload_n hc dX12_tree_106 rfl rfl ?_
        refine st_getr hc dX12_tree_107 flX12_100 rfl rfl ?_
        refine st_iload hc dX12_tree_110 rfl ?_
        refine st_ialdN (k := r.length) hc dX12_tree_112 rfl (rfl) (by omega) (by first | decide | omega) (w1) ?_
        refine st_istore hc dX12_tree_113 (by decide) rfl ?_
        refine st_aload_n hc dX12_tree_115 rfl rfl ?_
        refine st_getr hc dX12_tree_116 flX12_109 rfl rfl ?_
        refine st_iload hc dX12_tree_119 rfl ?_
        refine st_ialdN (k := r.length) hc dX12_tree_121 rfl (rfl) (by omega) (by first | decide | omega) (w4) ?_
        refine st_istore hc dX12_tree_122 (by decide) rfl ?_
        refine st_aload_n hc dX12_tree_124 rfl rfl ?_
        refine st_getr hc dX12_tree_125 flX12_72 rfl rfl ?_
        refine st_sipush (v := 1024) hc dX12_tree_128 (by decide) ?_
        refine st_iload hc dX12_tree_131 rfl ?_
        refine st_if_ne (tgt := 140) hc dX12_tree_133 (by decide) (fun h133 => ?_) (fun h133 => ?_)
        · have hw0 : ¬ w = 0 := fun q => h133 (by rw [q]; rfl)
          have hdw : i.2.2.2 ≤ w := by rcases i6 with q | q; exact absurd q hw0; exact q
          have ey : nI w - nI i.2.2.2 + 1 = nI (lev w i.2.2.2) := by unfold lev; rw [if_neg hw0, pk_sub hdw, nI_1]
          refine st_iload hc dX12_tree_140 rfl ?_
          refine st_iload hc dX12_tree_142 rfl ?_
          refine st_isub hc dX12_tree_144 ?_
          refine st_iconst (v := 1) hc dX12_tree_145 (by decide) ?_
          refine st_iadd hc dX12_tree_146 ?_
          refine st_imul hc dX12_tree_147 ?_
          refine st_iload hc dX12_tree_148 rfl ?_
          refine st_iadd hc dX12_tree_150 ?_
          refine st_ialdN (k := 1024 * lev w i.2.2.2 + i.1) hc dX12_tree_151 rfl (eidx _ ey) (by omega) (by first | decide | omega) (hrow) ?_
          refine st_istore hc dX12_tree_152 (by decide) rfl ?_
          refine st_aload_n hc dX12_tree_154 rfl rfl ?_
          refine st_getr hc dX12_tree_155 flX12_85 rfl rfl ?_
          refine st_aload_n hc dX12_tree_158 rfl rfl ?_
          refine st_getE hc dX12_tree_159 flX12_186 rfl rfl rfl ?_
          refine st_iload hc dX12_tree_162 rfl ?_
          refine st_iastN (k := O.length) hc dX12_tree_164 rfl (h33) (by omega) (by first | decide | omega)  ?_
          refine st_aload_n hc dX12_tree_165 rfl rfl ?_
          refine st_getr hc dX12_tree_166 flX12_88 rfl rfl ?_
          refine st_aload_n hc dX12_tree_169 rfl rfl ?_
          refine st_getE hc dX12_tree_170 flX12_186 rfl rfl rfl ?_
          refine st_aload_n hc dX12_tree_173 rfl rfl ?_
          refine st_getr hc dX12_tree_174 flX12_103 rfl rfl ?_
          refine st_iload hc dX12_tree_177 rfl ?_
          refine st_ialdN (k := r.length) hc dX12_tree_179 rfl (rfl) (by omega) (by first | decide | omega) (w2) ?_
          refine st_iastN (k := O.length) hc dX12_tree_180 rfl (h33) (by omega) (by first | decide | omega)  ?_
          refine st_aload_n hc dX12_tree_181 rfl rfl ?_
          refine st_getr hc dX12_tree_182 flX12_91 rfl rfl ?_
          refine st_aload_n hc dX12_tree_185 rfl rfl ?_
          refine st_getE hc dX12_tree_186 flX12_186 rfl rfl rfl ?_
          refine st_aload_n hc dX12_tree_189 rfl rfl ?_
          refine st_getr hc dX12_tree_190 flX12_106 rfl rfl ?_
          refine st_iload hc dX12_tree_193 rfl ?_
          refine st_ialdN (k := r.length) hc dX12_tree_195 rfl (rfl) (by omega) (by first | decide | omega) (w3) ?_
          refine st_iastN (k := O.length) hc dX12_tree_196 rfl (h33) (by omega) (by first | decide | omega)  ?_
          refine st_aload_n hc dX12_tree_197 rfl rfl ?_
          refine st_getr hc dX12_tree_198 flX12_94 rfl rfl ?_
          refine st_aload_n hc dX12_tree_201 rfl rfl ?_
          refine st_getE hc dX12_tree_202 flX12_186 rfl rfl rfl ?_
          refine st_iload hc dX12_tree_205 rfl ?_
          refine st_callSp hc dX12_tree_207 (C12_ones 0 _ i.1 (by omega)) msX12_177 (by omega) rfl rfl (Nat.le_of_ble_eq_true rfl) ?_
          refine st_iastN (k := O.length) hc dX12_tree_210 rfl (h33) (by omega) (by first | decide | omega)  ?_
          refine st_aload_n hc dX12_tree_211 rfl rfl ?_
          refine st_getr hc dX12_tree_212 flX12_97 rfl rfl ?_
          refine st_aload_n hc dX12_tree_215 rfl rfl ?_
          refine st_getE hc dX12_tree_216 flX12_186 rfl rfl rfl ?_
          refine st_iload hc dX12_tree_219 rfl ?_
          refine st_iastN (k := O.length) hc dX12_tree_221 rfl (h33) (by omega) (by first | decide | omega)  ?_
          refine st_aload_n hc dX12_tree_222 rfl rfl ?_
          refine st_iload hc dX12_tree_223 rfl ?_
          refine st_iload hc dX12_tree_225 rfl ?_
          refine st_callV hc dX12_tree_227 (C12_split 0 (nw5 τ O.length (ndO t w i)) (n := tn t) (gg := bg t (lev w i.2.2.2) i.1) (s := i.1) (P := pN σ) (A := tA t (bg t (lev w i.2.2.2) i.1)) hTT.2.1 hn10 (((hTT.1 0 0 rfl).trans (nd_o (by decide) (by decide) (by decide) (by decide) (by decide) (by decide))).trans hP) hP5 (by omega) (by omega) (fun k hk => ⟨hTT.2.2.1 _ b1 k hk, ht.2.2 _ k hk⟩)) mvX12_245 (by omega) rfl rfl rfl (Nat.le_of_ble_eq_true rfl) ?_
          rintro rr υ ⟨M, pa, w19, w20, rfl, hPI, rfl⟩
          rw [← hfu] at hPI
          simp only [Option.toList_some, List.cons_append, List.nil_append]
          refine st_istore hc dX12_tree_230 (by decide) rfl ?_
          refine st_bipush (v := 59) hc dX12_tree_232 (by decide) ?_
          refine st_istore hc dX12_tree_234 (by decide) rfl ?_
          refine st_lvq _ (by simp [lvq, List.set]; rfl) (T_push (B := up (ndS σ (O ++ [ndO t w i])) 0 33 (nI O.length)) (x9 := nI (bg t (lev w i.2.2.2) i.1)) (x10 := nI (M + if anyN (tn t) (mem i.1 (tA t (bg t (lev w i.2.2.2) i.1)) (10 * pN σ)) = true then 1 else 0)) hc hPI hn10 (by omega) (by omega) (by omega) (by rw [up_eq, if_pos ⟨rfl, rfl⟩]) k328 (spS (nw5 τ O.length (ndO t w i)) M w19 w20) ⟨?_, hTTm.2.1, hTTm.2.2.1, hTTm.2.2.2.eq (fun _ _ => rfl) (fun _ _ => rfl) (fun _ _ _ => rfl) (fun _ _ _ => rfl)⟩ (hWm.eq (fun _ _ => ⟨rfl, rfl, rfl, rfl⟩)) rfl rfl rfl)
          have h32 : sE (up (ndS σ (O ++ [ndO t w i])) 0 33 (nI O.length)) (up (nw5 τ O.length (ndO t w i)) 0 32 (nI M)) := fun a b hp => by
            rw [up_eq _ 0 32, if_neg (by rintro ⟨rfl, rfl⟩; simp [perM] at hp)]
            exact hTTm.1 a b hp
          exact (h32.v rfl (by decide) w19).v rfl (by decide) w20
        · have hw0 : w = 0 := nI_inj (b := 0) (by omega) (by decide) h133
          have ey : (0 : Int32) = nI (lev w i.2.2.2) := by unfold lev; rw [if_pos hw0]; rfl
          refine st_iconst (v := 0) hc dX12_tree_136 (by decide) ?_
          refine st_goto (tgt := 147) hc dX12_tree_137 (by decide) ?_
          refine st_imul hc dX12_tree_147 ?_
          refine st_iload hc dX12_tree_148 rfl ?_
          refine st_iadd hc dX12_tree_150 ?_
          refine st_ialdN (k := 1024 * lev w i.2.2.2 + i.1) hc dX12_tree_151 rfl (eidx _ ey) (by omega) (by first | decide | omega) (hrow) ?_
          refine st_istore hc dX12_tree_152 (by decide) rfl ?_
          refine st_aload_n hc dX12_tree_154 rfl rfl ?_
          refine st_getr hc dX12_tree_155 flX12_85 rfl rfl ?_
          refine st_aload_n hc dX12_tree_158 rfl rfl ?_
          refine st_getE hc dX12_tree_159 flX12_186 rfl rfl rfl ?_
          refine st_iload hc dX12_tree_162 rfl ?_
          refine st_iastN (k := O.length) hc dX12_tree_164 rfl (h33) (by omega) (by first | decide | omega)  ?_
          refine st_aload_n hc dX12_tree_165 rfl rfl ?_
          refine st_getr hc dX12_tree_166 flX12_88 rfl rfl ?_
          refine st_aload_n hc dX12_tree_169 rfl rfl ?_
          refine st_getE hc dX12_tree_170 flX12_186 rfl rfl rfl ?_
          refine st_aload_n hc dX12_tree_173 rfl rfl ?_
          refine st_getr hc dX12_tree_174 flX12_103 rfl rfl ?_
          refine st_iload hc dX12_tree_177 rfl ?_
          refine st_ialdN (k := r.length) hc dX12_tree_179 rfl (rfl) (by omega) (by first | decide | omega) (w2) ?_
          refine st_iastN (k := O.length) hc dX12_tree_180 rfl (h33) (by omega) (by first | decide | omega)  ?_
          refine st_aload_n hc dX12_tree_181 rfl rfl ?_
          refine st_getr hc dX12_tree_182 flX12_91 rfl rfl ?_
          refine st_aload_n hc dX12_tree_185 rfl rfl ?_
          refine st_getE hc dX12_tree_186 flX12_186 rfl rfl rfl ?_
          refine st_aload_n hc dX12_tree_189 rfl rfl ?_
          refine st_getr hc dX12_tree_190 flX12_106 rfl rfl ?_
          refine st_iload hc dX12_tree_193 rfl ?_
          refine st_ialdN (k := r.length) hc dX12_tree_195 rfl (rfl) (by omega) (by first | decide | omega) (w3) ?_
          refine st_iastN (k := O.length) hc dX12_tree_196 rfl (h33) (by omega) (by first | decide | omega)  ?_
          refine st_aload_n hc dX12_tree_197 rfl rfl ?_
          refine st_getr hc dX12_tree_198 flX12_94 rfl rfl ?_
          refine st_aload_n hc dX12_tree_201 rfl rfl ?_
          refine st_getE hc dX12_tree_202 flX12_186 rfl rfl rfl ?_
          refine st_iload hc dX12_tree_205 rfl ?_
          refine st_callSp hc dX12_tree_207 (C12_ones 0 _ i.1 (by omega)) msX12_177 (by omega) rfl rfl (Nat.le_of_ble_eq_true rfl) ?_
          refine st_iastN (k := O.length) hc dX12_tree_210 rfl (h33) (by omega) (by first | decide | omega)  ?_
          refine st_aload_n hc dX12_tree_211 rfl rfl ?_
          refine st_getr hc dX12_tree_212 flX12_97 rfl rfl ?_
          refine st_aload_n hc dX12_tree_215 rfl rfl ?_
          refine st_getE hc dX12_tree_216 flX12_186 rfl rfl rfl ?_
          refine st_iload hc dX12_tree_219 rfl ?_
          refine st_iastN (k := O.length) hc dX12_tree_221 rfl (h33) (by omega) (by first | decide | omega)  ?_
          refine st_aload_n hc dX12_tree_222 rfl rfl ?_
          refine st_iload hc dX12_tree_223 rfl ?_
          refine st_iload hc dX12_tree_225 rfl ?_
          refine st_callV hc dX12_tree_227 (C12_split 0 (nw5 τ O.length (ndO t w i)) (n := tn t) (gg := bg t (lev w i.2.2.2) i.1) (s := i.1) (P := pN σ) (A := tA t (bg t (lev w i.2.2.2) i.1)) hTT.2.1 hn10 (((hTT.1 0 0 rfl).trans (nd_o (by decide) (by decide) (by decide) (by decide) (by decide) (by decide))).trans hP) hP5 (by omega) (by omega) (fun k hk => ⟨hTT.2.2.1 _ b1 k hk, ht.2.2 _ k hk⟩)) mvX12_245 (by omega) rfl rfl rfl (Nat.le_of_ble_eq_true rfl) ?_
          rintro rr υ ⟨M, pa, w19, w20, rfl, hPI, rfl⟩
          rw [← hfu] at hPI
          simp only [Option.toList_some, List.cons_append, List.nil_append]
          refine st_istore hc dX12_tree_230 (by decide) rfl ?_
          refine st_bipush (v := 59) hc dX12_tree_232 (by decide) ?_
          refine st_istore hc dX12_tree_234 (by decide) rfl ?_
          refine st_lvq _ (by simp [lvq, List.set]; rfl) (T_push (B := up (ndS σ (O ++ [ndO t w i])) 0 33 (nI O.length)) (x9 := nI (bg t (lev w i.2.2.2) i.1)) (x10 := nI (M + if anyN (tn t) (mem i.1 (tA t (bg t (lev w i.2.2.2) i.1)) (10 * pN σ)) = true then 1 else 0)) hc hPI hn10 (by omega) (by omega) (by omega) (by rw [up_eq, if_pos ⟨rfl, rfl⟩]) k328 (spS (nw5 τ O.length (ndO t w i)) M w19 w20) ⟨?_, hTTm.2.1, hTTm.2.2.1, hTTm.2.2.2.eq (fun _ _ => rfl) (fun _ _ => rfl) (fun _ _ _ => rfl) (fun _ _ _ => rfl)⟩ (hWm.eq (fun _ _ => ⟨rfl, rfl, rfl, rfl⟩)) rfl rfl rfl)
          have h32 : sE (up (ndS σ (O ++ [ndO t w i])) 0 33 (nI O.length)) (up (nw5 τ O.length (ndO t w i)) 0 32 (nI M)) := fun a b hp => by
            rw [up_eq _ 0 32, if_neg (by rintro ⟨rfl, rfl⟩; simp [perM] at hp)]
            exact hTTm.1 a b hp
          exact (h32.v rfl (by decide) w19).v rfl (by decide) w20
def nodesL (σ : St) (p x : Int32) : List Nd := runT (tdP (t0 σ) p) (rD x) 20 [(2 ^ lm (t0 σ) - 1, -1, -1, 1)] 0
def sp_tree (σ : St) (p x : Int32) : Int32 × St :=
  if askT (t0 σ) p x = 0 then (match msA σ p x with | none => (-7, t0 σ) | some _ => (nI (nodesL σ p x).length, ndS (t0 σ) (nodesL σ p x))) else (askT (t0 σ) p x, t0 σ)
theorem ones_all {n : Nat} (h : n ≤ 10) : ones (2 ^ n - 1) = n := by
  have : ∀ n, n < 11 → ones (2 ^ n - 1) = n := by decide +kernel
  exact this n (by omega)
theorem C12_tree (σ : St) (hm : MI σ) (p x : Int32) : Mt YM mX12_tree 9 [.ref 0, .int p, .int x] σ (fun r τ => r = some (.int (sp_tree σ p x).1) ∧ sE (sp_tree σ p x).2 τ) := by
  have hm1 : mOK (t0 σ) (pN (t0 σ)) (cN (t0 σ)) (nN (t0 σ)) (tN (t0 σ)) (liN (t0 σ)) := hm.1
  obtain ⟨⟨hP, hC, hP1, hP5, hC1, hC8⟩, h2N, h3, h4, -⟩ := id hm1
  refine Mt.ofA [some (.ref 0), some (.int p), some (.int x), none, none, none, none, none, none, none, none, none, none] (by decide) (fun _ => Nat.le_of_ble_eq_true rfl) (fun _ => rfl) (fun g hc => ?_)
  unfold sp_tree
  refine st_aload_n hc dX12_tree_0 rfl rfl ?_
  refine st_iconst (v := 0) hc dX12_tree_1 (by decide) ?_
  refine st_put hc dX12_tree_2 fpX12_139 rfl rfl  ?_
  refine st_aload_n hc dX12_tree_5 rfl rfl ?_
  refine st_iload_n hc dX12_tree_6 rfl rfl ?_
  refine st_iload_n hc dX12_tree_7 rfl rfl ?_
  refine st_callVq hc dX12_tree_8 (C12_asked 0 (t0 σ) hm1 p x) mvX12_254 (by omega) rfl rfl rfl (Nat.le_of_ble_eq_true rfl) ?_
  intro τ hτ
  refine st_istore_n hc dX12_tree_11 rfl (by decide) rfl ?_
  refine st_iload_n hc dX12_tree_12 rfl rfl ?_
  refine st_if_eq (tgt := 18) hc dX12_tree_13 (by decide) (fun h13 => ?_) (fun h13 => ?_)
  · obtain ⟨hx, hrf⟩ := askT_0 h13
    obtain ⟨hpp, -, hl1, hl10, hN⟩ := rfT_0 hrf
    obtain ⟨F, w, hF, rfl⟩ : ∃ F w, (∀ k, k < lm (t0 σ) → F k = nI (lth (t0 σ) k)) ∧ τ = lkS (t0 σ) (lm (t0 σ)) F w := hτ.elim (fun q => absurd h13 q.2) id
    have h1024 : 2 ^ lm (t0 σ) ≤ 1024 := Nat.pow_le_pow_right (by decide) hl10
    have h2 : 2 ≤ 2 ^ lm (t0 σ) := Nat.le_trans (by decide) (Nat.pow_le_pow_right (by decide) hl1)
    obtain ⟨er, hr11⟩ := rowD_n hx.1
    have ht := tdM_ok hm1 hl10 (decide (p = 1))
    rw [if_pos h13]
    refine st_aload_n hc dX12_tree_18 rfl rfl ?_
    refine st_iload_n hc dX12_tree_19 rfl rfl ?_
    refine st_callVn hc dX12_tree_20 (C12_treesP 3 (t0 σ) hm1 hl10 F w hF hpp) mvX12_251 (by omega) rfl rfl rfl (Nat.le_of_ble_eq_true rfl) ?_
    rintro τ ⟨hTI, hTB⟩
    have hrow := hTB (2 ^ lm (t0 σ) - 1) (by omega) (by omega)
    refine st_iconst (v := 1) hc dX12_tree_23 (by decide) ?_
    refine st_aload_n hc dX12_tree_24 rfl rfl ?_
    refine st_getE hc dX12_tree_25 flX12_164 rfl rfl (show _ = nI (lm (t0 σ)) from hTI.2.1) ?_
    refine st_ishl hc dX12_tree_28 ?_
    refine st_iconst (v := 1) hc dX12_tree_29 (by decide) ?_
    refine st_isub hc dX12_tree_30 ?_
    rw [all_set hl10]
    refine st_istore hc dX12_tree_31 (by decide) rfl ?_
    refine st_iload_n hc dX12_tree_33 rfl rfl ?_
    refine st_callSp hc dX12_tree_34 (C12_row 0 τ x) msX12_257 (by omega) rfl rfl (Nat.le_of_ble_eq_true rfl) ?_
    refine st_istore hc dX12_tree_37 (by decide) rfl ?_
    refine st_aload_n hc dX12_tree_39 rfl rfl ?_
    refine st_getr hc dX12_tree_40 flX12_69 rfl rfl ?_
    refine st_sipush (v := 1024) hc dX12_tree_43 (by decide) ?_
    refine st_iload hc dX12_tree_46 rfl ?_
    refine st_imul hc dX12_tree_48 ?_
    refine st_iload hc dX12_tree_49 rfl ?_
    refine st_iadd hc dX12_tree_51 ?_
    refine st_ialdN (k := 1024 * rD x + (2 ^ lm (t0 σ) - 1)) hc dX12_tree_52 rfl (by rw [er, show (1024 : Int32) = nI 1024 from rfl, pk_mul, nI_add]) (by omega) (by first | decide | omega) ((hrow.2 (rD x) hr11).1) ?_
    refine st_ldc hc dX12_tree_53 kcX12_227 ?_
    refine st_icmp_lt (tgt := 61) hc dX12_tree_55 (by decide) (fun h55 => ?_) (fun h55 => ?_)
    · obtain ⟨b, hb⟩ := (enc_lt ht (show 2 ^ lm (t0 σ) - 1 < 2 ^ lm (t0 σ) by omega)).mp h55
      have eb : msA σ p x = some b := hb
      rw [eb, er]
      refine st_aload_n hc dX12_tree_61 rfl rfl ?_
      refine st_iconst (v := 0) hc dX12_tree_62 (by decide) ?_
      refine st_put hc dX12_tree_63 fpX12_186 rfl rfl  ?_
      refine st_iconst (v := 1) hc dX12_tree_66 (by decide) ?_
      refine st_istore hc dX12_tree_67 (by decide) rfl ?_
      refine st_aload_n hc dX12_tree_69 rfl rfl ?_
      refine st_getr hc dX12_tree_70 flX12_100 rfl rfl ?_
      refine st_iconst (v := 0) hc dX12_tree_73 (by decide) ?_
      refine st_iload hc dX12_tree_74 rfl ?_
      refine st_iastN (k := 0) hc dX12_tree_76 rfl (rfl) (by omega) (by first | decide | omega)  ?_
      refine st_aload_n hc dX12_tree_77 rfl rfl ?_
      refine st_getr hc dX12_tree_78 flX12_103 rfl rfl ?_
      refine st_iconst (v := 0) hc dX12_tree_81 (by decide) ?_
      refine st_iconst (v := (-1)) hc dX12_tree_82 (by decide) ?_
      refine st_iastN (k := 0) hc dX12_tree_83 rfl (rfl) (by omega) (by first | decide | omega)  ?_
      refine st_aload_n hc dX12_tree_84 rfl rfl ?_
      refine st_getr hc dX12_tree_85 flX12_106 rfl rfl ?_
      refine st_iconst (v := 0) hc dX12_tree_88 (by decide) ?_
      refine st_iconst (v := (-1)) hc dX12_tree_89 (by decide) ?_
      refine st_iastN (k := 0) hc dX12_tree_90 rfl (rfl) (by omega) (by first | decide | omega)  ?_
      refine st_aload_n hc dX12_tree_91 rfl rfl ?_
      refine st_getr hc dX12_tree_92 flX12_109 rfl rfl ?_
      refine st_iconst (v := 0) hc dX12_tree_95 (by decide) ?_
      refine st_iconst (v := 1) hc dX12_tree_96 (by decide) ?_
      refine st_iastN (k := 0) hc dX12_tree_97 rfl (rfl) (by omega) (by first | decide | omega)  ?_
      have hlev : lev (rD x) 1 = rD x := by unfold lev; split; omega; omega
      have hE0 : sE (ndS (t0 σ) []) (up (up (up (up (up τ 0 33 0) 26 0 (nI (2 ^ lm (t0 σ) - 1))) 27 0 (-1)) 28 0 (-1)) 29 0 1) := by
        have e1 : sE (ndS (t0 σ) []) (up τ 0 33 0) := fun a b hp => by
          have h0 := hTI.1 a b hp
          rw [up_eq]
          unfold ndS
          by_cases q : a = 0 ∧ b = 33
          · rw [if_pos q, if_pos q]; rfl
          · rw [if_neg q, if_neg q]; exact h0
        exact (((e1.v (k := 26) rfl (by decide) _).v (k := 27) rfl (by decide) _).v (k := 28) rfl (by decide) _).v (k := 29) rfl (by decide) _
      have hon := ones_all hl10
      have hpot : pot [((2 ^ lm (t0 σ) - 1, -1, -1, 1) : It)] = 2 * lm (t0 σ) - 1 + 0 := by show (2 * ones (2 ^ lm (t0 σ) - 1) - 1) + 0 = _; rw [hon]
      refine st_lvq _ (by simp [lvq, List.set]; exact ⟨h13, rfl⟩) (T_run (σ := t0 σ) (t := tdP (t0 σ) p) (w := rD x) (x1 := p) (x2 := x) (x3 := 0) (x4 := nI (2 ^ lm (t0 σ) - 1)) hc ht (show 10 * pN (t0 σ) < 60 by omega) hP hP5 rfl h4 (by omega) 20 [(2 ^ lm (t0 σ) - 1, -1, -1, 1)] [] _ (by rw [hpot]; omega) (by rw [hpot]; show 0 + _ ≤ 19; omega) (fun q hq => ?_) ⟨hE0, hTI.2.1, hTI.2.2.2, hTB.eq (fun _ _ => rfl) (fun _ _ => rfl) (fun _ _ _ => rfl) (fun _ _ _ => rfl)⟩ ⟨⟨?_, ?_, ?_, ?_⟩, trivial⟩ (fun υ hυ => ⟨rfl, hυ⟩))
      · rcases List.mem_singleton.mp hq with rfl
        refine ⟨⟨show 0 < 2 ^ lm (t0 σ) - 1 by omega, show 2 ^ lm (t0 σ) - 1 < 2 ^ lm (t0 σ) by omega, ⟨b, ?_⟩, Nat.le_refl _, show (1 : Nat) ≤ 30 by decide, ?_⟩, Nat.le_refl _⟩
        · show ms (tdP (t0 σ) p) (lev (rD x) 1) _ = some b
          rw [hlev]; exact hb
        · rcases Nat.eq_zero_or_pos (rD x) with q | q
          · exact Or.inl q
          · exact Or.inr q
      · simp (decide := true) only [up_eq, false_and, true_and, if_false, if_true, and_self]
      · simp (decide := true) only [up_eq, false_and, true_and, if_false, if_true, and_self]
      · simp (decide := true) only [up_eq, false_and, true_and, if_false, if_true, and_self]
      · simp (decide := true) only [up_eq, false_and, true_and, if_false, if_true, and_self]
    · have eb : msA σ p x = none := by
        cases hb : msA σ p x with
        | none => rfl
        | some b => exact absurd ((enc_lt ht (show 2 ^ lm (t0 σ) - 1 < 2 ^ lm (t0 σ) by omega)).mpr ⟨b, hb⟩) h55
      refine st_bipush (v := (-7)) hc dX12_tree_58 (by decide) ?_
      refine st_iret (st := []) hc dX12_tree_60 rfl ?_
      rw [eb]; exact ⟨rfl, hTI.1⟩
  · have hE : sE (t0 σ) τ := by
      rcases hτ with q | ⟨F, w, -, rfl⟩
      · exact q.1
      · exact sE.lk _ _ _ _
    refine st_iload_n hc dX12_tree_16 rfl rfl ?_
    refine st_iret (st := []) hc dX12_tree_17 rfl ?_
    rw [if_neg h13]; exact ⟨rfl, hE⟩

