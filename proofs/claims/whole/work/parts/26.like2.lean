abbrev imgL (P C p q c : Nat) : Nat := imgN P C (lat (ordL P p)) (lat (ordL C q)) c
def badL (σ : St) (p q : Nat) : Nat → Bool := fun k => !mLs σ (imgL (pN σ) (cN σ) p q (lth σ k))
def goodL (σ : St) (a b p q : Nat) : Bool := (imgL (pN σ) (cN σ) p q a == b) && !anyN (lm σ) (badL σ p q)
def likeB (σ : St) (a b : Nat) : Bool := anyN (fct (pN σ)) (fun p => anyN (fct (cN σ)) (goodL σ a b p))
def sp_like (σ : St) (a b : Int32) : Int32 × St :=
  (if ¬ ((0 ≤ a ∧ nat a < nN σ) ∧ (0 ≤ b ∧ nat b < nN σ)) then -1 else if 4 < pN σ ∨ 5 < cN σ then -5 else bI (likeB σ (nat a) (nat b)), t0 σ)
/-- the reference's store while it looks for what is alike -/
def LI (σ τ : St) : Prop := sE (t0 σ) τ ∧ τ 0 18 = nI (lm σ) ∧ (∀ k, k < lm σ → τ 7 k = nI (lth σ k)) ∧ ∀ c, c < nN σ → τ 13 c = bI (mLs σ c)
theorem LI.v {σ τ : St} (h : LI σ τ) {k : Nat} (hk : perM k 0 = false) (h0 : k ≠ 0) (h7 : k ≠ 7) (h13 : k ≠ 13) (w : Nat → Int32) : LI σ (va_up τ k w) := by
  obtain ⟨h1, h2, h3, h4⟩ := h
  refine ⟨h1.v hk h0 w, ?_, ?_, ?_⟩
  · rw [vu_n (fun q => h0 q.symm)]; exact h2
  · intro j hj; rw [vu_n (fun q => h7 q.symm)]; exact h3 j hj
  · intro j hj; rw [vu_n (fun q => h13 q.symm)]; exact h4 j hj
theorem sE.pc {σ τ : St} (h : sE σ τ) {P C : Nat} (hm : mPC σ P C) : mPC τ P C := by
  obtain ⟨h1, h2, h3⟩ := hm
  exact ⟨(h 0 0 rfl).trans h1, (h 0 1 rfl).trans h2, h3⟩
theorem sE.ok {σ τ : St} (h : sE σ τ) {P C N T L : Nat} (hm : mOK σ P C N T L) : mOK τ P C N T L := by
  obtain ⟨h1, h2, h3, h4, h5, h6, h7, h8, h9⟩ := hm
  exact ⟨h.pc h1, (h 0 2 rfl).trans h2, h3, h4, (h 0 9 rfl).trans h5, h6, (h 0 5 rfl).trans h7, h8, fun c hc => by rw [h 1 c rfl]; exact h9 c hc⟩
theorem sE.mLe {σ τ : St} (h : sE σ τ) (P C T L : Nat) : mL τ P C T L = mL σ P C T L := by
  show isL P C (τ 0 3) (τ 0 4) (τ 1) (τ 3) (τ 4) T L = isL P C (σ 0 3) (σ 0 4) (σ 1) (σ 3) (σ 4) T L
  rw [h 0 3 rfl, h 0 4 rfl, h.c 1 (by decide) rfl, h.c 3 (by decide) rfl, h.c 4 (by decide) rfl]
theorem rowOf_at {l : List Nat} {m : Nat} (hl : l.length = m) (f : Nat → Int32) : ∀ i, i < m → rowOf l f i = nI (lat l i) := fun i hi => by
  unfold rowOf
  rw [if_pos (by omega)]
theorem W12_like {g : Gx} {σ : St} {Q : Option Value → St → Prop} {a b : Nat} (hc : cX g YM RX12 cX12_like 9 (some .int) 9) (hm : mOK σ (pN σ) (cN σ) (nN σ) (tN σ) (liN σ)) (hP4 : pN σ ≤ 4) (hC5 : cN σ ≤ 5) (ha : a < nN σ) (hb : b < nN σ) (hQ : ∀ τ, sE (t0 σ) τ → Q (some (.int (bI (likeB σ a b)))) τ) : ∀ τ, LI σ τ → aW g YM 9 Q 129 [some (.ref 0), some (.int (nI a)), some (.int (nI b)), some (.int (nI (fct (pN σ)))), some (.int (nI (fct (cN σ)))), some (.int (nI 0)), none, none, none] [] τ := by
  obtain ⟨hpc, h2, h3, h4, hT, hT2, hLi, hL2, hls⟩ := id hm
  obtain ⟨hP, hC, hP1, hP5, hC1, hC8⟩ := id hpc
  have hlm : lm σ ≤ 4096 := Nat.le_trans (cnt_le _ _) h4
  have hfP : fct (pN σ) ≤ 120 := (show ∀ r, r < 6 → fct r ≤ 120 by decide) _ (by omega)
  have hfC : fct (cN σ) ≤ 120 := (show ∀ r, r < 6 → fct r ≤ 120 by decide) _ (by omega)
  -- the images are codes
  have himg : ∀ q c, q < fct (cN σ) → ∀ p, imgL (pN σ) (cN σ) p q c < nN σ := by
    intro q c hq p
    obtain ⟨-, -, o3, -⟩ := ord_fin (cN σ) (by omega) q hq
    rw [h3]
    exact hN_lt _ (fun j _ => mkN_lt hC1 o3 _ _ _)
  refine lpN (n := fct (pN σ)) (F := fun p => anyN p (fun p => anyN (fct (cN σ)) (goodL σ a b p)) = false → ∀ τ, LI σ τ → aW g YM 9 Q 129 [some (.ref 0), some (.int (nI a)), some (.int (nI b)), some (.int (nI (fct (pN σ)))), some (.int (nI (fct (cN σ)))), some (.int (nI p)), none, none, none] [] τ) ?_ (fun p hp ihp => ?_) rfl
  · intro hno τ hτ
    have e : likeB σ a b = false := hno
    rw [e] at hQ
    refine st_iload hc dX12_like_129 rfl ?_
    refine st_iload_n hc dX12_like_131 rfl rfl ?_
    refine st_icmp_ge (tgt := 246) hc dX12_like_132 (by decide) (fun h132 => ?_) (fun h132 => ?_)
    · refine st_iconst (v := 0) hc dX12_like_246 (by decide) ?_
      refine st_iret (st := []) hc dX12_like_247 rfl ?_
      exact hQ τ hτ.1
    · exact absurd (nI_le (Nat.le_refl _) (by omega)) h132
  · intro hno τ hτ
    obtain ⟨-, p2, p3, p4⟩ := ord_fin (pN σ) (by omega) p hp
    have k151 : ∀ υ, LI σ υ → (∀ i, i < pN σ → υ 10 i = nI (lat (ordL (pN σ) p) i)) → aW g YM 9 Q 151 [some (.ref 0), some (.int (nI a)), some (.int (nI b)), some (.int (nI (fct (pN σ)))), some (.int (nI (fct (cN σ)))), some (.int (nI p)), some (.int (nI 0)), none, none] [] υ := by
      refine lpN (n := fct (cN σ)) (F := fun q => anyN q (goodL σ a b p) = false → ∀ υ, LI σ υ → (∀ i, i < pN σ → υ 10 i = nI (lat (ordL (pN σ) p) i)) → aW g YM 9 Q 151 [some (.ref 0), some (.int (nI a)), some (.int (nI b)), some (.int (nI (fct (pN σ)))), some (.int (nI (fct (cN σ)))), some (.int (nI p)), some (.int (nI q)), none, none] [] υ) ?_ (fun q hq ihq => ?_) rfl
      · intro hnq υ hυ h10
        refine st_iload hc dX12_like_151 rfl ?_
        refine st_iload hc dX12_like_153 rfl ?_
        refine st_icmp_ge (tgt := 240) hc dX12_like_155 (by decide) (fun h155 => ?_) (fun h155 => ?_)
        · refine st_inc hc dX12_like_240 rfl (by decide) rfl ?_
          rw [nI_1]
          refine st_goto (tgt := 129) hc dX12_like_243 (by decide) ?_
          exact st_lvq _ (by simp [lvq, List.set]) (ihp (by rw [anyN_s, hno, hnq]; rfl) υ hυ)
        · exact absurd (nI_le (Nat.le_refl _) (by omega)) h155
      · intro hnq υ hυ h10
        obtain ⟨-, q2, q3, q4⟩ := ord_fin (cN σ) (by omega) q hq
        -- next q
        have knext : goodL σ a b p q = false → ∀ υ, LI σ υ → (∀ i, i < pN σ → υ 10 i = nI (lat (ordL (pN σ) p) i)) → aW g YM 9 Q 234 [some (.ref 0), some (.int (nI a)), some (.int (nI b)), some (.int (nI (fct (pN σ)))), some (.int (nI (fct (cN σ)))), some (.int (nI p)), some (.int (nI q)), none, none] [] υ := by
          intro hg υ hυ h10
          refine st_inc hc dX12_like_234 rfl (by decide) rfl ?_
          rw [nI_1]
          refine st_goto (tgt := 151) hc dX12_like_237 (by decide) ?_
          exact ihq (by rw [anyN_s, hnq, hg]; rfl) υ hυ h10
        have k189 : ∀ υ, LI σ υ → (∀ i, i < pN σ → υ 10 i = nI (lat (ordL (pN σ) p) i)) → (∀ c, c < cN σ → υ 11 c = nI (lat (ordL (cN σ) q) c)) → imgL (pN σ) (cN σ) p q a = b → aW g YM 9 Q 189 [some (.ref 0), some (.int (nI a)), some (.int (nI b)), some (.int (nI (fct (pN σ)))), some (.int (nI (fct (cN σ)))), some (.int (nI p)), some (.int (nI q)), some (.int 1), some (.int (nI 0))] [] υ := by
          intro υ0 hυ0 h100 h110 hab
          have kend : ∀ (t : Bool), (!anyN (lm σ) (badL σ p q)) = t → ∀ (υ : St) (z : Int32), LI σ υ → (∀ i, i < pN σ → υ 10 i = nI (lat (ordL (pN σ) p) i)) → aW g YM 9 Q 227 [some (.ref 0), some (.int (nI a)), some (.int (nI b)), some (.int (nI (fct (pN σ)))), some (.int (nI (fct (cN σ)))), some (.int (nI p)), some (.int (nI q)), some (.int (bI t)), some (.int z)] [] υ := by
            intro t ht υ z hυ h10
            have eg : goodL σ a b p q = t := by unfold goodL; rw [ht, hab]; simp
            refine st_iload hc dX12_like_227 rfl ?_
            refine st_if_eq (tgt := 234) hc dX12_like_229 (by decide) (fun h229 => ?_) (fun h229 => ?_)
            · rw [bI_0.mp h229] at eg
              exact st_lvq _ (by simp [lvq]) (knext eg υ hυ h10)
            · have et : t = true := by cases t; exact absurd rfl h229; rfl
              have el : likeB σ a b = true := (anyN_iff _ _).mpr ⟨p, hp, (anyN_iff _ _).mpr ⟨q, hq, by rw [eg, et]⟩⟩
              rw [el] at hQ
              refine st_iconst (v := 1) hc dX12_like_232 (by decide) ?_
              refine st_iret (st := []) hc dX12_like_233 rfl ?_
              exact hQ υ hυ.1
          refine lpN (n := lm σ) (F := fun k => anyN k (badL σ p q) = false → ∀ υ, LI σ υ → (∀ i, i < pN σ → υ 10 i = nI (lat (ordL (pN σ) p) i)) → (∀ c, c < cN σ → υ 11 c = nI (lat (ordL (cN σ) q) c)) → aW g YM 9 Q 189 [some (.ref 0), some (.int (nI a)), some (.int (nI b)), some (.int (nI (fct (pN σ)))), some (.int (nI (fct (cN σ)))), some (.int (nI p)), some (.int (nI q)), some (.int 1), some (.int (nI k))] [] υ) ?_ (fun k hk ihk => ?_) rfl υ0 hυ0 h100 h110
          · intro hnk υ hυ h10 h11
            refine st_iload hc dX12_like_189 rfl ?_
            refine st_aload_n hc dX12_like_191 rfl rfl ?_
            refine st_getE hc dX12_like_192 flX12_164 rfl rfl (hυ.2.1) ?_
            refine st_icmp_ge (tgt := 227) hc dX12_like_195 (by decide) (fun h195 => ?_) (fun h195 => ?_)
            · exact kend true (by rw [hnk]; rfl) υ _ hυ h10
            · exact absurd (nI_le (Nat.le_refl _) (by omega)) h195
          · intro hnk υ hυ h10 h11
            have hl := lth_lt hk
            have hi := himg q (lth σ k) hq p
            refine st_iload hc dX12_like_189 rfl ?_
            refine st_aload_n hc dX12_like_191 rfl rfl ?_
            refine st_getE hc dX12_like_192 flX12_164 rfl rfl (hυ.2.1) ?_
            refine st_icmp_ge (tgt := 227) hc dX12_like_195 (by decide) (fun h195 => ?_) (fun h195 => ?_)
            · exact absurd h195 (nI_ge hk (by omega))
            · refine st_iload hc dX12_like_198 rfl ?_
              refine st_if_eq (tgt := 227) hc dX12_like_200 (by decide) (fun h200 => ?_) (fun h200 => ?_)
              · exact absurd h200 (by decide)
              · refine st_aload_n hc dX12_like_203 rfl rfl ?_
                refine st_getr hc dX12_like_204 flX12_60 rfl rfl ?_
                refine st_aload_n hc dX12_like_207 rfl rfl ?_
                refine st_aload_n hc dX12_like_208 rfl rfl ?_
                refine st_getr hc dX12_like_209 flX12_42 rfl rfl ?_
                refine st_iload hc dX12_like_212 rfl ?_
                refine st_ialdN (k := k) hc dX12_like_214 rfl (rfl) (by omega) (by first | decide | omega) (hυ.2.2.1 k hk) ?_
                refine st_callVq hc dX12_like_215 (C12_turned 3 υ (hυ.1.pc hpc) hP4 hC5 (fun i hi => ⟨h10 i hi, p3 i hi⟩) (fun c hc => ⟨h11 c hc, q3 c hc⟩) p4 (lth σ k) (by omega)) mvX12_235 (by omega) rfl rfl rfl (Nat.le_of_ble_eq_true rfl) ?_
                rintro _ ⟨w, rfl⟩
                have hυ' := hυ.v (k := 12) rfl (by decide) (by decide) (by decide) w
                refine st_zaldN (k := imgL (pN σ) (cN σ) p q (lth σ k)) hc dX12_like_218 rfl (rfl) (by omega) (by first | decide | omega) (hυ'.2.2.2 _ hi) ?_
                refine st_istore hc dX12_like_219 (by decide) rfl ?_
                refine st_inc hc dX12_like_221 rfl (by decide) rfl ?_
                rw [nI_1]
                refine st_goto (tgt := 189) hc dX12_like_224 (by decide) ?_
                rcases hbk : badL σ p q k with _ | _
                · have em : mLs σ (imgL (pN σ) (cN σ) p q (lth σ k)) = true := by unfold badL at hbk; simpa using hbk
                  rw [em]
                  exact ihk (by rw [anyN_s, hnk, hbk]; rfl) _ hυ' h10 h11
                · have em : mLs σ (imgL (pN σ) (cN σ) p q (lth σ k)) = false := by unfold badL at hbk; simpa using hbk
                  rw [em]
                  have ek := kend false (by rw [(anyN_iff _ _).mpr ⟨k, hk, hbk⟩]; rfl) (va_up υ 12 w) (nI (k + 1)) hυ' h10
                  refine st_iload hc dX12_like_189 rfl ?_
                  refine st_aload_n hc dX12_like_191 rfl rfl ?_
                  refine st_getE hc dX12_like_192 flX12_164 rfl rfl (hυ'.2.1) ?_
                  refine st_icmp_ge (tgt := 227) hc dX12_like_195 (by decide) (fun _ => ek) (fun _ => ?_)
                  refine st_iload hc dX12_like_198 rfl ?_
                  exact st_if_eq (tgt := 227) hc dX12_like_200 (by decide) (fun _ => ek) (fun q => absurd rfl q)
        refine st_iload hc dX12_like_151 rfl ?_
        refine st_iload hc dX12_like_153 rfl ?_
        refine st_icmp_ge (tgt := 240) hc dX12_like_155 (by decide) (fun h155 => ?_) (fun h155 => ?_)
        · exact absurd h155 (nI_ge hq (by omega))
        · refine st_aload_n hc dX12_like_158 rfl rfl ?_
          refine st_getr hc dX12_like_159 flX12_54 rfl rfl ?_
          refine st_aload_n hc dX12_like_162 rfl rfl ?_
          refine st_getE hc dX12_like_163 flX12_13 rfl rfl ((hυ.1 0 1 rfl).trans hC) ?_
          refine st_iload hc dX12_like_166 rfl ?_
          refine st_callSn hc dX12_like_168 (C12_order 3 υ (x := 11) (len := 5) rfl (by decide) hC5 hq) msX12_231 (by omega) rfl rfl (Nat.le_of_ble_eq_true rfl) ?_
          rintro _ rfl
          have h11 : ∀ c, c < cN σ → va_up υ 11 (rowOf (ordL (cN σ) q) (υ 11)) 11 c = nI (lat (ordL (cN σ) q) c) := by rw [vu_s]; exact rowOf_at q2 _
          have hυ' := hυ.v (k := 11) rfl (by decide) (by decide) (by decide) (rowOf (ordL (cN σ) q) (υ 11))
          have hia := himg q a hq p
          refine st_aload_n hc dX12_like_171 rfl rfl ?_
          refine st_iload_n hc dX12_like_172 rfl rfl ?_
          refine st_callVq hc dX12_like_173 (C12_turned 3 (va_up υ 11 (rowOf (ordL (cN σ) q) (υ 11))) (hυ'.1.pc hpc) hP4 hC5 (fun i hi => ⟨h10 i hi, p3 i hi⟩) (fun c hc => ⟨h11 c hc, q3 c hc⟩) p4 a (by omega)) mvX12_235 (by omega) rfl rfl rfl (Nat.le_of_ble_eq_true rfl) ?_
          rintro _ ⟨w, rfl⟩
          have hυ'' := hυ'.v (k := 12) rfl (by decide) (by decide) (by decide) w
          refine st_iload_n hc dX12_like_176 rfl rfl ?_
          refine st_icmp_eq (tgt := 183) hc dX12_like_177 (by decide) (fun h177 => ?_) (fun h177 => ?_)
          · have e : imgL (pN σ) (cN σ) p q a = b := nI_inj (by omega) (by omega) h177
            refine st_iconst (v := 1) hc dX12_like_183 (by decide) ?_
            refine st_istore hc dX12_like_184 (by decide) rfl ?_
            refine st_iconst (v := 0) hc dX12_like_186 (by decide) ?_
            refine st_istore hc dX12_like_187 (by decide) rfl ?_
            exact st_lvq _ (by simp [lvq, List.set, nI_0]) (k189 _ hυ'' h10 h11 e)
          · have e : ¬ imgL (pN σ) (cN σ) p q a = b := fun z => h177 (congrArg nI z)
            refine st_goto (tgt := 234) hc dX12_like_180 (by decide) ?_
            exact knext (by unfold goodL; rw [beq_eq_false_iff_ne.mpr e]; rfl) _ hυ'' h10
    refine st_iload hc dX12_like_129 rfl ?_
    refine st_iload_n hc dX12_like_131 rfl rfl ?_
    refine st_icmp_ge (tgt := 246) hc dX12_like_132 (by decide) (fun h132 => ?_) (fun h132 => ?_)
    · exact absurd h132 (nI_ge hp (by omega))
    · refine st_aload_n hc dX12_like_135 rfl rfl ?_
      refine st_getr hc dX12_like_136 flX12_51 rfl rfl ?_
      refine st_aload_n hc dX12_like_139 rfl rfl ?_
      refine st_getE hc dX12_like_140 flX12_7 rfl rfl ((hτ.1 0 0 rfl).trans hP) ?_
      refine st_iload hc dX12_like_143 rfl ?_
      refine st_callSn hc dX12_like_145 (C12_order 3 τ (x := 10) (len := 4) rfl (by decide) hP4 hp) msX12_231 (by omega) rfl rfl (Nat.le_of_ble_eq_true rfl) ?_
      rintro _ rfl
      refine st_iconst (v := 0) hc dX12_like_148 (by decide) ?_
      refine st_istore hc dX12_like_149 (by decide) rfl ?_
      exact st_lvq _ (by simp [lvq, List.set, nI_0]) (k151 _ (hτ.v (k := 10) rfl (by decide) (by decide) (by decide) _) (by rw [vu_s]; exact rowOf_at p2 _))
theorem C12_like (σ : St) (hm : MI σ) (a b : Int32) : Mt YM mX12_like 9 [.ref 0, .int a, .int b] σ (fun r τ => r = some (.int (sp_like σ a b).1) ∧ sE (sp_like σ a b).2 τ) := by
  obtain ⟨hm, ht⟩ := hm
  obtain ⟨hpc, h2, h3, h4, hT, hT2, hLi, hL2, hls⟩ := id hm
  obtain ⟨hP, hC, hP1, hP5, hC1, hC8⟩ := id hpc
  have hlm : lm σ ≤ 4096 := Nat.le_trans (cnt_le _ _) h4
  refine Mt.ofA [some (.ref 0), some (.int a), some (.int b), none, none, none, none, none, none] (by decide) (fun _ => Nat.le_of_ble_eq_true rfl) (fun _ => rfl) (fun g hc => ?_)
  generalize hQe : (fun r τ => r = some (Value.int (sp_like σ a b).1) ∧ sE (sp_like σ a b).2 τ) = Q
  have hQ : ∀ τ, sE (t0 σ) τ → ∀ x, x = (sp_like σ a b).1 → Q (some (.int x)) τ := by
    intro τ h1 x h2
    rw [← hQe]
    exact ⟨by rw [h2], h1⟩
  have hia := in_n (x := a) (n := nN σ) (by omega)
  have hib := in_n (x := b) (n := nN σ) (by omega)
  rw [← h2] at hia hib
  have k104 : ∀ τ (A B : Nat), LI σ τ → pN σ ≤ 4 → cN σ ≤ 5 → A < nN σ → B < nN σ → (∀ τ, sE (t0 σ) τ → Q (some (.int (bI (likeB σ A B)))) τ) → aW g YM 9 Q 104 [some (.ref 0), some (.int (nI A)), some (.int (nI B)), some (.int (nI (fct (pN σ)))), some (.int (nI (fct 1))), some (.int (nI 2)), none, none, none] [] τ := by
    intro τ A B hτ hP4 hC5 hA hB hq
    have kx : aW g YM 9 Q 126 [some (.ref 0), some (.int (nI A)), some (.int (nI B)), some (.int (nI (fct (pN σ)))), some (.int (nI (fct (cN σ)))), none, none, none, none] [] τ := by
      refine st_iconst (v := 0) hc dX12_like_126 (by decide) ?_
      refine st_istore hc dX12_like_127 (by decide) rfl ?_
      exact st_lvq _ (by simp [lvq, List.set, nI_0]) (W12_like hc hm hP4 hC5 hA hB hq τ hτ)
    by_cases h1 : cN σ ≤ 1
    · rw [show fct 1 = fct (cN σ) by rw [show cN σ = 1 by omega]]
      refine st_iload hc dX12_like_104 rfl ?_
      refine st_aload_n hc dX12_like_106 rfl rfl ?_
      refine st_getE hc dX12_like_107 flX12_13 rfl rfl ((hτ.1 0 1 rfl).trans hC) ?_
      refine st_icmp_gt (tgt := 126) hc dX12_like_110 (by decide) (fun h110 => ?_) (fun h110 => ?_)
      · exact st_lvq _ (by simp [lvq]) kx
      · exact absurd (nI_lt (by omega) (by omega)) h110
    · refine lpF (i0 := 2) (n := cN σ + 1) (F := fun i => aW g YM 9 Q 104 [some (.ref 0), some (.int (nI A)), some (.int (nI B)), some (.int (nI (fct (pN σ)))), some (.int (nI (fct (i - 1)))), some (.int (nI i)), none, none, none] [] τ) (by omega) ?_ (fun i h1 h2 ih => ?_)
      · refine st_iload hc dX12_like_104 rfl ?_
        refine st_aload_n hc dX12_like_106 rfl rfl ?_
        refine st_getE hc dX12_like_107 flX12_13 rfl rfl ((hτ.1 0 1 rfl).trans hC) ?_
        refine st_icmp_gt (tgt := 126) hc dX12_like_110 (by decide) (fun h110 => ?_) (fun h110 => ?_)
        · exact st_lvq _ (by simp [lvq]) kx
        · exact absurd (nI_lt (by omega) (by omega)) h110
      · have e : fct (i - 1) * i = fct (i + 1 - 1) := by rw [show i + 1 - 1 = (i - 1) + 1 by omega, fct, show i - 1 + 1 = i by omega]
        refine st_iload hc dX12_like_104 rfl ?_
        refine st_aload_n hc dX12_like_106 rfl rfl ?_
        refine st_getE hc dX12_like_107 flX12_13 rfl rfl ((hτ.1 0 1 rfl).trans hC) ?_
        refine st_icmp_gt (tgt := 126) hc dX12_like_110 (by decide) (fun h110 => ?_) (fun h110 => ?_)
        · exact absurd h110 (nI_nlt (by omega) (by omega))
        · refine st_iload hc dX12_like_113 rfl ?_
          refine st_iload hc dX12_like_115 rfl ?_
          refine st_imul hc dX12_like_117 ?_
          rw [pk_mul, e]
          refine st_istore hc dX12_like_118 (by decide) rfl ?_
          refine st_inc hc dX12_like_120 rfl (by decide) rfl ?_
          rw [nI_1]
          refine st_goto (tgt := 104) hc dX12_like_123 (by decide) ?_
          exact ih
  have k78 : ∀ τ (A B : Nat), LI σ τ → pN σ ≤ 4 → cN σ ≤ 5 → A < nN σ → B < nN σ → (∀ τ, sE (t0 σ) τ → Q (some (.int (bI (likeB σ A B)))) τ) → aW g YM 9 Q 78 [some (.ref 0), some (.int (nI A)), some (.int (nI B)), some (.int (nI (fct 1))), some (.int (nI 2)), none, none, none, none] [] τ := by
    intro τ A B hτ hP4 hC5 hA hB hq
    have kx : aW g YM 9 Q 98 [some (.ref 0), some (.int (nI A)), some (.int (nI B)), some (.int (nI (fct (pN σ)))), none, none, none, none, none] [] τ := by
      refine st_iconst (v := 1) hc dX12_like_98 (by decide) ?_
      refine st_istore hc dX12_like_99 (by decide) rfl ?_
      refine st_iconst (v := 2) hc dX12_like_101 (by decide) ?_
      refine st_istore hc dX12_like_102 (by decide) rfl ?_
      exact st_lvq _ (by simp [lvq, List.set]; exact ⟨rfl, rfl⟩) (k104 τ A B hτ hP4 hC5 hA hB hq)
    by_cases h1 : pN σ ≤ 1
    · rw [show fct 1 = fct (pN σ) by rw [show pN σ = 1 by omega]]
      refine st_iload hc dX12_like_78 rfl ?_
      refine st_aload_n hc dX12_like_80 rfl rfl ?_
      refine st_getE hc dX12_like_81 flX12_7 rfl rfl ((hτ.1 0 0 rfl).trans hP) ?_
      refine st_icmp_gt (tgt := 98) hc dX12_like_84 (by decide) (fun h84 => ?_) (fun h84 => ?_)
      · exact st_lvq _ (by simp [lvq]) kx
      · exact absurd (nI_lt (by omega) (by omega)) h84
    · refine lpF (i0 := 2) (n := pN σ + 1) (F := fun i => aW g YM 9 Q 78 [some (.ref 0), some (.int (nI A)), some (.int (nI B)), some (.int (nI (fct (i - 1)))), some (.int (nI i)), none, none, none, none] [] τ) (by omega) ?_ (fun i h1 h2 ih => ?_)
      · refine st_iload hc dX12_like_78 rfl ?_
        refine st_aload_n hc dX12_like_80 rfl rfl ?_
        refine st_getE hc dX12_like_81 flX12_7 rfl rfl ((hτ.1 0 0 rfl).trans hP) ?_
        refine st_icmp_gt (tgt := 98) hc dX12_like_84 (by decide) (fun h84 => ?_) (fun h84 => ?_)
        · exact st_lvq _ (by simp [lvq]) kx
        · exact absurd (nI_lt (by omega) (by omega)) h84
      · have e : fct (i - 1) * i = fct (i + 1 - 1) := by rw [show i + 1 - 1 = (i - 1) + 1 by omega, fct, show i - 1 + 1 = i by omega]
        refine st_iload hc dX12_like_78 rfl ?_
        refine st_aload_n hc dX12_like_80 rfl rfl ?_
        refine st_getE hc dX12_like_81 flX12_7 rfl rfl ((hτ.1 0 0 rfl).trans hP) ?_
        refine st_icmp_gt (tgt := 98) hc dX12_like_84 (by decide) (fun h84 => ?_) (fun h84 => ?_)
        · exact absurd h84 (nI_nlt (by omega) (by omega))
        · refine st_iload_n hc dX12_like_87 rfl rfl ?_
          refine st_iload hc dX12_like_88 rfl ?_
          refine st_imul hc dX12_like_90 ?_
          rw [pk_mul, e]
          refine st_istore_n hc dX12_like_91 rfl (by decide) rfl ?_
          refine st_inc hc dX12_like_92 rfl (by decide) rfl ?_
          rw [nI_1]
          refine st_goto (tgt := 78) hc dX12_like_95 (by decide) ?_
          exact ih
  have k48 : ∀ (A B : Nat) F w, (∀ k, k < lm σ → F k = nI (lth σ k)) → pN σ ≤ 4 → cN σ ≤ 5 → A < nN σ → B < nN σ → (∀ τ, sE (t0 σ) τ → Q (some (.int (bI (likeB σ A B)))) τ) → aW g YM 9 Q 48 [some (.ref 0), some (.int (nI A)), some (.int (nI B)), some (.int (nI 0)), none, none, none, none, none] [] (lkS (t0 σ) (lm σ) F w) := by
    intro A B F w0 hF hP4 hC5 hA hB hq
    have h := lpN (n := nN σ) (F := fun c => ∀ w v, (∀ j, j < c → v j = bI (mLs σ j)) → aW g YM 9 Q 48 [some (.ref 0), some (.int (nI A)), some (.int (nI B)), some (.int (nI c)), none, none, none, none, none] [] (va_up (lkS (t0 σ) (lm σ) F w) 13 v)) ?_ (fun c hcn ih => ?_) w0 (σ 13) (fun j hj => absurd hj (Nat.not_lt_zero j))
    · rw [show va_up (lkS (t0 σ) (lm σ) F w0) 13 (σ 13) = lkS (t0 σ) (lm σ) F w0 from vu_id (σ := lkS (t0 σ) (lm σ) F w0)] at h
      exact h
    · intro w v hv
      have hτ : LI σ (va_up (lkS (t0 σ) (lm σ) F w) 13 v) := ⟨(sE.lk _ _ _ _).v rfl (by decide) v, rfl, hF, fun c hcn => by rw [vu_s]; exact hv c hcn⟩
      refine st_iload_n hc dX12_like_48 rfl rfl ?_
      refine st_aload_n hc dX12_like_49 rfl rfl ?_
      refine st_getE hc dX12_like_50 flX12_16 rfl rfl (h2) ?_
      refine st_icmp_ge (tgt := 73) hc dX12_like_53 (by decide) (fun h53 => ?_) (fun h53 => ?_)
      · refine st_iconst (v := 1) hc dX12_like_73 (by decide) ?_
        refine st_istore_n hc dX12_like_74 rfl (by decide) rfl ?_
        refine st_iconst (v := 2) hc dX12_like_75 (by decide) ?_
        refine st_istore hc dX12_like_76 (by decide) rfl ?_
        exact st_lvq _ (by simp [lvq, List.set]; exact ⟨rfl, rfl⟩) (k78 _ A B hτ hP4 hC5 hA hB hq)
      · exact absurd (nI_le (Nat.le_refl _) (by omega)) h53
    · intro w v hv
      have hE : sE (t0 σ) (va_up (lkS (t0 σ) (lm σ) F w) 13 v) := (sE.lk _ _ _ _).v rfl (by decide) v
      have em : mL (va_up (lkS (t0 σ) (lm σ) F w) 13 v) (pN σ) (cN σ) (tN σ) (liN σ) c = mLs σ c := congrFun (hE.mLe _ _ _ _) c
      refine st_iload_n hc dX12_like_48 rfl rfl ?_
      refine st_aload_n hc dX12_like_49 rfl rfl ?_
      refine st_getE hc dX12_like_50 flX12_16 rfl rfl (h2) ?_
      refine st_icmp_ge (tgt := 73) hc dX12_like_53 (by decide) (fun h53 => ?_) (fun h53 => ?_)
      · exact absurd h53 (nI_ge hcn (by omega))
      · refine st_aload_n hc dX12_like_56 rfl rfl ?_
        refine st_getr hc dX12_like_57 flX12_60 rfl rfl ?_
        refine st_iload_n hc dX12_like_60 rfl rfl ?_
        refine st_aload_n hc dX12_like_61 rfl rfl ?_
        refine st_iload_n hc dX12_like_62 rfl rfl ?_
        refine st_callVq hc dX12_like_63 (C12_isLeft 3 (va_up (lkS (t0 σ) (lm σ) F w) 13 v) (P := pN σ) (C := cN σ) (N := nN σ) (T := tN σ) (L := liN σ) (hE.ok hm.t0) c (by omega)) mvX12_228 (by omega) rfl rfl rfl (Nat.le_of_ble_eq_true rfl) ?_
        rintro _ ⟨w2, rfl⟩
        rw [em, show va_up (va_up (lkS (t0 σ) (lm σ) F w) 13 v) 6 w2 = va_up (lkS (t0 σ) (lm σ) F w2) 13 v by rw [vu_cm (by decide), vu_vu]]
        refine st_zastN (k := c) hc dX12_like_66 rfl (rfl) (by omega) (by first | decide | omega) (bI_01 _) ?_
        rw [vu_up]
        refine st_inc hc dX12_like_67 rfl (by decide) rfl ?_
        rw [nI_1]
        refine st_goto (tgt := 48) hc dX12_like_70 (by decide) ?_
        refine ih w2 _ (fun j hj => ?_)
        by_cases q : j = c
        · subst q; exact upd_s
        · rw [upd_n q]; exact hv j (by omega)
  refine st_aload_n hc dX12_like_0 rfl rfl ?_
  refine st_iconst (v := 0) hc dX12_like_1 (by decide) ?_
  refine st_put hc dX12_like_2 fpX12_139 rfl rfl  ?_
  refine st_aload_n hc dX12_like_5 rfl rfl ?_
  refine st_iload_n hc dX12_like_6 rfl rfl ?_
  refine st_callVp hc dX12_like_7 (C12_isCode 0 (t0 σ) a) mvX12_199 (by omega) rfl rfl rfl (Nat.le_of_ble_eq_true rfl) ?_
  refine st_if_eq (tgt := 21) hc dX12_like_10 (by decide) (fun h10 => ?_) (fun h10 => ?_)
  · have h10 := fun q => it0.mp h10 (hia.mpr q)
    refine st_iconst (v := (-1)) hc dX12_like_21 (by decide) ?_
    refine st_iret (st := []) hc dX12_like_22 rfl ?_
    first
     | exact hQ _ sE.rf _ (by unfold sp_like; rw [if_pos (fun q => h10 q.1)])
     | exact hQ _ sE.rf _ (by unfold sp_like; rw [if_pos (fun q => h18 q.2)])
  · have h10 := hia.mp (it1.mp h10)
    refine st_aload_n hc dX12_like_13 rfl rfl ?_
    refine st_iload_n hc dX12_like_14 rfl rfl ?_
    refine st_callVp hc dX12_like_15 (C12_isCode 0 (t0 σ) b) mvX12_199 (by omega) rfl rfl rfl (Nat.le_of_ble_eq_true rfl) ?_
    refine st_if_ne (tgt := 23) hc dX12_like_18 (by decide) (fun h18 => ?_) (fun h18 => ?_)
    · have h18 := hib.mp (it1.mp h18)
      have e18 : ¬ ¬ ((0 ≤ a ∧ nat a < nN σ) ∧ (0 ≤ b ∧ nat b < nN σ)) := fun q => q ⟨h10, h18⟩
      refine st_aload_n hc dX12_like_23 rfl rfl ?_
      refine st_getE hc dX12_like_24 flX12_7 rfl rfl (hP) ?_
      refine st_iconst (v := 4) hc dX12_like_27 (by decide) ?_
      refine st_icmp_gt (tgt := 39) hc dX12_like_28 (by decide) (fun h28 => ?_) (fun h28 => ?_)
      · have h28 : 4 < pN σ := (nI_ltI (a := 4) (by decide) (by omega)).mp h28
        refine st_bipush (v := (-5)) hc dX12_like_39 (by decide) ?_
        refine st_iret (st := []) hc dX12_like_41 rfl ?_
        first
         | exact hQ _ sE.rf _ (by unfold sp_like; rw [if_neg e18, if_pos (Or.inl h28)])
         | exact hQ _ sE.rf _ (by unfold sp_like; rw [if_neg e18, if_pos (Or.inr h36)])
      · have h28 : ¬ 4 < pN σ := fun q => h28 ((nI_ltI (a := 4) (by decide) (by omega)).mpr q)
        refine st_aload_n hc dX12_like_31 rfl rfl ?_
        refine st_getE hc dX12_like_32 flX12_13 rfl rfl (hC) ?_
        refine st_iconst (v := 5) hc dX12_like_35 (by decide) ?_
        refine st_icmp_le (tgt := 42) hc dX12_like_36 (by decide) (fun h36 => ?_) (fun h36 => ?_)
        · have h36 : ¬ 5 < cN σ := fun q => absurd ((nI_leI (b := 5) (by omega) (by decide)).mp h36) (Nat.not_le.mpr q)
          refine st_aload_n hc dX12_like_42 rfl rfl ?_
          refine st_callVn hc dX12_like_43 (C12_look 3 (t0 σ) hm.t0) mvX12_208 (by omega) rfl rfl rfl (Nat.le_of_ble_eq_true rfl) ?_
          rintro _ ⟨F, w, hF, rfl⟩
          have hno : ¬ (4 < pN σ ∨ 5 < cN σ) := by rintro (q | q); exact h28 q; exact h36 q
          refine st_iconst (v := 0) hc dX12_like_46 (by decide) ?_
          refine st_istore_n hc dX12_like_47 rfl (by decide) rfl ?_
          have h := k48 (nat a) (nat b) F w (fun k hk => nthT_at hF hk) (by omega) (by omega) h10.2 h18.2 (fun τ hτ => hQ τ hτ _ (by unfold sp_like; rw [if_neg e18, if_neg hno]))
          rw [nI_nat h10.1, nI_nat h18.1] at h
          exact st_lvq _ (by simp [lvq, List.set, nI_0]) h
        · have h36 : 5 < cN σ := Nat.lt_of_not_le (fun q => h36 (nI_le (b := 5) q (by decide)))
          refine st_bipush (v := (-5)) hc dX12_like_39 (by decide) ?_
          refine st_iret (st := []) hc dX12_like_41 rfl ?_
          first
           | exact hQ _ sE.rf _ (by unfold sp_like; rw [if_neg e18, if_pos (Or.inl h28)])
           | exact hQ _ sE.rf _ (by unfold sp_like; rw [if_neg e18, if_pos (Or.inr h36)])
    · have h18 := fun q => it0.mp h18 (hib.mpr q)
      refine st_iconst (v := (-1)) hc dX12_like_21 (by decide) ?_
      refine st_iret (st := []) hc dX12_like_22 rfl ?_
      first
       | exact hQ _ sE.rf _ (by unfold sp_like; rw [if_pos (fun q => h10 q.1)])
       | exact hQ _ sE.rf _ (by unfold sp_like; rw [if_pos (fun q => h18 q.2)])

