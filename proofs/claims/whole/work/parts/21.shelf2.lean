def sp_copy (σ : St) (d i e j n : Int32) : Int32 × St :=
  if ¬ (0 ≤ d ∧ d ≤ 5) ∨ ¬ (0 ≤ e ∧ e ≤ 5) then (-1, t0 σ) else if σ 34 (nat d) = 0 ∨ σ 34 (nat e) = 0 then (-11, fnd σ) else if σ 34 (nat d) = 4 ∨ ¬ σ 34 (nat d) = σ 34 (nat e) then (-12, fnd σ) else
  if n < 0 ∨ i < 0 ∨ j < 0 ∨ nat (σ 35 (nat d)) < nat i + nat n ∨ nat (σ 35 (nat e)) < nat j + nat n then (-13, fnd σ) else (n, va_up (t0 σ) 36 (rng (60 * nat e + nat j) (nat n) (fun k => σ 36 (60 * nat d + nat i + k)) (σ 36)))
theorem cp137 {g : Gx} {dd : Nat} {σ : St} {Q : Option Value → St → Prop} (hc : cX g YM RX12 cX12_copy 7 (some .int) dd) {d i e j n : Nat} (hd : d < 6) (he : e < 6) (hi : i + n ≤ 60) (hj : j + n ≤ 60) (hQ : ∀ w, Q (some (.int (nI n))) (va_up (va_up σ 36 (rng (60 * e + j) n (fun k => σ 36 (60 * d + i + k)) (σ 36))) 38 w)) : aW g YM 7 Q 137 [some (.ref 0), some (.int (nI d)), some (.int (nI i)), some (.int (nI e)), some (.int (nI j)), some (.int (nI n)), some (.int (nI 0))] [] σ := by
  have k174 : ∀ w, (∀ k, k < n → w k = σ 36 (60 * d + i + k)) → aW g YM 7 Q 174 [some (.ref 0), some (.int (nI d)), some (.int (nI i)), some (.int (nI e)), some (.int (nI j)), some (.int (nI n)), some (.int (nI 0))] [] (va_up σ 38 w) := by
    intro w hw
    have h := lpN (n := n) (F := fun k => aW g YM 7 Q 174 [some (.ref 0), some (.int (nI d)), some (.int (nI i)), some (.int (nI e)), some (.int (nI j)), some (.int (nI n)), some (.int (nI k))] [] (va_up (va_up σ 36 (rng (60 * e + j) k (fun k => σ 36 (60 * d + i + k)) (σ 36))) 38 w)) ?_ (fun k hk ih => ?_)
    · rw [rng_0, vu_id] at h
      exact h
    · refine st_iload hc dX12_copy_174 rfl ?_
      refine st_iload hc dX12_copy_176 rfl ?_
      refine st_icmp_ge (tgt := 209) hc dX12_copy_178 (by decide) (fun h178 => ?_) (fun h178 => ?_)
      · refine st_iload hc dX12_copy_209 rfl ?_
        refine st_iret (st := []) hc dX12_copy_211 rfl ?_
        exact hQ w
      · exact absurd (nI_le (Nat.le_refl _) (by omega)) h178
    · refine st_iload hc dX12_copy_174 rfl ?_
      refine st_iload hc dX12_copy_176 rfl ?_
      refine st_icmp_ge (tgt := 209) hc dX12_copy_178 (by decide) (fun h178 => ?_) (fun h178 => ?_)
      · exact absurd h178 (nI_ge hk (by omega))
      · refine st_aload_n hc dX12_copy_181 rfl rfl ?_
        refine st_getr hc dX12_copy_182 flX12_130 rfl rfl ?_
        refine st_bipush (v := 60) hc dX12_copy_185 (by decide) ?_
        refine st_iload_n hc dX12_copy_187 rfl rfl ?_
        refine st_imul hc dX12_copy_188 ?_
        refine st_iload hc dX12_copy_189 rfl ?_
        refine st_iadd hc dX12_copy_191 ?_
        refine st_iload hc dX12_copy_192 rfl ?_
        refine st_iadd hc dX12_copy_194 ?_
        refine st_aload_n hc dX12_copy_195 rfl rfl ?_
        refine st_getr hc dX12_copy_196 flX12_136 rfl rfl ?_
        refine st_iload hc dX12_copy_199 rfl ?_
        refine st_ialdN (k := k) hc dX12_copy_201 rfl (rfl) (by omega) (by decide) (hw k hk) ?_
        refine st_iastN (k := 60 * e + j + k) hc dX12_copy_202 rfl (by rw [show (60 : Int32) = nI 60 from rfl, pk_mul, nI_add, nI_add]) (by omega) (by decide)  ?_
        rw [vu_put (by decide), vu_up, rng_s (60 * e + j) k (fun k => σ 36 (60 * d + i + k))]
        refine st_inc hc dX12_copy_203 rfl (by decide) rfl ?_
        rw [nI_1]
        refine st_goto (tgt := 174) hc dX12_copy_206 (by decide) ?_
        exact ih
  have k137 : ∀ w, aW g YM 7 Q 137 [some (.ref 0), some (.int (nI d)), some (.int (nI i)), some (.int (nI e)), some (.int (nI j)), some (.int (nI n)), some (.int (nI 0))] [] (va_up σ 38 w) := by
    intro w0
    refine lpN (n := n) (F := fun m => ∀ w, (∀ k, k < m → w k = σ 36 (60 * d + i + k)) → aW g YM 7 Q 137 [some (.ref 0), some (.int (nI d)), some (.int (nI i)), some (.int (nI e)), some (.int (nI j)), some (.int (nI n)), some (.int (nI m))] [] (va_up σ 38 w)) ?_ (fun k hk ih => ?_) w0 (fun k hk => absurd hk (Nat.not_lt_zero k))
    · intro w hw
      refine st_iload hc dX12_copy_137 rfl ?_
      refine st_iload hc dX12_copy_139 rfl ?_
      refine st_icmp_ge (tgt := 171) hc dX12_copy_141 (by decide) (fun h141 => ?_) (fun h141 => ?_)
      · refine st_iconst (v := 0) hc dX12_copy_171 (by decide) ?_
        refine st_istore hc dX12_copy_172 (by decide) rfl ?_
        exact k174 w hw
      · exact absurd (nI_le (Nat.le_refl _) (by omega)) h141
    · intro w hw
      refine st_iload hc dX12_copy_137 rfl ?_
      refine st_iload hc dX12_copy_139 rfl ?_
      refine st_icmp_ge (tgt := 171) hc dX12_copy_141 (by decide) (fun h141 => ?_) (fun h141 => ?_)
      · exact absurd h141 (nI_ge hk (by omega))
      · refine st_aload_n hc dX12_copy_144 rfl rfl ?_
        refine st_getr hc dX12_copy_145 flX12_136 rfl rfl ?_
        refine st_iload hc dX12_copy_148 rfl ?_
        refine st_aload_n hc dX12_copy_150 rfl rfl ?_
        refine st_getr hc dX12_copy_151 flX12_130 rfl rfl ?_
        refine st_bipush (v := 60) hc dX12_copy_154 (by decide) ?_
        refine st_iload_n hc dX12_copy_156 rfl rfl ?_
        refine st_imul hc dX12_copy_157 ?_
        refine st_iload_n hc dX12_copy_158 rfl rfl ?_
        refine st_iadd hc dX12_copy_159 ?_
        refine st_iload hc dX12_copy_160 rfl ?_
        refine st_iadd hc dX12_copy_162 ?_
        refine st_ialdN (k := 60 * d + i + k) hc dX12_copy_163 rfl (by rw [show (60 : Int32) = nI 60 from rfl, pk_mul, nI_add, nI_add]) (by omega) (by decide) (show _ = σ 36 (60 * d + i + k) from rfl) ?_
        refine st_iastN (k := k) hc dX12_copy_164 rfl (rfl) (by omega) (by decide)  ?_
        rw [vu_up]
        refine st_inc hc dX12_copy_165 rfl (by decide) rfl ?_
        rw [nI_1]
        refine st_goto (tgt := 137) hc dX12_copy_168 (by decide) ?_
        refine ih _ (fun m hm => ?_)
        by_cases q : m = k
        · subst q; exact upd_s
        · rw [upd_n q]; exact hw m (by omega)
  have := k137 (σ 38)
  rw [vu_id] at this
  exact this
theorem C12_copy (σ : St) (hs : shOK σ) (d i e j n : Int32) : Mt YM mX12_copy 9 [.ref 0, .int d, .int i, .int e, .int j, .int n] σ (fun r τ => r = some (.int (sp_copy σ d i e j n).1) ∧ sE (sp_copy σ d i e j n).2 τ) := by
  refine Mt.ofA [some (.ref 0), some (.int d), some (.int i), some (.int e), some (.int j), some (.int n), none] (by decide) (fun _ => Nat.le_of_ble_eq_true rfl) (fun _ => rfl) (fun g hc => ?_)
  unfold sp_copy
  refine st_aload_n hc dX12_copy_0 rfl rfl ?_
  refine st_iconst (v := 0) hc dX12_copy_1 (by decide) ?_
  refine st_put hc dX12_copy_2 fpX12_139 rfl rfl  ?_
  refine st_iload_n hc dX12_copy_5 rfl rfl ?_
  refine st_callSp hc dX12_copy_6 (C12_isShelf 0 _ d) msX12_270 (by omega) rfl rfl (Nat.le_of_ble_eq_true rfl) ?_
  refine st_if_eq (tgt := 19) hc dX12_copy_9 (by decide) (fun h9 => ?_) (fun h9 => ?_)
  · have h9 := it0.mp h9
    refine st_iconst (v := (-1)) hc dX12_copy_19 (by decide) ?_
    refine st_iret (st := []) hc dX12_copy_20 rfl ?_
    first
     | (rw [if_pos (Or.inl h9)]; exact ⟨rfl, sE.rf⟩)
     | (rw [if_pos (Or.inr h16)]; exact ⟨rfl, sE.rf⟩)
  · have h9 := it1.mp h9
    obtain ⟨ed, hd⟩ := sh_n h9
    obtain ⟨hs0, hs60⟩ := hs _ hd
    refine st_iload_n hc dX12_copy_12 rfl rfl ?_
    refine st_callSp hc dX12_copy_13 (C12_isShelf 0 _ e) msX12_270 (by omega) rfl rfl (Nat.le_of_ble_eq_true rfl) ?_
    refine st_if_ne (tgt := 21) hc dX12_copy_16 (by decide) (fun h16 => ?_) (fun h16 => ?_)
    · have h16 := it1.mp h16
      obtain ⟨ee, he⟩ := sh_n h16
      obtain ⟨hr0, hr60⟩ := hs _ he
      have hno : ¬ (¬ (0 ≤ d ∧ d ≤ 5) ∨ ¬ (0 ≤ e ∧ e ≤ 5)) := by rintro (q | q); exact q h9; exact q h16
      rw [if_neg hno]
      refine st_aload_n hc dX12_copy_21 rfl rfl ?_
      refine st_getr hc dX12_copy_22 flX12_124 rfl rfl ?_
      refine st_iload_n hc dX12_copy_25 rfl rfl ?_
      refine st_ialdN (k := nat d) hc dX12_copy_26 rfl (ed) (by omega) (by decide) (show _ = σ 34 (nat d) from rfl) ?_
      refine st_if_eq (tgt := 39) hc dX12_copy_27 (by decide) (fun h27 => ?_) (fun h27 => ?_)
      · refine st_aload_n hc dX12_copy_39 rfl rfl ?_
        refine st_bipush (v := (-11)) hc dX12_copy_40 (by decide) ?_
        refine st_callVq hc dX12_copy_42 (C12_found 0 (t0 σ) (-11)) mvX12_202 (by omega) rfl rfl rfl (Nat.le_of_ble_eq_true rfl) ?_
        rintro _ rfl
        refine st_iret (st := []) hc dX12_copy_45 rfl ?_
        first
         | (rw [if_pos (Or.inl h27)]; exact ⟨rfl, sE.rf⟩)
         | (rw [if_pos (Or.inr h36)]; exact ⟨rfl, sE.rf⟩)
      · refine st_aload_n hc dX12_copy_30 rfl rfl ?_
        refine st_getr hc dX12_copy_31 flX12_124 rfl rfl ?_
        refine st_iload_n hc dX12_copy_34 rfl rfl ?_
        refine st_ialdN (k := nat e) hc dX12_copy_35 rfl (ee) (by omega) (by decide) (show _ = σ 34 (nat e) from rfl) ?_
        refine st_if_ne (tgt := 46) hc dX12_copy_36 (by decide) (fun h36 => ?_) (fun h36 => ?_)
        · have hn2 : ¬ (σ 34 (nat d) = 0 ∨ σ 34 (nat e) = 0) := by rintro (q | q); exact h27 q; exact h36 q
          rw [if_neg hn2]
          refine st_aload_n hc dX12_copy_46 rfl rfl ?_
          refine st_getr hc dX12_copy_47 flX12_124 rfl rfl ?_
          refine st_iload_n hc dX12_copy_50 rfl rfl ?_
          refine st_ialdN (k := nat d) hc dX12_copy_51 rfl (ed) (by omega) (by decide) (show _ = σ 34 (nat d) from rfl) ?_
          refine st_iconst (v := 4) hc dX12_copy_52 (by decide) ?_
          refine st_icmp_eq (tgt := 71) hc dX12_copy_53 (by decide) (fun h53 => ?_) (fun h53 => ?_)
          · refine st_aload_n hc dX12_copy_71 rfl rfl ?_
            refine st_bipush (v := (-12)) hc dX12_copy_72 (by decide) ?_
            refine st_callVq hc dX12_copy_74 (C12_found 0 (t0 σ) (-12)) mvX12_202 (by omega) rfl rfl rfl (Nat.le_of_ble_eq_true rfl) ?_
            rintro _ rfl
            refine st_iret (st := []) hc dX12_copy_77 rfl ?_
            first
             | (rw [if_pos (Or.inl h53)]; exact ⟨rfl, sE.rf⟩)
             | (rw [if_pos (Or.inr h68)]; exact ⟨rfl, sE.rf⟩)
          · refine st_aload_n hc dX12_copy_56 rfl rfl ?_
            refine st_getr hc dX12_copy_57 flX12_124 rfl rfl ?_
            refine st_iload_n hc dX12_copy_60 rfl rfl ?_
            refine st_ialdN (k := nat d) hc dX12_copy_61 rfl (ed) (by omega) (by decide) (show _ = σ 34 (nat d) from rfl) ?_
            refine st_aload_n hc dX12_copy_62 rfl rfl ?_
            refine st_getr hc dX12_copy_63 flX12_124 rfl rfl ?_
            refine st_iload_n hc dX12_copy_66 rfl rfl ?_
            refine st_ialdN (k := nat e) hc dX12_copy_67 rfl (ee) (by omega) (by decide) (show _ = σ 34 (nat e) from rfl) ?_
            refine st_icmp_eq (tgt := 78) hc dX12_copy_68 (by decide) (fun h68 => ?_) (fun h68 => ?_)
            · have hn3 : ¬ (σ 34 (nat d) = 4 ∨ ¬ σ 34 (nat d) = σ 34 (nat e)) := by rintro (q | q); exact h53 q; exact q h68
              rw [if_neg hn3]
              refine st_iload hc dX12_copy_78 rfl ?_
              refine st_if_lt (tgt := 127) hc dX12_copy_80 (by decide) (fun h80 => ?_) (fun h80 => ?_)
              · refine st_aload_n hc dX12_copy_127 rfl rfl ?_
                refine st_bipush (v := (-13)) hc dX12_copy_128 (by decide) ?_
                refine st_callVq hc dX12_copy_130 (C12_found 0 (t0 σ) (-13)) mvX12_202 (by omega) rfl rfl rfl (Nat.le_of_ble_eq_true rfl) ?_
                rintro _ rfl
                refine st_iret (st := []) hc dX12_copy_133 rfl ?_
                first
                 | (rw [if_pos (Or.inl h80)]; exact ⟨rfl, sE.rf⟩)
                 | (rw [if_pos (Or.inr (Or.inl h84))]; exact ⟨rfl, sE.rf⟩)
                 | (rw [if_pos (Or.inr (Or.inr (Or.inl h89)))]; exact ⟨rfl, sE.rf⟩)
                 | (rw [if_pos (Or.inr (Or.inr (Or.inr (Or.inl ((over (Int32.not_lt.mp h84) (Int32.not_lt.mp h80) hs0).mp h106)))))]; exact ⟨rfl, sE.rf⟩)
                 | (rw [if_pos (Or.inr (Or.inr (Or.inr (Or.inr ((over (Int32.not_lt.mp h89) (Int32.not_lt.mp h80) hr0).mp (Int32.not_le.mp h124))))))]; exact ⟨rfl, sE.rf⟩)
              · refine st_iload_n hc dX12_copy_83 rfl rfl ?_
                refine st_if_lt (tgt := 127) hc dX12_copy_84 (by decide) (fun h84 => ?_) (fun h84 => ?_)
                · refine st_aload_n hc dX12_copy_127 rfl rfl ?_
                  refine st_bipush (v := (-13)) hc dX12_copy_128 (by decide) ?_
                  refine st_callVq hc dX12_copy_130 (C12_found 0 (t0 σ) (-13)) mvX12_202 (by omega) rfl rfl rfl (Nat.le_of_ble_eq_true rfl) ?_
                  rintro _ rfl
                  refine st_iret (st := []) hc dX12_copy_133 rfl ?_
                  first
                   | (rw [if_pos (Or.inl h80)]; exact ⟨rfl, sE.rf⟩)
                   | (rw [if_pos (Or.inr (Or.inl h84))]; exact ⟨rfl, sE.rf⟩)
                   | (rw [if_pos (Or.inr (Or.inr (Or.inl h89)))]; exact ⟨rfl, sE.rf⟩)
                   | (rw [if_pos (Or.inr (Or.inr (Or.inr (Or.inl ((over (Int32.not_lt.mp h84) (Int32.not_lt.mp h80) hs0).mp h106)))))]; exact ⟨rfl, sE.rf⟩)
                   | (rw [if_pos (Or.inr (Or.inr (Or.inr (Or.inr ((over (Int32.not_lt.mp h89) (Int32.not_lt.mp h80) hr0).mp (Int32.not_le.mp h124))))))]; exact ⟨rfl, sE.rf⟩)
                · refine st_iload hc dX12_copy_87 rfl ?_
                  refine st_if_lt (tgt := 127) hc dX12_copy_89 (by decide) (fun h89 => ?_) (fun h89 => ?_)
                  · refine st_aload_n hc dX12_copy_127 rfl rfl ?_
                    refine st_bipush (v := (-13)) hc dX12_copy_128 (by decide) ?_
                    refine st_callVq hc dX12_copy_130 (C12_found 0 (t0 σ) (-13)) mvX12_202 (by omega) rfl rfl rfl (Nat.le_of_ble_eq_true rfl) ?_
                    rintro _ rfl
                    refine st_iret (st := []) hc dX12_copy_133 rfl ?_
                    first
                     | (rw [if_pos (Or.inl h80)]; exact ⟨rfl, sE.rf⟩)
                     | (rw [if_pos (Or.inr (Or.inl h84))]; exact ⟨rfl, sE.rf⟩)
                     | (rw [if_pos (Or.inr (Or.inr (Or.inl h89)))]; exact ⟨rfl, sE.rf⟩)
                     | (rw [if_pos (Or.inr (Or.inr (Or.inr (Or.inl ((over (Int32.not_lt.mp h84) (Int32.not_lt.mp h80) hs0).mp h106)))))]; exact ⟨rfl, sE.rf⟩)
                     | (rw [if_pos (Or.inr (Or.inr (Or.inr (Or.inr ((over (Int32.not_lt.mp h89) (Int32.not_lt.mp h80) hr0).mp (Int32.not_le.mp h124))))))]; exact ⟨rfl, sE.rf⟩)
                  · refine st_iload_n hc dX12_copy_92 rfl rfl ?_
                    refine st_i2l hc dX12_copy_93 ?_
                    refine st_iload hc dX12_copy_94 rfl ?_
                    refine st_i2l hc dX12_copy_96 ?_
                    refine st_ladd hc dX12_copy_97 ?_
                    refine st_aload_n hc dX12_copy_98 rfl rfl ?_
                    refine st_getr hc dX12_copy_99 flX12_127 rfl rfl ?_
                    refine st_iload_n hc dX12_copy_102 rfl rfl ?_
                    refine st_ialdN (k := nat d) hc dX12_copy_103 rfl (ed) (by omega) (by decide) (show _ = σ 35 (nat d) from rfl) ?_
                    refine st_i2l hc dX12_copy_104 ?_
                    refine st_lcmp hc dX12_copy_105 ?_
                    refine st_if_gt (tgt := 127) hc dX12_copy_106 (by decide) (fun h106 => ?_) (fun h106 => ?_)
                    · refine st_aload_n hc dX12_copy_127 rfl rfl ?_
                      refine st_bipush (v := (-13)) hc dX12_copy_128 (by decide) ?_
                      refine st_callVq hc dX12_copy_130 (C12_found 0 (t0 σ) (-13)) mvX12_202 (by omega) rfl rfl rfl (Nat.le_of_ble_eq_true rfl) ?_
                      rintro _ rfl
                      refine st_iret (st := []) hc dX12_copy_133 rfl ?_
                      first
                       | (rw [if_pos (Or.inl h80)]; exact ⟨rfl, sE.rf⟩)
                       | (rw [if_pos (Or.inr (Or.inl h84))]; exact ⟨rfl, sE.rf⟩)
                       | (rw [if_pos (Or.inr (Or.inr (Or.inl h89)))]; exact ⟨rfl, sE.rf⟩)
                       | (rw [if_pos (Or.inr (Or.inr (Or.inr (Or.inl ((over (Int32.not_lt.mp h84) (Int32.not_lt.mp h80) hs0).mp h106)))))]; exact ⟨rfl, sE.rf⟩)
                       | (rw [if_pos (Or.inr (Or.inr (Or.inr (Or.inr ((over (Int32.not_lt.mp h89) (Int32.not_lt.mp h80) hr0).mp (Int32.not_le.mp h124))))))]; exact ⟨rfl, sE.rf⟩)
                    · refine st_iload hc dX12_copy_109 rfl ?_
                      refine st_i2l hc dX12_copy_111 ?_
                      refine st_iload hc dX12_copy_112 rfl ?_
                      refine st_i2l hc dX12_copy_114 ?_
                      refine st_ladd hc dX12_copy_115 ?_
                      refine st_aload_n hc dX12_copy_116 rfl rfl ?_
                      refine st_getr hc dX12_copy_117 flX12_127 rfl rfl ?_
                      refine st_iload_n hc dX12_copy_120 rfl rfl ?_
                      refine st_ialdN (k := nat e) hc dX12_copy_121 rfl (ee) (by omega) (by decide) (show _ = σ 35 (nat e) from rfl) ?_
                      refine st_i2l hc dX12_copy_122 ?_
                      refine st_lcmp hc dX12_copy_123 ?_
                      refine st_if_le (tgt := 134) hc dX12_copy_124 (by decide) (fun h124 => ?_) (fun h124 => ?_)
                      · have o1 : ¬ nat (σ 35 (nat d)) < nat i + nat n := fun q => h106 ((over (Int32.not_lt.mp h84) (Int32.not_lt.mp h80) hs0).mpr q)
                        have o2 : ¬ nat (σ 35 (nat e)) < nat j + nat n := fun q => absurd ((over (Int32.not_lt.mp h89) (Int32.not_lt.mp h80) hr0).mpr q) (Int32.not_lt.mpr h124)
                        have hn4 : ¬ (n < 0 ∨ i < 0 ∨ j < 0 ∨ nat (σ 35 (nat d)) < nat i + nat n ∨ nat (σ 35 (nat e)) < nat j + nat n) := by
                          rintro (q | q | q | q | q)
                          · exact h80 q
                          · exact h84 q
                          · exact h89 q
                          · exact o1 q
                          · exact o2 q
                        rw [if_neg hn4]
                        have ei := (nI_nat (Int32.not_lt.mp h84)).symm
                        have ej := (nI_nat (Int32.not_lt.mp h89)).symm
                        have en := (nI_nat (Int32.not_lt.mp h80)).symm
                        refine st_iconst (v := 0) hc dX12_copy_134 (by decide) ?_
                        refine st_istore hc dX12_copy_135 (by decide) rfl ?_
                        have h := cp137 (σ := t0 σ) (Q := fun r τ => r = some (.int n) ∧ sE (va_up (t0 σ) 36 (rng (60 * nat e + nat j) (nat n) (fun k => σ 36 (60 * nat d + nat i + k)) (σ 36))) τ) hc hd he (show nat i + nat n ≤ 60 by omega) (show nat j + nat n ≤ 60 by omega) (fun w => ⟨by rw [← en], sE.rf.v rfl (by decide) w⟩)
                        rw [← ed, ← ei, ← ee, ← ej, ← en] at h
                        exact h
                      · refine st_aload_n hc dX12_copy_127 rfl rfl ?_
                        refine st_bipush (v := (-13)) hc dX12_copy_128 (by decide) ?_
                        refine st_callVq hc dX12_copy_130 (C12_found 0 (t0 σ) (-13)) mvX12_202 (by omega) rfl rfl rfl (Nat.le_of_ble_eq_true rfl) ?_
                        rintro _ rfl
                        refine st_iret (st := []) hc dX12_copy_133 rfl ?_
                        first
                         | (rw [if_pos (Or.inl h80)]; exact ⟨rfl, sE.rf⟩)
                         | (rw [if_pos (Or.inr (Or.inl h84))]; exact ⟨rfl, sE.rf⟩)
                         | (rw [if_pos (Or.inr (Or.inr (Or.inl h89)))]; exact ⟨rfl, sE.rf⟩)
                         | (rw [if_pos (Or.inr (Or.inr (Or.inr (Or.inl ((over (Int32.not_lt.mp h84) (Int32.not_lt.mp h80) hs0).mp h106)))))]; exact ⟨rfl, sE.rf⟩)
                         | (rw [if_pos (Or.inr (Or.inr (Or.inr (Or.inr ((over (Int32.not_lt.mp h89) (Int32.not_lt.mp h80) hr0).mp (Int32.not_le.mp h124))))))]; exact ⟨rfl, sE.rf⟩)
            · refine st_aload_n hc dX12_copy_71 rfl rfl ?_
              refine st_bipush (v := (-12)) hc dX12_copy_72 (by decide) ?_
              refine st_callVq hc dX12_copy_74 (C12_found 0 (t0 σ) (-12)) mvX12_202 (by omega) rfl rfl rfl (Nat.le_of_ble_eq_true rfl) ?_
              rintro _ rfl
              refine st_iret (st := []) hc dX12_copy_77 rfl ?_
              first
               | (rw [if_pos (Or.inl h53)]; exact ⟨rfl, sE.rf⟩)
               | (rw [if_pos (Or.inr h68)]; exact ⟨rfl, sE.rf⟩)
        · refine st_aload_n hc dX12_copy_39 rfl rfl ?_
          refine st_bipush (v := (-11)) hc dX12_copy_40 (by decide) ?_
          refine st_callVq hc dX12_copy_42 (C12_found 0 (t0 σ) (-11)) mvX12_202 (by omega) rfl rfl rfl (Nat.le_of_ble_eq_true rfl) ?_
          rintro _ rfl
          refine st_iret (st := []) hc dX12_copy_45 rfl ?_
          first
           | (rw [if_pos (Or.inl h27)]; exact ⟨rfl, sE.rf⟩)
           | (rw [if_pos (Or.inr h36)]; exact ⟨rfl, sE.rf⟩)
    · have h16 := it0.mp h16
      refine st_iconst (v := (-1)) hc dX12_copy_19 (by decide) ?_
      refine st_iret (st := []) hc dX12_copy_20 rfl ?_
      first
       | (rw [if_pos (Or.inl h9)]; exact ⟨rfl, sE.rf⟩)
       | (rw [if_pos (Or.inr h16)]; exact ⟨rfl, sE.rf⟩)
/-- how many pegs of a kept guess are set -/
def pegsS (σ : St) (d : Nat) : Nat := cnt (nat (σ 35 d)) (fun i => decide (¬ σ 36 (60 * d + i) < 0))
theorem C12_pegs (dd : Nat) (σ : St) (hs : shOK σ) (d : Nat) (hd : d < 6) : Mt YM mX12_pegs dd [.ref 0, .int (nI d)] σ (fun r τ => r = some (.int (nI (pegsS σ d))) ∧ τ = σ) := by
  obtain ⟨hs0, hs60⟩ := hs _ hd
  have es := (nI_nat hs0).symm
  refine Mt.ofA [some (.ref 0), some (.int (nI d)), none, none] (by decide) (fun _ => Nat.le_of_ble_eq_true rfl) (fun _ => rfl) (fun g hc => ?_)
  have k4 : aW g YM 4 (fun r τ => r = some (.int (nI (pegsS σ d))) ∧ τ = σ) 4 [some (.ref 0), some (.int (nI d)), some (.int (nI 0)), some (.int (nI 0))] [] σ := by
    refine lpN (n := nat (σ 35 d)) (F := fun i => aW g YM 4 (fun r τ => r = some (.int (nI (pegsS σ d))) ∧ τ = σ) 4 [some (.ref 0), some (.int (nI d)), some (.int (nI (cnt i (fun i => decide (¬ σ 36 (60 * d + i) < 0))))), some (.int (nI i))] [] σ) ?_ (fun i hi ih => ?_)
    · refine st_iload_n hc dX12_pegs_4 rfl rfl ?_
      refine st_aload_n hc dX12_pegs_5 rfl rfl ?_
      refine st_getr hc dX12_pegs_6 flX12_127 rfl rfl ?_
      refine st_iload_n hc dX12_pegs_9 rfl rfl ?_
      refine st_ialdN (k := d) hc dX12_pegs_10 rfl (rfl) (by omega) (by decide) (es) ?_
      refine st_icmp_ge (tgt := 42) hc dX12_pegs_11 (by decide) (fun h11 => ?_) (fun h11 => ?_)
      · refine st_iload_n hc dX12_pegs_42 rfl rfl ?_
        refine st_iret (st := []) hc dX12_pegs_43 rfl ?_
        exact ⟨rfl, rfl⟩
      · exact absurd (nI_le (Nat.le_refl _) (by omega)) h11
    · refine st_iload_n hc dX12_pegs_4 rfl rfl ?_
      refine st_aload_n hc dX12_pegs_5 rfl rfl ?_
      refine st_getr hc dX12_pegs_6 flX12_127 rfl rfl ?_
      refine st_iload_n hc dX12_pegs_9 rfl rfl ?_
      refine st_ialdN (k := d) hc dX12_pegs_10 rfl (rfl) (by omega) (by decide) (es) ?_
      refine st_icmp_ge (tgt := 42) hc dX12_pegs_11 (by decide) (fun h11 => ?_) (fun h11 => ?_)
      · exact absurd h11 (nI_ge hi (by omega))
      · refine st_iload_n hc dX12_pegs_14 rfl rfl ?_
        refine st_aload_n hc dX12_pegs_15 rfl rfl ?_
        refine st_getr hc dX12_pegs_16 flX12_130 rfl rfl ?_
        refine st_bipush (v := 60) hc dX12_pegs_19 (by decide) ?_
        refine st_iload_n hc dX12_pegs_21 rfl rfl ?_
        refine st_imul hc dX12_pegs_22 ?_
        refine st_iload_n hc dX12_pegs_23 rfl rfl ?_
        refine st_iadd hc dX12_pegs_24 ?_
        refine st_ialdN (k := 60 * d + i) hc dX12_pegs_25 rfl (by rw [show (60 : Int32) = nI 60 from rfl, pk_mul, nI_add]) (by omega) (by decide) rfl ?_
        refine st_t_if_lt (a := 1) (b := 0) hc dX12_pegs_26 dX12_pegs_29 dX12_pegs_30 dX12_pegs_33 (by decide) (by decide) ?_
        refine st_iadd hc dX12_pegs_34 ?_
        rw [show (if σ 36 (60 * d + i) < 0 then (0 : Int32) else 1) = nI (if decide (¬ σ 36 (60 * d + i) < 0) = true then 1 else 0) by
          by_cases q : σ 36 (60 * d + i) < 0
          · rw [if_pos q, if_neg (by simp [q])]; rfl
          · rw [if_neg q, if_pos (by simp only [q, not_false_eq_true, decide_true])]; rfl, nI_add]
        refine st_istore_n hc dX12_pegs_35 rfl (by decide) rfl ?_
        refine st_inc hc dX12_pegs_36 rfl (by decide) rfl ?_
        rw [nI_1]
        refine st_goto (tgt := 4) hc dX12_pegs_39 (by decide) ?_
        exact ih
  refine st_iconst (v := 0) hc dX12_pegs_0 (by decide) ?_
  refine st_istore_n hc dX12_pegs_1 rfl (by decide) rfl ?_
  refine st_iconst (v := 0) hc dX12_pegs_2 (by decide) ?_
  refine st_istore_n hc dX12_pegs_3 rfl (by decide) rfl ?_
  exact st_lvq _ (by simp [lvq, List.set, nI_0]) k4
def weightS (σ : St) (d : Nat) : Int32 :=
  let p := nI (pegsS σ d)
  if σ 37 d = 0 then p else if σ 37 d = 3 then p - (σ 35 d - p) else if σ 37 d = 1 then p + 10 else if σ 37 d = 2 then 2 * (p + 10) else 2 * (p + 10) + 1
theorem C12_weight (dd : Nat) (σ : St) (hs : shOK σ) (d : Nat) (hd : d < 6) : Mt YM mX12_weight (dd + 1) [.ref 0, .int (nI d)] σ (fun r τ => r = some (.int (weightS σ d)) ∧ τ = σ) := by
  refine Mt.ofA [some (.ref 0), some (.int (nI d)), none] (by decide) (fun _ => Nat.le_of_ble_eq_true rfl) (fun _ => rfl) (fun g hc => ?_)
  unfold weightS
  obtain ⟨x, ex⟩ : ∃ x, x = σ 37 d := ⟨_, rfl⟩
  rw [← ex]
  refine st_aload_n hc dX12_weight_0 rfl rfl ?_
  refine st_iload_n hc dX12_weight_1 rfl rfl ?_
  refine st_callVp hc dX12_weight_2 (C12_pegs dd σ hs d hd) mvX12_276 (by omega) rfl rfl rfl (Nat.le_of_ble_eq_true rfl) ?_
  refine st_istore_n hc dX12_weight_5 rfl (by decide) rfl ?_
  refine st_aload_n hc dX12_weight_6 rfl rfl ?_
  refine st_getr hc dX12_weight_7 flX12_133 rfl rfl ?_
  refine st_iload_n hc dX12_weight_10 rfl rfl ?_
  refine st_ialdN (k := d) hc dX12_weight_11 rfl (rfl) (by omega) (by decide) (ex.symm) ?_
  rcases sw_c 4 (by decide) x with hsw | ⟨ksw, hksw, esw⟩
  · refine st_tableOut (tgt := 69) hc dX12_weight_12 (by rcases hsw with q | q; exact Or.inl q; exact Or.inr (by omega)) (by decide) ?_
    have hne : ∀ j : Nat, j < 4 → ¬ x = nI j := fun j hj q => by
      rw [q, nI_toInt (by omega)] at hsw
      omega
    have n0 : ¬ x = 0 := hne 0 (by decide)
    have n1 : ¬ x = 1 := hne 1 (by decide)
    have n2 : ¬ x = 2 := hne 2 (by decide)
    have n3 : ¬ x = 3 := hne 3 (by decide)
    refine st_iconst (v := 2) hc dX12_weight_69 (by decide) ?_
    refine st_iload_n hc dX12_weight_70 rfl rfl ?_
    refine st_bipush (v := 10) hc dX12_weight_71 (by decide) ?_
    refine st_iadd hc dX12_weight_73 ?_
    refine st_imul hc dX12_weight_74 ?_
    refine st_iconst (v := 1) hc dX12_weight_75 (by decide) ?_
    refine st_iadd hc dX12_weight_76 ?_
    refine st_iret (st := []) hc dX12_weight_77 rfl ?_
    exact ⟨by simp only [n0, n1, n2, n3, if_false], rfl⟩
  · rcases (show ksw = 0 ∨ ksw = 1 ∨ ksw = 2 ∨ ksw = 3 by omega) with rfl | rfl | rfl | rfl
    · subst esw
      refine st_tableIn (off := 32) (tgt := 44) hc dX12_weight_12 (by decide) (by decide) (by decide) (by decide) ?_
      refine st_iload_n hc dX12_weight_44 rfl rfl ?_
      refine st_iret (st := []) hc dX12_weight_45 rfl ?_
      exact ⟨rfl, rfl⟩
    · subst esw
      refine st_tableIn (off := 45) (tgt := 57) hc dX12_weight_12 (by decide) (by decide) (by decide) (by decide) ?_
      refine st_iload_n hc dX12_weight_57 rfl rfl ?_
      refine st_bipush (v := 10) hc dX12_weight_58 (by decide) ?_
      refine st_iadd hc dX12_weight_60 ?_
      refine st_iret (st := []) hc dX12_weight_61 rfl ?_
      exact ⟨rfl, rfl⟩
    · subst esw
      refine st_tableIn (off := 50) (tgt := 62) hc dX12_weight_12 (by decide) (by decide) (by decide) (by decide) ?_
      refine st_iconst (v := 2) hc dX12_weight_62 (by decide) ?_
      refine st_iload_n hc dX12_weight_63 rfl rfl ?_
      refine st_bipush (v := 10) hc dX12_weight_64 (by decide) ?_
      refine st_iadd hc dX12_weight_66 ?_
      refine st_imul hc dX12_weight_67 ?_
      refine st_iret (st := []) hc dX12_weight_68 rfl ?_
      exact ⟨rfl, rfl⟩
    · subst esw
      refine st_tableIn (off := 34) (tgt := 46) hc dX12_weight_12 (by decide) (by decide) (by decide) (by decide) ?_
      refine st_iload_n hc dX12_weight_46 rfl rfl ?_
      refine st_aload_n hc dX12_weight_47 rfl rfl ?_
      refine st_getr hc dX12_weight_48 flX12_127 rfl rfl ?_
      refine st_iload_n hc dX12_weight_51 rfl rfl ?_
      refine st_ialdN (k := d) hc dX12_weight_52 rfl (rfl) (by omega) (by decide) rfl ?_
      refine st_iload_n hc dX12_weight_53 rfl rfl ?_
      refine st_isub hc dX12_weight_54 ?_
      refine st_isub hc dX12_weight_55 ?_
      refine st_iret (st := []) hc dX12_weight_56 rfl ?_
      exact ⟨rfl, rfl⟩
def sp_kept (σ : St) (d w : Int32) : Int32 × St :=
  if ¬ (0 ≤ d ∧ d ≤ 5) ∨ ¬ (0 ≤ w ∧ w ≤ 8) then (-1, t0 σ) else if σ 34 (nat d) = 0 then (-11, fnd σ) else if ¬ σ 34 (nat d) = 4 then (-12, fnd σ) else
  if w = 0 then (σ 37 (nat d), t0 σ) else if w = 1 then (weightS σ (nat d), t0 σ) else if w = 2 then (if σ 37 (nat d) = 0 then 1 else if σ 37 (nat d) = 3 then 0 else if σ 37 (nat d) = 4 then 7 else 2, t0 σ) else if w = 3 then (σ 35 (nat d), t0 σ) else if w - 4 < σ 35 (nat d) then (σ 36 (60 * nat d + (nat w - 4)), t0 σ) else (-13, fnd σ)
theorem C12_kept (σ : St) (hs : shOK σ) (d w : Int32) : Mt YM mX12_kept 9 [.ref 0, .int d, .int w] σ (fun r τ => r = some (.int (sp_kept σ d w).1) ∧ sE (sp_kept σ d w).2 τ) := by
  refine Mt.ofA [some (.ref 0), some (.int d), some (.int w), none] (by decide) (fun _ => Nat.le_of_ble_eq_true rfl) (fun _ => rfl) (fun g hc => ?_)
  unfold sp_kept
  refine st_aload_n hc dX12_kept_0 rfl rfl ?_
  refine st_iconst (v := 0) hc dX12_kept_1 (by decide) ?_
  refine st_put hc dX12_kept_2 fpX12_139 rfl rfl  ?_
  refine st_iload_n hc dX12_kept_5 rfl rfl ?_
  refine st_callSp hc dX12_kept_6 (C12_isShelf 0 _ d) msX12_270 (by omega) rfl rfl (Nat.le_of_ble_eq_true rfl) ?_
  refine st_if_eq (tgt := 22) hc dX12_kept_9 (by decide) (fun h9 => ?_) (fun h9 => ?_)
  · have h9 := it0.mp h9
    refine st_iconst (v := (-1)) hc dX12_kept_22 (by decide) ?_
    refine st_iret (st := []) hc dX12_kept_23 rfl ?_
    first
     | (rw [if_pos (Or.inl h9)]; exact ⟨rfl, sE.rf⟩)
     | (rw [if_pos (Or.inr h19)]; exact ⟨rfl, sE.rf⟩)
  · have h9 := it1.mp h9
    obtain ⟨ed, hd⟩ := sh_n h9
    obtain ⟨hs0, hs60⟩ := hs _ hd
    have es := (nI_nat hs0).symm
    refine st_iload_n hc dX12_kept_12 rfl rfl ?_
    refine st_iconst (v := 0) hc dX12_kept_13 (by decide) ?_
    refine st_bipush (v := 8) hc dX12_kept_14 (by decide) ?_
    refine st_callSp hc dX12_kept_16 (C12_in 0 _ w 0 8) msX12_142 (by omega) rfl rfl (Nat.le_of_ble_eq_true rfl) ?_
    refine st_if_ne (tgt := 24) hc dX12_kept_19 (by decide) (fun h19 => ?_) (fun h19 => ?_)
    · have h19 := it1.mp h19
      have hno : ¬ (¬ (0 ≤ d ∧ d ≤ 5) ∨ ¬ (0 ≤ w ∧ w ≤ 8)) := by rintro (q | q); exact q h9; exact q h19
      rw [if_neg hno]
      refine st_aload_n hc dX12_kept_24 rfl rfl ?_
      refine st_getr hc dX12_kept_25 flX12_124 rfl rfl ?_
      refine st_iload_n hc dX12_kept_28 rfl rfl ?_
      refine st_ialdN (k := nat d) hc dX12_kept_29 rfl (ed) (by omega) (by decide) (show _ = σ 34 (nat d) from rfl) ?_
      refine st_if_ne (tgt := 40) hc dX12_kept_30 (by decide) (fun h30 => ?_) (fun h30 => ?_)
      · refine st_aload_n hc dX12_kept_40 rfl rfl ?_
        refine st_getr hc dX12_kept_41 flX12_124 rfl rfl ?_
        refine st_iload_n hc dX12_kept_44 rfl rfl ?_
        refine st_ialdN (k := nat d) hc dX12_kept_45 rfl (ed) (by omega) (by decide) (show _ = σ 34 (nat d) from rfl) ?_
        refine st_iconst (v := 4) hc dX12_kept_46 (by decide) ?_
        refine st_icmp_eq (tgt := 57) hc dX12_kept_47 (by decide) (fun h47 => ?_) (fun h47 => ?_)
        · rw [if_neg h30, if_neg (fun q => q h47)]
          refine st_aload_n hc dX12_kept_57 rfl rfl ?_
          refine st_getr hc dX12_kept_58 flX12_133 rfl rfl ?_
          refine st_iload_n hc dX12_kept_61 rfl rfl ?_
          refine st_ialdN (k := nat d) hc dX12_kept_62 rfl (ed) (by omega) (by decide) (show _ = σ 37 (nat d) from rfl) ?_
          refine st_istore_n hc dX12_kept_63 rfl (by decide) rfl ?_
          refine st_iload_n hc dX12_kept_64 rfl rfl ?_
          rcases sw_c 4 (by decide) w with hsw | ⟨ksw, hksw, esw⟩
          · refine st_tableOut (tgt := 140) hc dX12_kept_65 (by rcases hsw with q | q; exact Or.inl q; exact Or.inr (by omega)) (by decide) ?_
            have hne : ∀ j : Nat, j < 4 → ¬ w = nI j := fun j hj q => by
              rw [q, nI_toInt (by omega)] at hsw
              omega
            have n0 : ¬ w = 0 := hne 0 (by decide)
            have n1 : ¬ w = 1 := hne 1 (by decide)
            have n2 : ¬ w = 2 := hne 2 (by decide)
            have n3 : ¬ w = 3 := hne 3 (by decide)
            rw [if_neg n0, if_neg n1, if_neg n2, if_neg n3]
            have ew := (nI_nat h19.1).symm
            have hw4 : 4 ≤ nat w := by
              rcases Nat.lt_or_ge (nat w) 4 with q | q
              · exact absurd ew (hne _ q)
              · exact q
            have hw8 : nat w ≤ 8 := (nI_leI (b := 8) (nat_lt w) (by decide)).mp (by rw [← ew]; exact h19.2)
            have ew4 : w - 4 = nI (nat w - 4) := by rw [ew, nat_nI (by omega), show (4 : Int32) = nI 4 from rfl, pk_sub hw4]
            refine st_iload_n hc dX12_kept_140 rfl rfl ?_
            refine st_iconst (v := 4) hc dX12_kept_141 (by decide) ?_
            refine st_isub hc dX12_kept_142 ?_
            refine st_aload_n hc dX12_kept_143 rfl rfl ?_
            refine st_getr hc dX12_kept_144 flX12_127 rfl rfl ?_
            refine st_iload_n hc dX12_kept_147 rfl rfl ?_
            refine st_ialdN (k := nat d) hc dX12_kept_148 rfl (ed) (by omega) (by decide) (show _ = σ 35 (nat d) from rfl) ?_
            refine st_icmp_ge (tgt := 168) hc dX12_kept_149 (by decide) (fun h149 => ?_) (fun h149 => ?_)
            · rw [if_neg (Int32.not_lt.mpr h149)]
              refine st_aload_n hc dX12_kept_168 rfl rfl ?_
              refine st_bipush (v := (-13)) hc dX12_kept_169 (by decide) ?_
              refine st_callVq hc dX12_kept_171 (C12_found 0 (t0 σ) (-13)) mvX12_202 (by omega) rfl rfl rfl (Nat.le_of_ble_eq_true rfl) ?_
              rintro _ rfl
              refine st_iret (st := []) hc dX12_kept_174 rfl ?_
              exact ⟨rfl, sE.rf⟩
            · rw [if_pos (Int32.not_le.mp h149)]
              have hlt : nat w - 4 < nat (σ 35 (nat d)) := by
                have := Int32.not_le.mp h149
                rw [ew4, es] at this
                exact (nI_ltI (by omega) (by omega)).mp this
              refine st_aload_n hc dX12_kept_152 rfl rfl ?_
              refine st_getr hc dX12_kept_153 flX12_130 rfl rfl ?_
              refine st_bipush (v := 60) hc dX12_kept_156 (by decide) ?_
              refine st_iload_n hc dX12_kept_158 rfl rfl ?_
              refine st_imul hc dX12_kept_159 ?_
              refine st_iload_n hc dX12_kept_160 rfl rfl ?_
              refine st_iadd hc dX12_kept_161 ?_
              refine st_iconst (v := 4) hc dX12_kept_162 (by decide) ?_
              refine st_isub hc dX12_kept_163 ?_
              refine st_ialdN (k := 60 * nat d + (nat w - 4)) hc dX12_kept_164 rfl (by rw [show (60 : Int32) = nI 60 from rfl, ed, ew, nat_nI (by omega), nat_nI (by omega), pk_mul, nI_add, show (4 : Int32) = nI 4 from rfl, pk_sub (by omega)]; congr 1; omega) (by omega) (by decide) rfl ?_
              refine st_goto (tgt := 174) hc dX12_kept_165 (by decide) ?_
              refine st_iret (st := []) hc dX12_kept_174 rfl ?_
              exact ⟨rfl, sE.rf⟩
          · rcases (show ksw = 0 ∨ ksw = 1 ∨ ksw = 2 ∨ ksw = 3 by omega) with rfl | rfl | rfl | rfl
            · subst esw
              refine st_tableIn (off := 31) (tgt := 96) hc dX12_kept_65 (by decide) (by decide) (by decide) (by decide) ?_
              refine st_iload_n hc dX12_kept_96 rfl rfl ?_
              refine st_iret (st := []) hc dX12_kept_97 rfl ?_
              exact ⟨rfl, sE.rf⟩
            · subst esw
              refine st_tableIn (off := 33) (tgt := 98) hc dX12_kept_65 (by decide) (by decide) (by decide) (by decide) ?_
              rw [ed]
              refine st_aload_n hc dX12_kept_98 rfl rfl ?_
              refine st_iload_n hc dX12_kept_99 rfl rfl ?_
              refine st_callVp hc dX12_kept_100 (C12_weight 3 (t0 σ) hs (nat d) hd) mvX12_279 (by omega) rfl rfl rfl (Nat.le_of_ble_eq_true rfl) ?_
              refine st_iret (st := []) hc dX12_kept_103 rfl ?_
              rw [← ed]; exact ⟨rfl, sE.rf⟩
            · subst esw
              refine st_tableIn (off := 39) (tgt := 104) hc dX12_kept_65 (by decide) (by decide) (by decide) (by decide) ?_
              refine st_iload_n hc dX12_kept_104 rfl rfl ?_
              refine st_if_ne (tgt := 112) hc dX12_kept_105 (by decide) (fun h105 => ?_) (fun h105 => ?_)
              · refine st_iload_n hc dX12_kept_112 rfl rfl ?_
                refine st_iconst (v := 3) hc dX12_kept_113 (by decide) ?_
                refine st_icmp_ne (tgt := 121) hc dX12_kept_114 (by decide) (fun h114 => ?_) (fun h114 => ?_)
                · refine st_iload_n hc dX12_kept_121 rfl rfl ?_
                  refine st_iconst (v := 4) hc dX12_kept_122 (by decide) ?_
                  refine st_icmp_ne (tgt := 131) hc dX12_kept_123 (by decide) (fun h123 => ?_) (fun h123 => ?_)
                  · refine st_iconst (v := 2) hc dX12_kept_131 (by decide) ?_
                    refine st_iret (st := []) hc dX12_kept_132 rfl ?_
                    refine ⟨?_, sE.rf⟩
                    show some (Value.int _) = some (Value.int (if σ 37 (nat d) = 0 then 1 else if σ 37 (nat d) = 3 then 0 else if σ 37 (nat d) = 4 then 7 else 2))
                    first
                      | rw [if_pos h105]
                      | rw [if_neg h105, if_pos h114]
                      | rw [if_neg h105, if_neg h114, if_pos h123]
                      | rw [if_neg h105, if_neg h114, if_neg h123]
                  · refine st_bipush (v := 7) hc dX12_kept_126 (by decide) ?_
                    refine st_goto (tgt := 132) hc dX12_kept_128 (by decide) ?_
                    refine st_iret (st := []) hc dX12_kept_132 rfl ?_
                    refine ⟨?_, sE.rf⟩
                    show some (Value.int _) = some (Value.int (if σ 37 (nat d) = 0 then 1 else if σ 37 (nat d) = 3 then 0 else if σ 37 (nat d) = 4 then 7 else 2))
                    first
                      | rw [if_pos h105]
                      | rw [if_neg h105, if_pos h114]
                      | rw [if_neg h105, if_neg h114, if_pos h123]
                      | rw [if_neg h105, if_neg h114, if_neg h123]
                · refine st_iconst (v := 0) hc dX12_kept_117 (by decide) ?_
                  refine st_goto (tgt := 132) hc dX12_kept_118 (by decide) ?_
                  refine st_iret (st := []) hc dX12_kept_132 rfl ?_
                  refine ⟨?_, sE.rf⟩
                  show some (Value.int _) = some (Value.int (if σ 37 (nat d) = 0 then 1 else if σ 37 (nat d) = 3 then 0 else if σ 37 (nat d) = 4 then 7 else 2))
                  first
                    | rw [if_pos h105]
                    | rw [if_neg h105, if_pos h114]
                    | rw [if_neg h105, if_neg h114, if_pos h123]
                    | rw [if_neg h105, if_neg h114, if_neg h123]
              · refine st_iconst (v := 1) hc dX12_kept_108 (by decide) ?_
                refine st_goto (tgt := 132) hc dX12_kept_109 (by decide) ?_
                refine st_iret (st := []) hc dX12_kept_132 rfl ?_
                refine ⟨?_, sE.rf⟩
                show some (Value.int _) = some (Value.int (if σ 37 (nat d) = 0 then 1 else if σ 37 (nat d) = 3 then 0 else if σ 37 (nat d) = 4 then 7 else 2))
                first
                  | rw [if_pos h105]
                  | rw [if_neg h105, if_pos h114]
                  | rw [if_neg h105, if_neg h114, if_pos h123]
                  | rw [if_neg h105, if_neg h114, if_neg h123]
            · subst esw
              refine st_tableIn (off := 68) (tgt := 133) hc dX12_kept_65 (by decide) (by decide) (by decide) (by decide) ?_
              refine st_aload_n hc dX12_kept_133 rfl rfl ?_
              refine st_getr hc dX12_kept_134 flX12_127 rfl rfl ?_
              refine st_iload_n hc dX12_kept_137 rfl rfl ?_
              refine st_ialdN (k := nat d) hc dX12_kept_138 rfl (ed) (by omega) (by decide) (show _ = σ 35 (nat d) from rfl) ?_
              refine st_iret (st := []) hc dX12_kept_139 rfl ?_
              exact ⟨rfl, sE.rf⟩
        · refine st_aload_n hc dX12_kept_50 rfl rfl ?_
          refine st_bipush (v := (-12)) hc dX12_kept_51 (by decide) ?_
          refine st_callVq hc dX12_kept_53 (C12_found 0 (t0 σ) (-12)) mvX12_202 (by omega) rfl rfl rfl (Nat.le_of_ble_eq_true rfl) ?_
          rintro _ rfl
          refine st_iret (st := []) hc dX12_kept_56 rfl ?_
          rw [if_neg h30, if_pos h47]; exact ⟨rfl, sE.rf⟩
      · refine st_aload_n hc dX12_kept_33 rfl rfl ?_
        refine st_bipush (v := (-11)) hc dX12_kept_34 (by decide) ?_
        refine st_callVq hc dX12_kept_36 (C12_found 0 (t0 σ) (-11)) mvX12_202 (by omega) rfl rfl rfl (Nat.le_of_ble_eq_true rfl) ?_
        rintro _ rfl
        refine st_iret (st := []) hc dX12_kept_39 rfl ?_
        rw [if_pos h30]; exact ⟨rfl, sE.rf⟩
    · have h19 := it0.mp h19
      refine st_iconst (v := (-1)) hc dX12_kept_22 (by decide) ?_
      refine st_iret (st := []) hc dX12_kept_23 rfl ?_
      first
       | (rw [if_pos (Or.inl h9)]; exact ⟨rfl, sE.rf⟩)
       | (rw [if_pos (Or.inr h19)]; exact ⟨rfl, sE.rf⟩)
def sp_toss (σ : St) (d : Int32) : Int32 × St :=
  if ¬ (0 ≤ d ∧ d ≤ 5) then (-1, t0 σ) else if σ 34 (nat d) = 0 then (-11, fnd σ) else if ¬ σ 34 (nat d) = 4 then (-12, fnd σ) else if pegsS σ (nat d) = 0 then (-15, fnd σ) else (1 + σ 37 (nat d), t0 σ)
theorem C12_toss (σ : St) (hs : shOK σ) (d : Int32) : Mt YM mX12_toss 9 [.ref 0, .int d] σ (fun r τ => r = some (.int (sp_toss σ d).1) ∧ sE (sp_toss σ d).2 τ) := by
  refine Mt.ofA [some (.ref 0), some (.int d)] (by decide) (fun _ => Nat.le_of_ble_eq_true rfl) (fun _ => rfl) (fun g hc => ?_)
  unfold sp_toss
  refine st_aload_n hc dX12_toss_0 rfl rfl ?_
  refine st_iconst (v := 0) hc dX12_toss_1 (by decide) ?_
  refine st_put hc dX12_toss_2 fpX12_139 rfl rfl  ?_
  refine st_iload_n hc dX12_toss_5 rfl rfl ?_
  refine st_callSp hc dX12_toss_6 (C12_isShelf 0 _ d) msX12_270 (by omega) rfl rfl (Nat.le_of_ble_eq_true rfl) ?_
  refine st_if_ne (tgt := 14) hc dX12_toss_9 (by decide) (fun h9 => ?_) (fun h9 => ?_)
  · have h9 := it1.mp h9
    obtain ⟨ed, hd⟩ := sh_n h9
    obtain ⟨hs0, hs60⟩ := hs _ hd
    have hpl : pegsS σ (nat d) ≤ nat (σ 35 (nat d)) := cnt_le _ _
    rw [if_neg (fun q => q h9)]
    refine st_aload_n hc dX12_toss_14 rfl rfl ?_
    refine st_getr hc dX12_toss_15 flX12_124 rfl rfl ?_
    refine st_iload_n hc dX12_toss_18 rfl rfl ?_
    refine st_ialdN (k := nat d) hc dX12_toss_19 rfl (ed) (by omega) (by decide) (show _ = σ 34 (nat d) from rfl) ?_
    refine st_if_ne (tgt := 30) hc dX12_toss_20 (by decide) (fun h20 => ?_) (fun h20 => ?_)
    · refine st_aload_n hc dX12_toss_30 rfl rfl ?_
      refine st_getr hc dX12_toss_31 flX12_124 rfl rfl ?_
      refine st_iload_n hc dX12_toss_34 rfl rfl ?_
      refine st_ialdN (k := nat d) hc dX12_toss_35 rfl (ed) (by omega) (by decide) (show _ = σ 34 (nat d) from rfl) ?_
      refine st_iconst (v := 4) hc dX12_toss_36 (by decide) ?_
      refine st_icmp_eq (tgt := 47) hc dX12_toss_37 (by decide) (fun h37 => ?_) (fun h37 => ?_)
      · rw [if_neg h20, if_neg (fun q => q h37), ed]
        refine st_aload_n hc dX12_toss_47 rfl rfl ?_
        refine st_iload_n hc dX12_toss_48 rfl rfl ?_
        refine st_callVp hc dX12_toss_49 (C12_pegs 3 (t0 σ) hs (nat d) hd) mvX12_276 (by omega) rfl rfl rfl (Nat.le_of_ble_eq_true rfl) ?_
        refine st_if_ne (tgt := 64) hc dX12_toss_52 (by decide) (fun h52 => ?_) (fun h52 => ?_)
        · have h52 : ¬ pegsS σ (nat d) = 0 := fun q => h52 (by rw [show pegsS (t0 σ) (nat d) = pegsS σ (nat d) from rfl, q]; rfl)
          rw [← ed, if_neg h52]
          refine st_iconst (v := 1) hc dX12_toss_64 (by decide) ?_
          refine st_aload_n hc dX12_toss_65 rfl rfl ?_
          refine st_getr hc dX12_toss_66 flX12_133 rfl rfl ?_
          refine st_iload_n hc dX12_toss_69 rfl rfl ?_
          refine st_ialdN (k := nat d) hc dX12_toss_70 rfl (ed) (by omega) (by decide) (show _ = σ 37 (nat d) from rfl) ?_
          refine st_iadd hc dX12_toss_71 ?_
          refine st_iret (st := []) hc dX12_toss_72 rfl ?_
          exact ⟨rfl, sE.rf⟩
        · have h52 : pegsS σ (nat d) = 0 := nI_inj (b := 0) (by omega) (by decide) h52
          rw [← ed, if_pos h52]
          refine st_aload_n hc dX12_toss_55 rfl rfl ?_
          refine st_bipush (v := (-15)) hc dX12_toss_56 (by decide) ?_
          refine st_callVq hc dX12_toss_58 (C12_found 0 (t0 σ) (-15)) mvX12_202 (by omega) rfl rfl rfl (Nat.le_of_ble_eq_true rfl) ?_
          rintro _ rfl
          refine st_goto (tgt := 72) hc dX12_toss_61 (by decide) ?_
          refine st_iret (st := []) hc dX12_toss_72 rfl ?_
          exact ⟨rfl, sE.rf⟩
      · refine st_aload_n hc dX12_toss_40 rfl rfl ?_
        refine st_bipush (v := (-12)) hc dX12_toss_41 (by decide) ?_
        refine st_callVq hc dX12_toss_43 (C12_found 0 (t0 σ) (-12)) mvX12_202 (by omega) rfl rfl rfl (Nat.le_of_ble_eq_true rfl) ?_
        rintro _ rfl
        refine st_iret (st := []) hc dX12_toss_46 rfl ?_
        rw [if_neg h20, if_pos h37]; exact ⟨rfl, sE.rf⟩
    · refine st_aload_n hc dX12_toss_23 rfl rfl ?_
      refine st_bipush (v := (-11)) hc dX12_toss_24 (by decide) ?_
      refine st_callVq hc dX12_toss_26 (C12_found 0 (t0 σ) (-11)) mvX12_202 (by omega) rfl rfl rfl (Nat.le_of_ble_eq_true rfl) ?_
      rintro _ rfl
      refine st_iret (st := []) hc dX12_toss_29 rfl ?_
      rw [if_pos h20]; exact ⟨rfl, sE.rf⟩
  · have h9 := it0.mp h9
    refine st_iconst (v := (-1)) hc dX12_toss_12 (by decide) ?_
    refine st_iret (st := []) hc dX12_toss_13 rfl ?_
    rw [if_pos h9]; exact ⟨rfl, sE.rf⟩
/-- a peg of a row as a hand takes it -/
def tkB (σ : St) (d : Nat) : Int32 := if σ 34 d = 2 then 65535 else -1
def tkV (σ : St) (d i k : Nat) : Int32 := if σ 36 (60 * d + i + k) = tkB σ d then -1 else σ 36 (60 * d + i + k)
def tkBad (σ : St) (d i : Nat) : Bool := anyN (pN σ) (fun k => decide (¬ σ 36 (60 * d + i + k) = tkB σ d ∧ ¬ (0 ≤ σ 36 (60 * d + i + k) ∧ σ 36 (60 * d + i + k) ≤ σ 0 1 - 1)))
abbrev tkS (σ : St) (d i : Nat) : St := va_up (t0 σ) 2 (rng 0 (pN σ) (tkV σ d i) (σ 2))
def sp_take (σ : St) (d i : Int32) : Int32 × St :=
  if ¬ (0 ≤ d ∧ d ≤ 5) then (-1, t0 σ) else if σ 34 (nat d) = 0 then (-11, fnd σ) else if σ 34 (nat d) = 4 then (-12, fnd σ) else if i < 0 ∨ nat (σ 35 (nat d)) < nat i + pN σ then (-13, fnd σ) else if tkBad σ (nat d) (nat i) = true then (-16, t0 σ) else (sortS (tkS σ (nat d) (nat i)), tkS σ (nat d) (nat i))
theorem C12_take (σ : St) (hm : MI σ) (hs : shOK σ) (d i : Int32) : Mt YM mX12_take 9 [.ref 0, .int d, .int i] σ (fun r τ => r = some (.int (sp_take σ d i).1) ∧ sE (sp_take σ d i).2 τ) := by
  obtain ⟨⟨hP, hC, hP1, hP5, hC1, hC8⟩, -⟩ := id hm.1
  refine Mt.ofA [some (.ref 0), some (.int d), some (.int i), none, none, none] (by decide) (fun _ => Nat.le_of_ble_eq_true rfl) (fun _ => rfl) (fun g hc => ?_)
  have k156 : ∀ (Q : Option Value → St → Prop) (D I : Nat), D < 6 → I + pN σ ≤ 60 → tkBad σ D I = false → (∀ τ, sE (tkS σ D I) τ → Q (some (.int (sortS (tkS σ D I)))) τ) → aW g YM 6 Q 156 [some (.ref 0), some (.int (nI D)), some (.int (nI I)), some (.int (tkB σ D)), some (.int (nI 0)), none] [] (t0 σ) := by
    intro Q D I hD hI hb hQ
    have h := lpN (n := pN σ) (F := fun k => aW g YM 6 Q 156 [some (.ref 0), some (.int (nI D)), some (.int (nI I)), some (.int (tkB σ D)), some (.int (nI k)), none] [] (va_up (t0 σ) 2 (rng 0 k (tkV σ D I) (σ 2)))) ?_ (fun k hk ih => ?_)
    · rw [rng_0, show va_up (t0 σ) 2 (σ 2) = t0 σ from vu_id (σ := t0 σ)] at h
      exact h
    · have hh : hOK (tkS σ D I) := by
        intro k hk
        have ek : tkS σ D I 2 k = tkV σ D I k := by
          show rng 0 (pN σ) (tkV σ D I) (σ 2) k = _
          unfold rng
          rw [if_pos ⟨Nat.zero_le _, by rw [Nat.zero_add]; exact hk⟩]
          rfl
        rw [ek]
        unfold tkV
        by_cases q : σ 36 (60 * D + I + k) = tkB σ D
        · rw [if_pos q]; exact Or.inl rfl
        · rw [if_neg q]
          have h1 := anyN_false hb k hk
          have h2 : 0 ≤ σ 36 (60 * D + I + k) ∧ σ 36 (60 * D + I + k) ≤ σ 0 1 - 1 := Decidable.byContradiction (fun z => by rw [decide_eq_true ⟨q, z⟩] at h1; cases h1)
          rw [hC] at h2
          exact Or.inr ((in_n (n := cN σ) (by omega)).mp h2)
      refine st_iload hc dX12_take_156 rfl ?_
      refine st_aload_n hc dX12_take_158 rfl rfl ?_
      refine st_getE hc dX12_take_159 flX12_7 rfl rfl (hP) ?_
      refine st_icmp_ge (tgt := 206) hc dX12_take_162 (by decide) (fun h162 => ?_) (fun h162 => ?_)
      · refine st_aload_n hc dX12_take_206 rfl rfl ?_
        refine st_callVq hc dX12_take_207 (C12_sortOf 3 (tkS σ D I) hm hh) mvX12_205 (by omega) rfl rfl rfl (Nat.le_of_ble_eq_true rfl) ?_
        rintro τ hτ
        refine st_iret (st := []) hc dX12_take_210 rfl ?_
        exact hQ τ hτ
      · exact absurd (nI_le (Nat.le_refl _) (by omega)) h162
    · refine st_iload hc dX12_take_156 rfl ?_
      refine st_aload_n hc dX12_take_158 rfl rfl ?_
      refine st_getE hc dX12_take_159 flX12_7 rfl rfl (hP) ?_
      refine st_icmp_ge (tgt := 206) hc dX12_take_162 (by decide) (fun h162 => ?_) (fun h162 => ?_)
      · exact absurd h162 (nI_ge hk (by omega))
      · refine st_aload_n hc dX12_take_165 rfl rfl ?_
        refine st_getr hc dX12_take_166 flX12_130 rfl rfl ?_
        refine st_bipush (v := 60) hc dX12_take_169 (by decide) ?_
        refine st_iload_n hc dX12_take_171 rfl rfl ?_
        refine st_imul hc dX12_take_172 ?_
        refine st_iload_n hc dX12_take_173 rfl rfl ?_
        refine st_iadd hc dX12_take_174 ?_
        refine st_iload hc dX12_take_175 rfl ?_
        refine st_iadd hc dX12_take_177 ?_
        refine st_ialdN (k := 60 * D + I + k) hc dX12_take_178 rfl (by rw [show (60 : Int32) = nI 60 from rfl, pk_mul, nI_add, nI_add]) (by omega) (by decide) (show _ = σ 36 (60 * D + I + k) from rfl) ?_
        refine st_istore hc dX12_take_179 (by decide) rfl ?_
        refine st_aload_n hc dX12_take_181 rfl rfl ?_
        refine st_getr hc dX12_take_182 flX12_23 rfl rfl ?_
        refine st_iload hc dX12_take_185 rfl ?_
        refine st_iload hc dX12_take_187 rfl ?_
        refine st_iload_n hc dX12_take_189 rfl rfl ?_
        refine st_icmp_ne (tgt := 197) hc dX12_take_190 (by decide) (fun h190 => ?_) (fun h190 => ?_)
        · have ev : tkV σ D I k = σ 36 (60 * D + I + k) := if_neg h190
          refine st_iload hc dX12_take_197 rfl ?_
          refine st_iastN (k := k) hc dX12_take_199 rfl (rfl) (by omega) (by decide)  ?_
          rw [vu_up, ← ev, show upd (rng 0 k (tkV σ D I) (σ 2)) k (tkV σ D I k) = rng 0 (k + 1) (tkV σ D I) (σ 2) by have := rng_s 0 k (tkV σ D I) (σ 2); rwa [Nat.zero_add] at this]
          refine st_inc hc dX12_take_200 rfl (by decide) rfl ?_
          rw [nI_1]
          refine st_goto (tgt := 156) hc dX12_take_203 (by decide) ?_
          exact st_lvq _ (by simp [lvq, List.set]) ih
        · have ev : tkV σ D I k = -1 := if_pos h190
          refine st_iconst (v := (-1)) hc dX12_take_193 (by decide) ?_
          refine st_goto (tgt := 199) hc dX12_take_194 (by decide) ?_
          refine st_iastN (k := k) hc dX12_take_199 rfl (rfl) (by omega) (by decide)  ?_
          rw [vu_up, ← ev, show upd (rng 0 k (tkV σ D I) (σ 2)) k (tkV σ D I k) = rng 0 (k + 1) (tkV σ D I) (σ 2) by have := rng_s 0 k (tkV σ D I) (σ 2); rwa [Nat.zero_add] at this]
          refine st_inc hc dX12_take_200 rfl (by decide) rfl ?_
          rw [nI_1]
          refine st_goto (tgt := 156) hc dX12_take_203 (by decide) ?_
          exact st_lvq _ (by simp [lvq, List.set]) ih
  have k98 : ∀ (Q : Option Value → St → Prop) (D I : Nat), D < 6 → I + pN σ ≤ 60 → (tkBad σ D I = true → Q (some (.int (-16))) (t0 σ)) → (tkBad σ D I = false → ∀ τ, sE (tkS σ D I) τ → Q (some (.int (sortS (tkS σ D I)))) τ) → aW g YM 6 Q 98 [some (.ref 0), some (.int (nI D)), some (.int (nI I)), some (.int (tkB σ D)), some (.int (nI 0)), none] [] (t0 σ) := by
    intro Q D I hD hI hQ1 hQ2
    refine lpN (n := pN σ) (F := fun k => anyN k (fun k => decide (¬ σ 36 (60 * D + I + k) = tkB σ D ∧ ¬ (0 ≤ σ 36 (60 * D + I + k) ∧ σ 36 (60 * D + I + k) ≤ σ 0 1 - 1))) = false → aW g YM 6 Q 98 [some (.ref 0), some (.int (nI D)), some (.int (nI I)), some (.int (tkB σ D)), some (.int (nI k)), none] [] (t0 σ)) ?_ (fun k hk ih => ?_) rfl
    · intro hb
      refine st_iload hc dX12_take_98 rfl ?_
      refine st_aload_n hc dX12_take_100 rfl rfl ?_
      refine st_getE hc dX12_take_101 flX12_7 rfl rfl (hP) ?_
      refine st_icmp_ge (tgt := 153) hc dX12_take_104 (by decide) (fun h104 => ?_) (fun h104 => ?_)
      · refine st_iconst (v := 0) hc dX12_take_153 (by decide) ?_
        refine st_istore hc dX12_take_154 (by decide) rfl ?_
        exact k156 Q D I hD hI hb (hQ2 hb)
      · exact absurd (nI_le (Nat.le_refl _) (by omega)) h104
    · intro hb
      refine st_iload hc dX12_take_98 rfl ?_
      refine st_aload_n hc dX12_take_100 rfl rfl ?_
      refine st_getE hc dX12_take_101 flX12_7 rfl rfl (hP) ?_
      refine st_icmp_ge (tgt := 153) hc dX12_take_104 (by decide) (fun h104 => ?_) (fun h104 => ?_)
      · exact absurd h104 (nI_ge hk (by omega))
      · refine st_aload_n hc dX12_take_107 rfl rfl ?_
        refine st_getr hc dX12_take_108 flX12_130 rfl rfl ?_
        refine st_bipush (v := 60) hc dX12_take_111 (by decide) ?_
        refine st_iload_n hc dX12_take_113 rfl rfl ?_
        refine st_imul hc dX12_take_114 ?_
        refine st_iload_n hc dX12_take_115 rfl rfl ?_
        refine st_iadd hc dX12_take_116 ?_
        refine st_iload hc dX12_take_117 rfl ?_
        refine st_iadd hc dX12_take_119 ?_
        refine st_ialdN (k := 60 * D + I + k) hc dX12_take_120 rfl (by rw [show (60 : Int32) = nI 60 from rfl, pk_mul, nI_add, nI_add]) (by omega) (by decide) (show _ = σ 36 (60 * D + I + k) from rfl) ?_
        refine st_istore hc dX12_take_121 (by decide) rfl ?_
        refine st_iload hc dX12_take_123 rfl ?_
        refine st_iload_n hc dX12_take_125 rfl rfl ?_
        refine st_icmp_eq (tgt := 147) hc dX12_take_126 (by decide) (fun h126 => ?_) (fun h126 => ?_)
        · refine st_inc hc dX12_take_147 rfl (by decide) rfl ?_
          rw [nI_1]
          refine st_goto (tgt := 98) hc dX12_take_150 (by decide) ?_
          refine st_lvq _ (by simp [lvq, List.set]) (ih ?_)
          rw [anyN_s, hb, Bool.false_or]
          first
            | exact decide_eq_false (fun q => q.1 h126)
            | exact decide_eq_false (fun q => q.2 h141)
        · refine st_iload hc dX12_take_129 rfl ?_
          refine st_iconst (v := 0) hc dX12_take_131 (by decide) ?_
          refine st_aload_n hc dX12_take_132 rfl rfl ?_
          refine st_getE hc dX12_take_133 flX12_13 rfl rfl rfl ?_
          refine st_iconst (v := 1) hc dX12_take_136 (by decide) ?_
          refine st_isub hc dX12_take_137 ?_
          refine st_callSp hc dX12_take_138 (C12_in 0 _ (σ 36 (60 * D + I + k)) 0 (σ 0 1 - 1)) msX12_142 (by omega) rfl rfl (Nat.le_of_ble_eq_true rfl) ?_
          refine st_if_ne (tgt := 147) hc dX12_take_141 (by decide) (fun h141 => ?_) (fun h141 => ?_)
          · have h141 := it1.mp h141
            refine st_inc hc dX12_take_147 rfl (by decide) rfl ?_
            rw [nI_1]
            refine st_goto (tgt := 98) hc dX12_take_150 (by decide) ?_
            refine st_lvq _ (by simp [lvq, List.set]) (ih ?_)
            rw [anyN_s, hb, Bool.false_or]
            first
              | exact decide_eq_false (fun q => q.1 h126)
              | exact decide_eq_false (fun q => q.2 h141)
          · have h141 := it0.mp h141
            refine st_bipush (v := (-16)) hc dX12_take_144 (by decide) ?_
            refine st_iret (st := []) hc dX12_take_146 rfl ?_
            exact hQ1 ((anyN_iff _ _).mpr ⟨k, hk, decide_eq_true ⟨h126, h141⟩⟩)
  unfold sp_take
  refine st_aload_n hc dX12_take_0 rfl rfl ?_
  refine st_iconst (v := 0) hc dX12_take_1 (by decide) ?_
  refine st_put hc dX12_take_2 fpX12_139 rfl rfl  ?_
  refine st_iload_n hc dX12_take_5 rfl rfl ?_
  refine st_callSp hc dX12_take_6 (C12_isShelf 0 _ d) msX12_270 (by omega) rfl rfl (Nat.le_of_ble_eq_true rfl) ?_
  refine st_if_ne (tgt := 14) hc dX12_take_9 (by decide) (fun h9 => ?_) (fun h9 => ?_)
  · have h9 := it1.mp h9
    obtain ⟨ed, hd⟩ := sh_n h9
    obtain ⟨hs0, hs60⟩ := hs _ hd
    rw [if_neg (fun q => q h9)]
    refine st_aload_n hc dX12_take_14 rfl rfl ?_
    refine st_getr hc dX12_take_15 flX12_124 rfl rfl ?_
    refine st_iload_n hc dX12_take_18 rfl rfl ?_
    refine st_ialdN (k := nat d) hc dX12_take_19 rfl (ed) (by omega) (by decide) (show _ = σ 34 (nat d) from rfl) ?_
    refine st_if_ne (tgt := 30) hc dX12_take_20 (by decide) (fun h20 => ?_) (fun h20 => ?_)
    · refine st_aload_n hc dX12_take_30 rfl rfl ?_
      refine st_getr hc dX12_take_31 flX12_124 rfl rfl ?_
      refine st_iload_n hc dX12_take_34 rfl rfl ?_
      refine st_ialdN (k := nat d) hc dX12_take_35 rfl (ed) (by omega) (by decide) (show _ = σ 34 (nat d) from rfl) ?_
      refine st_iconst (v := 4) hc dX12_take_36 (by decide) ?_
      refine st_icmp_ne (tgt := 47) hc dX12_take_37 (by decide) (fun h37 => ?_) (fun h37 => ?_)
      · rw [if_neg h20, if_neg h37]
        refine st_iload_n hc dX12_take_47 rfl rfl ?_
        refine st_if_lt (tgt := 70) hc dX12_take_48 (by decide) (fun h48 => ?_) (fun h48 => ?_)
        · refine st_aload_n hc dX12_take_70 rfl rfl ?_
          refine st_bipush (v := (-13)) hc dX12_take_71 (by decide) ?_
          refine st_callVq hc dX12_take_73 (C12_found 0 (t0 σ) (-13)) mvX12_202 (by omega) rfl rfl rfl (Nat.le_of_ble_eq_true rfl) ?_
          rintro _ rfl
          refine st_iret (st := []) hc dX12_take_76 rfl ?_
          first
           | (rw [if_pos (Or.inl h48)]; exact ⟨rfl, sE.rf⟩)
           | (rw [if_pos (Or.inr ((over (Int32.not_lt.mp h48) (show (0 : Int32) ≤ σ 0 0 by rw [hP]; exact nI_pos' (by omega)) hs0).mp (Int32.not_le.mp h67)))]; exact ⟨rfl, sE.rf⟩)
        · refine st_iload_n hc dX12_take_51 rfl rfl ?_
          refine st_i2l hc dX12_take_52 ?_
          refine st_aload_n hc dX12_take_53 rfl rfl ?_
          refine st_getE hc dX12_take_54 flX12_7 rfl rfl rfl ?_
          refine st_i2l hc dX12_take_57 ?_
          refine st_ladd hc dX12_take_58 ?_
          refine st_aload_n hc dX12_take_59 rfl rfl ?_
          refine st_getr hc dX12_take_60 flX12_127 rfl rfl ?_
          refine st_iload_n hc dX12_take_63 rfl rfl ?_
          refine st_ialdN (k := nat d) hc dX12_take_64 rfl (ed) (by omega) (by decide) (show _ = σ 35 (nat d) from rfl) ?_
          refine st_i2l hc dX12_take_65 ?_
          refine st_lcmp hc dX12_take_66 ?_
          refine st_if_le (tgt := 77) hc dX12_take_67 (by decide) (fun h67 => ?_) (fun h67 => ?_)
          · have o1 : ¬ nat (σ 35 (nat d)) < nat i + pN σ := fun q => absurd ((over (Int32.not_lt.mp h48) (show (0 : Int32) ≤ σ 0 0 by rw [hP]; exact nI_pos' (by omega)) hs0).mpr q) (Int32.not_lt.mpr h67)
            have hno : ¬ (i < 0 ∨ nat (σ 35 (nat d)) < nat i + pN σ) := by rintro (q | q); exact h48 q; exact o1 q
            rw [if_neg hno]
            have ei := (nI_nat (Int32.not_lt.mp h48)).symm
            refine st_aload_n hc dX12_take_77 rfl rfl ?_
            refine st_getr hc dX12_take_78 flX12_124 rfl rfl ?_
            refine st_iload_n hc dX12_take_81 rfl rfl ?_
            refine st_ialdN (k := nat d) hc dX12_take_82 rfl (ed) (by omega) (by decide) (show _ = σ 34 (nat d) from rfl) ?_
            refine st_iconst (v := 2) hc dX12_take_83 (by decide) ?_
            refine st_icmp_ne (tgt := 93) hc dX12_take_84 (by decide) (fun h84 => ?_) (fun h84 => ?_)
            · have eb : tkB σ (nat d) = -1 := if_neg h84
              refine st_iconst (v := (-1)) hc dX12_take_93 (by decide) ?_
              refine st_istore_n hc dX12_take_94 rfl (by decide) rfl ?_
              refine st_iconst (v := 0) hc dX12_take_95 (by decide) ?_
              refine st_istore hc dX12_take_96 (by decide) rfl ?_
              have h := k98 (fun r τ => r = some (.int (if tkBad σ (nat d) (nat i) = true then (-16, t0 σ) else (sortS (tkS σ (nat d) (nat i)), tkS σ (nat d) (nat i))).1) ∧ sE (if tkBad σ (nat d) (nat i) = true then (-16, t0 σ) else (sortS (tkS σ (nat d) (nat i)), tkS σ (nat d) (nat i))).2 τ) (nat d) (nat i) hd (by omega) (fun q => by rw [if_pos q]; exact ⟨rfl, sE.rf⟩) (fun q τ hτ => by rw [if_neg (by rw [q]; decide)]; exact ⟨rfl, hτ⟩)
              rw [← ed, ← ei, eb] at h
              exact h
            · have eb : tkB σ (nat d) = 65535 := if_pos h84
              refine st_ldcw hc dX12_take_87 kcX12_269 ?_
              refine st_goto (tgt := 94) hc dX12_take_90 (by decide) ?_
              refine st_istore_n hc dX12_take_94 rfl (by decide) rfl ?_
              refine st_iconst (v := 0) hc dX12_take_95 (by decide) ?_
              refine st_istore hc dX12_take_96 (by decide) rfl ?_
              have h := k98 (fun r τ => r = some (.int (if tkBad σ (nat d) (nat i) = true then (-16, t0 σ) else (sortS (tkS σ (nat d) (nat i)), tkS σ (nat d) (nat i))).1) ∧ sE (if tkBad σ (nat d) (nat i) = true then (-16, t0 σ) else (sortS (tkS σ (nat d) (nat i)), tkS σ (nat d) (nat i))).2 τ) (nat d) (nat i) hd (by omega) (fun q => by rw [if_pos q]; exact ⟨rfl, sE.rf⟩) (fun q τ hτ => by rw [if_neg (by rw [q]; decide)]; exact ⟨rfl, hτ⟩)
              rw [← ed, ← ei, eb] at h
              exact h
          · refine st_aload_n hc dX12_take_70 rfl rfl ?_
            refine st_bipush (v := (-13)) hc dX12_take_71 (by decide) ?_
            refine st_callVq hc dX12_take_73 (C12_found 0 (t0 σ) (-13)) mvX12_202 (by omega) rfl rfl rfl (Nat.le_of_ble_eq_true rfl) ?_
            rintro _ rfl
            refine st_iret (st := []) hc dX12_take_76 rfl ?_
            first
             | (rw [if_pos (Or.inl h48)]; exact ⟨rfl, sE.rf⟩)
             | (rw [if_pos (Or.inr ((over (Int32.not_lt.mp h48) (show (0 : Int32) ≤ σ 0 0 by rw [hP]; exact nI_pos' (by omega)) hs0).mp (Int32.not_le.mp h67)))]; exact ⟨rfl, sE.rf⟩)
      · refine st_aload_n hc dX12_take_40 rfl rfl ?_
        refine st_bipush (v := (-12)) hc dX12_take_41 (by decide) ?_
        refine st_callVq hc dX12_take_43 (C12_found 0 (t0 σ) (-12)) mvX12_202 (by omega) rfl rfl rfl (Nat.le_of_ble_eq_true rfl) ?_
        rintro _ rfl
        refine st_iret (st := []) hc dX12_take_46 rfl ?_
        rw [if_neg h20, if_pos h37]; exact ⟨rfl, sE.rf⟩
    · refine st_aload_n hc dX12_take_23 rfl rfl ?_
      refine st_bipush (v := (-11)) hc dX12_take_24 (by decide) ?_
      refine st_callVq hc dX12_take_26 (C12_found 0 (t0 σ) (-11)) mvX12_202 (by omega) rfl rfl rfl (Nat.le_of_ble_eq_true rfl) ?_
      rintro _ rfl
      refine st_iret (st := []) hc dX12_take_29 rfl ?_
      rw [if_pos h20]; exact ⟨rfl, sE.rf⟩
  · have h9 := it0.mp h9
    refine st_iconst (v := (-1)) hc dX12_take_12 (by decide) ?_
    refine st_iret (st := []) hc dX12_take_13 rfl ?_
    rw [if_pos h9]; exact ⟨rfl, sE.rf⟩

