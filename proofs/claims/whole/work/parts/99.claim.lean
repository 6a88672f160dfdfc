theorem gW_imp {g : Gx} {nL : Nat} {Z : State → Prop} {nc ns : Nat} {A : Nat → Prop} {pc : Nat} {lv : List (Option Value)} {st : List Value} {σ σ' : Heap → Prop} (h : ∀ H, σ H → σ' H) (k : gW g nL Z nc ns A pc lv st σ') : gW g nL Z nc ns A pc lv st σ := by
  obtain ⟨p, l, e, R, s, m, args, below, meth, c, D, dA, ad⟩ := g
  intro H locs ls hP hS hl
  exact k H locs ls (h H hP) hS hl
/-- from the entry, for every script of at most 3072 ints, the law comes to its end with true -/
theorem whole_start {p : Program} {e : Env} {s : State} {m : MethodId} {below : List Frame} {meth : Method} {c : Code} (l : Launch) (hlt : l.stackTraces = false) {b L : Nat} {xs : Nat → Int32} (hL : L ≤ 3072) (C0 : lw_At p s m meth c b L xs) : W p l e room_1 s m #[Value.ref b] below meth c s.heap [] 0 0 (lw_Z below #[Value.ref b] s) (entryFrame m ([Value.ref b] : List Value).toArray 7) := by
  obtain ⟨hx, hb, hrt, hml, hown, hts, hX, hbl, hlk, hgv⟩ := C0
  obtain ⟨hN, hTk, hAO⟩ := lw_dK hts hgv
  obtain ⟨D, dA, hK⟩ := lw_KD hts
  have hc : gX (p, l, e, room_1, s, m, #[Value.ref b], below, meth, c, D, dA, fun k => k) RL cL_law 7 ret 72 := ⟨hx, hb, hml, hrt, hlk, hown, fun w hw => hts w (List.mem_filter.mp hw).1, hK, rfl, ⟨by decide, by decide⟩, hN⟩
  have hl := lv_entry ([.ref b]) (n := 7) (Nat.le_of_ble_eq_true rfl)
  rw [lg_entry_eq]
  refine (?_ : gW (p, l, e, room_1, s, m, #[Value.ref b], below, meth, c, D, dA, fun k => k) 7 (lw_Z below #[Value.ref b] s) 0 0 (fun q => s.heap.size ≤ q) 0 [some (.ref b), none, none, none, none, none, none] [] (nP D s.heap.size [])) s.heap [] _ ⟨fun k q h => by simp [nWs] at h, rfl⟩ va_S.rf hl
  refine nt_new (g := (p, l, e, room_1, s, m, #[Value.ref b], below, meth, c, D, dA, fun k => k)) (b := s.heap.size) (ci := 11) (N := 12) (C := RX11) (T := TX11) (fs := f0X11) hc ⟨by show _ ≤ 601024; decide, by show _ ≤ 7293033; decide⟩ rfl inG11 tyX11 tyX11_ok (gw1 23 (by decide +kernel) rfl) (gw1 24 (by decide +kernel) rfl) (gw1 1 (by decide +kernel) rfl) dfX11 dL_law_0 rfl ?_
  refine gt_dup hc dL_law_3 rfl ?_
  refine lt_X11 hc hAO rfl ⟨by decide, by decide⟩ rfl (Nat.le_of_ble_eq_true rfl) dL_law_4 (fun τ hτ => ?_)
  refine gt_astore_n hc dL_law_7 rfl (by decide) rfl ?_
  have hst1 : ∀ H H1 : Heap, va_P D vwCl (wW dA (adC s.heap.size) τ 0 YC) H → (∀ q, q < H.size → H1[q]? = H[q]?) → va_P D vwCl (wW dA (adC s.heap.size) τ 0 YC) H1 := fun H H1 h hk => h.kept (fun k x hx => hk x.1 ((h k x hx).lt))
  have hsz1 : ∀ H : Heap, va_P D vwCl (wW dA (adC s.heap.size) τ 0 YC) H → s.heap.size + 74 ≤ H.size := fun H h => by
    have h1 := (h 73 _ (wW_at (k := 73) (σ := τ) (ad := adC s.heap.size) (dA := dA) yc73)).lt
    have h2 : adC s.heap.size 73 = s.heap.size + 73 := rfl
    have h1 : adC s.heap.size 73 < H.size := h1
    omega
  refine lt_new2 (σ := fun H => va_P D vwCl (wW dA (adC s.heap.size) τ 0 YC) H) (n := s.heap.size + 74) hc ⟨by show _ ≤ 601024; decide, by show _ ≤ 7293033; decide⟩ hst1 hsz1 dL_law_8 (fun b2 hb2 => ?_)
  refine gt_dup hc dL_law_11 rfl ?_
  refine lt_X12 (σ := fun H => va_P D vwCl (wW dA (adC s.heap.size) τ 0 YC) H) hc rfl ⟨by decide, by decide⟩ (show s.heap.size ≤ b2 by omega) (fun H H1 h hk => ?_) (Nat.le_of_ble_eq_true rfl) dL_law_12 ?_
  · refine h.kept (fun k x hx => hk x.1 ?_)
    rw [wW_get] at hx
    obtain ⟨y, hy, rfl⟩ := Option.map_eq_some_iff.mp hx
    have := adC_lt (a := s.heap.size) (show k < 74 from (List.getElem?_eq_some_iff.mp hy).1)
    rw [Nat.zero_add]
    omega
  refine gW_imp (σ' := fun H => va_P D vwCl (wW dA (adC s.heap.size) τ 0 YC) H ∧ va_P D vwCl (wW dA (adM b2) mu0 0 YM) H) (fun H h => ⟨h.1, csX12_P h.2⟩) ?_
  refine gt_astore_n hc dL_law_15 rfl (by decide) rfl ?_
  refine gt_iconst (v := 1) hc dL_law_16 (by decide) ?_
  refine lt_newl (n := b2 + 39) hc ⟨by show _ ≤ 601024; decide, by show _ ≤ 7293033; decide⟩ (fun H H1 h hk => ⟨hst1 H H1 h.1 hk, h.2.kept (fun k x hx => hk x.1 ((h.2 k x hx).lt))⟩) (fun H h => ?_) dL_law_17 (fun o ho => ?_)
  · have h1 := (h.2 38 _ (wW_at (k := 38) (σ := mu0) (ad := adM b2) (dA := dA) ym38)).lt
    have h1 : b2 + 38 < H.size := h1
    omega
  refine gt_astore_n hc dL_law_19 rfl (by decide) rfl ?_
  refine gt_iconst (v := 0) hc dL_law_20 (by decide) ?_
  refine gt_istore hc dL_law_21 (by decide) rfl ?_
  refine gW_imp (σ' := lP D dA s.heap.size b2 o τ mu0 (fun _ => 0)) (fun H h => ⟨h.1.1, h.1.2, h.2⟩) ?_
  exact lw_loop (g := (p, l, e, room_1, s, m, #[Value.ref b], below, meth, c, D, dA, fun k => k)) (b0 := b) (L := L) (xs := xs) (a := s.heap.size) (b := b2) (o := o) ⟨hc, ⟨hX, hbl, hL⟩, ⟨Nat.le_refl _, hb2, ho⟩, rfl, hlt, hTk⟩ 512 0 τ mu0 (fun _ => 0) (by omega) (by omega) (rel0 hτ)
