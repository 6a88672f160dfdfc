/-! ===== both new objects, side by side ===== -/
def mu0 : St := fun k => match k with
  | 0 => fun i => match i with
    | 0 => 3
    | 1 => 4
    | 2 => 64
    | 13 => -1
    | _ => 0
  | 2 => upd (upd (upd (upd (upd (fun _ => 0) 0 (-1)) 1 (-1)) 2 (-1)) 3 (-1)) 4 (-1)
  | _ => fun _ => 0
theorem csX12_at (dA : Nat → ClassId) (a : Nat) (k : Nat) (h : k < 39) : (csX12 dA a)[k]? = (YM[k]?).map (fun h => wE dA (adM a) mu0 k h) := by
  match k, h with
  | 0, _ => rfl
  | 1, _ => rfl
  | 2, _ => rfl
  | 3, _ => rfl
  | 4, _ => rfl
  | 5, _ => rfl
  | 6, _ => rfl
  | 7, _ => rfl
  | 8, _ => rfl
  | 9, _ => rfl
  | 10, _ => rfl
  | 11, _ => rfl
  | 12, _ => rfl
  | 13, _ => rfl
  | 14, _ => rfl
  | 15, _ => rfl
  | 16, _ => rfl
  | 17, _ => rfl
  | 18, _ => rfl
  | 19, _ => rfl
  | 20, _ => rfl
  | 21, _ => rfl
  | 22, _ => rfl
  | 23, _ => rfl
  | 24, _ => rfl
  | 25, _ => rfl
  | 26, _ => rfl
  | 27, _ => rfl
  | 28, _ => rfl
  | 29, _ => rfl
  | 30, _ => rfl
  | 31, _ => rfl
  | 32, _ => rfl
  | 33, _ => rfl
  | 34, _ => rfl
  | 35, _ => rfl
  | 36, _ => rfl
  | 37, _ => rfl
  | 38, _ => rfl
  | n + 39, h => exact absurd h (by omega)
theorem csX12_P {D : va_G} {dA : Nat → ClassId} {a : Nat} {H : Heap} (h : nP D a (csX12 dA a) H) : va_P D vwCl (wW dA (adM a) mu0 0 YM) H := by
  refine h.1.by (fun k => k) (fun k q hq => ?_)
  rw [wW_get] at hq
  have hk : k < 39 := by
    obtain ⟨x, hx, -⟩ := Option.map_eq_some_iff.mp hq
    exact (List.getElem?_eq_some_iff.mp hx).1
  have h1 := csX12_at dA a k hk
  rw [nWs_get, h1, Option.map_map]
  rw [Nat.zero_add] at hq
  exact hq
theorem adM_inj (a : Nat) : cD (adM a) YM := by
  intro i j hi hj h
  unfold adM at h
  omega
theorem up_same {σ : St} {k i : Nat} {x : Int32} (h : σ k i = x) : up σ k i x = σ := by
  funext a b
  rw [up_eq]
  by_cases q : a = k ∧ b = i
  · rw [if_pos q, q.1, q.2]; exact h.symm
  · rw [if_neg q]
theorem vu_same {σ : St} {k : Nat} {v : Nat → Int32} (h : ∀ i, v i = σ k i) : va_up σ k v = σ := by
  funext a
  unfold va_up
  by_cases q : a = k
  · rw [if_pos q, q]; funext i; exact h i
  · rw [if_neg q]
theorem mu0_bgn : sE (bgn mu0 3 4 64) mu0 := by
  have e : bgn mu0 3 4 64 = mu0 := by
    unfold bgn
    rw [show t0 mu0 = mu0 from up_same rfl, up_same (σ := mu0) (k := 0) (i := 0) (x := nI 3) rfl, up_same (σ := mu0) (k := 0) (i := 1) (x := nI 4) rfl, up_same (σ := mu0) (k := 0) (i := 2) (x := nI 64) rfl, up_same (σ := mu0) (k := 0) (i := 3) (x := 0) rfl, up_same (σ := mu0) (k := 0) (i := 4) (x := 0) rfl, up_same (σ := mu0) (k := 0) (i := 5) (x := 0) rfl]
    rw [vu_same (σ := mu0) (k := 1) (v := clr 4096 0 (mu0 1)) (fun i => by unfold clr; split <;> rfl), up_same (σ := mu0) (k := 0) (i := 7) (x := 0) rfl]
    rw [vu_same (σ := mu0) (k := 2) (v := clr 5 (-1) (mu0 2)) (fun i => by
      unfold clr
      by_cases q : i < 5
      · rw [if_pos q]
        rcases (show i = 0 ∨ i = 1 ∨ i = 2 ∨ i = 3 ∨ i = 4 by omega) with rfl | rfl | rfl | rfl | rfl <;> rfl
      · rw [if_neg q])]
    rw [up_same (σ := mu0) (k := 0) (i := 9) (x := 0) rfl, up_same (σ := mu0) (k := 0) (i := 13) (x := -1) rfl, up_same (σ := mu0) (k := 0) (i := 33) (x := 0) rfl, up_same (σ := mu0) (k := 0) (i := 43) (x := 0) rfl, up_same (σ := mu0) (k := 0) (i := 14) (x := 0) rfl]
  rw [e]
  exact sE.rf
theorem rel0 {τ : St} (h : stA sg0 3 4 τ) : Rel 1 τ mu0 := by
  have h1 : rlS 0 sg0 mu0 := ⟨0, rfl, by omega, Or.inl rfl⟩
  have h2 : rlF sg0 := ⟨⟨rfl, ⟨0, rfl, by omega⟩, Or.inl rfl⟩, ⟨rfl, ⟨0, rfl, by omega⟩, Or.inl rfl⟩⟩
  have h3 : rlV sg0 mu0 := by
    intro d hd
    have e0 : ∀ i, mu0 34 i = 0 := fun _ => rfl
    refine ⟨?_, ?_, ?_, fun i _ => ?_, ⟨0, by omega, rfl⟩, fun h => absurd (show (0 : Int32) = 4 from h) (by decide), fun h => absurd (show (0 : Int32) = 2 from h) (by decide)⟩
    · rcases (show d = 0 ∨ d = 1 ∨ d = 2 ∨ d = 3 ∨ d = 4 ∨ d = 5 by omega) with rfl | rfl | rfl | rfl | rfl | rfl <;> rfl
    · rcases (show d = 0 ∨ d = 1 ∨ d = 2 ∨ d = 3 ∨ d = 4 ∨ d = 5 by omega) with rfl | rfl | rfl | rfl | rfl | rfl <;> rfl
    · rcases (show d = 0 ∨ d = 1 ∨ d = 2 ∨ d = 3 ∨ d = 4 ∨ d = 5 by omega) with rfl | rfl | rfl | rfl | rfl | rfl <;> rfl
    · rcases (show d = 0 ∨ d = 1 ∨ d = 2 ∨ d = 3 ∨ d = 4 ∨ d = 5 by omega) with rfl | rfl | rfl | rfl | rfl | rfl <;> rfl
  have h4 : shOK mu0 := fun d _ => ⟨by show (0 : Int32) ≤ 0; decide, by show nat 0 ≤ 60; decide⟩
  have hr := Rel.bg (k := 0) (sz_of (by decide) (by decide) (by decide) (by decide) (by decide)) (by decide) h h1 h2 h3 h4
  exact hr.sE mu0_bgn
