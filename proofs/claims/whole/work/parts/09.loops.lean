/-- a loop upwards: the state at i is F i -/
theorem lpN {n : Nat} {F : Nat → Prop} (hx : F n) (hs : ∀ i, i < n → F (i + 1) → F i) : F 0 := by
  have h : ∀ k i, i + k = n → F i := by
    intro k
    induction k with
    | zero => intro i hi; have : i = n := by omega
              subst this; exact hx
    | succ k ih => intro i hi; exact hs i (by omega) (ih (i + 1) (by omega))
  exact h n 0 (by omega)
/-- .. from i0 on -/
theorem lpF {i0 n : Nat} {F : Nat → Prop} (h0 : i0 ≤ n) (hx : F n) (hs : ∀ i, i0 ≤ i → i < n → F (i + 1) → F i) : F i0 := by
  have h : ∀ k i, i0 ≤ i → i + k = n → F i := by
    intro k
    induction k with
    | zero => intro i _ hi; have : i = n := by omega
              subst this; exact hx
    | succ k ih => intro i h1 hi; exact hs i h1 (by omega) (ih (i + 1) (by omega) (by omega))
  exact h (n - i0) i0 (Nat.le_refl _) (by omega)
def lvq : List (Option Value) → List (Option Value) → Prop
  | _, [] => True
  | [], none :: bs => lvq [] bs
  | [], some _ :: _ => False
  | _ :: as, none :: bs => lvq as bs
  | a :: as, some v :: bs => a = some v ∧ lvq as bs
theorem lvq_le : ∀ (b a : List (Option Value)), lvq a b → lvle a b := by
  intro b
  induction b with
  | nil => intro a _ i v h; simp at h
  | cons x b ih =>
    intro a h i v hv
    cases a with
    | nil =>
      cases x with
      | none =>
        cases i with
        | zero => simp at hv
        | succ i => have := ih [] h i v (by simpa using hv); simp at this
      | some w => exact absurd h (by simp [lvq])
    | cons y a =>
      cases x with
      | none =>
        cases i with
        | zero => simp at hv
        | succ i => have := ih a h i v (by simpa using hv); simpa using this
      | some w =>
        obtain ⟨h1, h2⟩ := h
        cases i with
        | zero => simp at hv; subst hv; simp [h1]
        | succ i => have := ih a h2 i v (by simpa using hv); simpa using this
theorem st_lvq {g : Gx} {Y : List Sh} {nL : Nat} {Q : Option Value → St → Prop} {pc : Nat} {lv : List (Option Value)} {st : List Value} {σ : St} (lv' : List (Option Value)) (h : lvq lv lv') (k : aW g Y nL Q pc lv' st σ) : aW g Y nL Q pc lv st σ := st_lv (lvq_le _ _ h) k
/-! stores by whole cells -/
theorem vu_s {σ : St} {k : Nat} {w : Nat → Int32} : va_up σ k w k = w := by unfold va_up; rw [if_pos rfl]
theorem vu_n {σ : St} {k j : Nat} {w : Nat → Int32} (h : j ≠ k) : va_up σ k w j = σ j := by unfold va_up; rw [if_neg h]
theorem vu_up {σ : St} {k i : Nat} {x : Int32} {w : Nat → Int32} : up (va_up σ k w) k i x = va_up σ k (upd w i x) := by
  unfold up
  rw [vu_s]
  funext a
  unfold va_up
  by_cases e : a = k <;> simp [e]
theorem vu_id {σ : St} {k : Nat} : va_up σ k (σ k) = σ := by
  funext a
  unfold va_up
  by_cases e : a = k <;> simp [e]
theorem vu_vu {σ : St} {k : Nat} {w v : Nat → Int32} : va_up (va_up σ k w) k v = va_up σ k v := by
  funext a
  unfold va_up
  by_cases e : a = k <;> simp [e]
theorem vu_cm {σ : St} {k j : Nat} {w v : Nat → Int32} (h : k ≠ j) : va_up (va_up σ k w) j v = va_up (va_up σ j v) k w := by
  funext a
  unfold va_up
  by_cases e : a = k
  · subst e; simp [h]
  · simp [e]
theorem vu_ud {σ : St} {k i : Nat} {x : Int32} : up σ k i x = va_up σ k (upd (σ k) i x) := rfl
theorem upd_s {f : Nat → Int32} {i : Nat} {x : Int32} : upd f i x i = x := by unfold upd; rw [if_pos rfl]
theorem upd_n {f : Nat → Int32} {i j : Nat} {x : Int32} (h : j ≠ i) : upd f i x j = f j := by unfold upd; rw [if_neg h]
theorem st_callVn {g : Gx} {Y : List Sh} {own : String} {cc : ByteArray} {nL : Nat} {ret : Option FieldType} {d : Nat} {Q : Option Value → St → Prop} {pc : Nat} {lv : List (Option Value)} {σ : St} {idx ci d' n b : Nat} {md : Md} {As rest st0 : List Value} {fs : List (Option Nat)} {P : St → Prop} (hc : cX g Y own cc nL ret d) (hdg : decode cc pc = .ok (.invokevirtual idx, 3)) (hM : Mt Y md d' (.ref b :: As) σ (fun r τ => r = none ∧ P τ)) (hL : MLv own idx ci md n) (hdd : d' + 1 ≤ d) (hn : As.length = n) (hy : Y[b]? = some (.inr (ci, fs))) (hst : st0 = As.reverse ++ .ref b :: rest) (hw : (rest.map fun v => v.category).sum ≤ 8)
    (kk : ∀ τ, P τ → aW g Y nL Q (pc + 3) lv rest τ) : aW g Y nL Q pc lv st0 σ := st_callV hc hdg hM hL hdd hn hy hst hw (fun r τ h => by rw [h.1]; exact kk τ h.2)
theorem st_callVq {g : Gx} {Y : List Sh} {own : String} {cc : ByteArray} {nL : Nat} {ret : Option FieldType} {d : Nat} {Q : Option Value → St → Prop} {pc : Nat} {lv : List (Option Value)} {σ : St} {idx ci d' n b : Nat} {md : Md} {As rest st0 : List Value} {fs : List (Option Nat)} {v : Value} {P : St → Prop} (hc : cX g Y own cc nL ret d) (hdg : decode cc pc = .ok (.invokevirtual idx, 3)) (hM : Mt Y md d' (.ref b :: As) σ (fun r τ => r = some v ∧ P τ)) (hL : MLv own idx ci md n) (hdd : d' + 1 ≤ d) (hn : As.length = n) (hy : Y[b]? = some (.inr (ci, fs))) (hst : st0 = As.reverse ++ .ref b :: rest) (hw : (rest.map fun v => v.category).sum ≤ 8)
    (kk : ∀ τ, P τ → aW g Y nL Q (pc + 3) lv (v :: rest) τ) : aW g Y nL Q pc lv st0 σ := st_callV hc hdg hM hL hdd hn hy hst hw (fun r τ h => by rw [h.1]; exact kk τ h.2)
theorem st_callSn {g : Gx} {Y : List Sh} {own : String} {cc : ByteArray} {nL : Nat} {ret : Option FieldType} {d : Nat} {Q : Option Value → St → Prop} {pc : Nat} {lv : List (Option Value)} {σ : St} {idx d' n : Nat} {md : Md} {As rest st0 : List Value} {P : St → Prop} (hc : cX g Y own cc nL ret d) (hdg : decode cc pc = .ok (.invokestatic idx, 3)) (hM : Mt Y md d' As σ (fun r τ => r = none ∧ P τ)) (hL : MLs own idx md n) (hdd : d' + 1 ≤ d) (hn : As.length = n) (hst : st0 = As.reverse ++ rest) (hw : (rest.map fun v => v.category).sum ≤ 8)
    (kk : ∀ τ, P τ → aW g Y nL Q (pc + 3) lv rest τ) : aW g Y nL Q pc lv st0 σ := st_callS hc hdg hM hL hdd hn hst hw (fun r τ h => by rw [h.1]; exact kk τ h.2)
