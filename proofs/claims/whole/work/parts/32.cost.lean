/-! ===== a saying's strain and cost by a rule ===== -/
theorem vd_01 (r x : Nat) : vd r x = 0 ∨ vd r x = 1 := vA_01 r x 5
theorem xor_bit {x t : Nat} (hx : x < 32) (ht : t < 5) : nI x ^^^ ((1 : Int32) <<< (nI t &&& 31)) = nI (x ^^^ 2 ^ t) := by
  have h : ∀ x, x < 32 → ∀ t, t < 5 → nI x ^^^ ((1 : Int32) <<< (nI t &&& 31)) = nI (x ^^^ 2 ^ t) := by decide +kernel
  exact h x hx t ht
theorem xor_lt {x t : Nat} (hx : x < 32) (ht : t < 5) : x ^^^ 2 ^ t < 32 := by
  have h : ∀ x, x < 32 → ∀ t, t < 5 → x ^^^ 2 ^ t < 32 := by decide +kernel
  exact h x hx t ht
/-- the because is looked at (or there is none) -/
def lk (r : Nat) (b : Int32) : Bool := decide (b = -9) || decide (fg r (tn b) ≠ 0)
/-- some one trait more or less gives the answer -/
def am (r x a : Nat) : Bool := decide (vd r (x ^^^ 2 ^ 0) = a) || (decide (vd r (x ^^^ 2 ^ 1) = a) || (decide (vd r (x ^^^ 2 ^ 2) = a) || (decide (vd r (x ^^^ 2 ^ 3) = a) || decide (vd r (x ^^^ 2 ^ 4) = a))))
/-- 0 it fits, 1 it can be amended, 2 neither -/
def sl (r x a : Nat) (b : Int32) : Nat := if lk r b = false then 2 else if vd r x = a then 0 else if am r x a = true then 1 else 2
/-- a because as it may be -/
def okB (b : Int32) : Prop := b = -9 ∨ ∃ t, t < 5 ∧ b = nI t
def stv (k : Nat) : Int32 := if k = 0 then 0 else if k = 1 then 1 else 513
theorem Ru_looks {σ : St} (h9 : σ.1 9 0 = lkT) {r : Nat} {b : Int32} (hr : r < 244) (hb : okB b) : Ru_looksAt (nI r) b σ = some (if lk r b = true then 1 else 0) := by
  rcases hb with rfl | ⟨t, ht, rfl⟩
  · rw [Ru_looksAt_none]; simp [lk]
  · rw [Ru_looksAt_eq h9 hr ht]
    have hn : ¬ nI t = -9 := fun e => by
      have h : ∀ t, t < 5 → ¬ nI t = -9 := by decide
      exact h t ht e
    have e : tn (nI t) = t := tn_nI (by omega)
    unfold lk
    rw [e]
    by_cases h : fg r t = 0 <;> simp [h, hn]
theorem vd_eq {r x a : Nat} (ha : a < 2) : (nI (vd r x) = nI a) ↔ vd r x = a := nI_eq (by rcases vd_01 r x with h | h <;> omega) (by omega)
theorem Ru_strain_s {σ : St} (h8 : σ.1 8 0 = owT) {r x a t : Nat} (n : Nat) (hr : r < 244) (hx : x < 32) (ha : a < 2) (ht : t < 5) : Ru_strain_L29 (nI r) (nI x) (nI a) σ (n + 1) (nI t) = if vd r (x ^^^ 2 ^ t) = a then some 1 else Ru_strain_L29 (nI r) (nI x) (nI a) σ n (nI (t + 1)) := by
  rw [Ru_strain_L29, if_neg (show ¬ (5 : Int32) ≤ nI t from nI_ge (b := 5) ht (by decide)), xor_bit hx ht, Ru_verdict_eq h8 hr (xor_lt hx ht)]
  show (if nI (vd r (x ^^^ 2 ^ t)) = nI a then some 1 else _) = _
  simp only [vd_eq ha, nI_1]
theorem Ru_strain_eq {σ : St} (h8 : σ.1 8 0 = owT) (h9 : σ.1 9 0 = lkT) {r x a : Nat} {b : Int32} (hr : r < 244) (hx : x < 32) (ha : a < 2) (hb : okB b) : Ru_strain (nI r) (nI x) (nI a) b σ = some (stv (sl r x a b)) := by
  unfold Ru_strain
  rw [Ru_looks h9 hr hb, Ru_verdict_eq h8 hr hx]
  unfold sl stv
  cases hl : lk r b with
  | false => simp
  | true =>
    show (if nI (vd r x) = nI a then some 0 else _) = _
    simp only [vd_eq ha]
    by_cases hv : vd r x = a
    · simp [hv]
    · rw [if_neg hv, show (1100 : Nat) = 1094 + 6 from rfl, show (0 : Int32) = nI 0 from rfl, Ru_strain_s h8 _ hr hx ha (by decide), Ru_strain_s h8 _ hr hx ha (by decide), Ru_strain_s h8 _ hr hx ha (by decide), Ru_strain_s h8 _ hr hx ha (by decide), Ru_strain_s h8 _ hr hx ha (by decide), Ru_strain_L29, if_pos (show (5 : Int32) ≤ nI (4 + 1) from by decide)]
      unfold am
      by_cases c0 : vd r (x ^^^ 2 ^ 0) = a
      · simp [c0, hv]
      · by_cases c1 : vd r (x ^^^ 2 ^ (0 + 1)) = a
        · rw [if_neg c0, if_pos c1]; simp at c0 c1; simp [c1, hv]
        · by_cases c2 : vd r (x ^^^ 2 ^ (1 + 1)) = a
          · rw [if_neg c0, if_neg c1, if_pos c2]; simp at c2; simp [c2, hv]
          · by_cases c3 : vd r (x ^^^ 2 ^ (2 + 1)) = a
            · rw [if_neg c0, if_neg c1, if_neg c2, if_pos c3]; simp at c3; simp [c3, hv]
            · by_cases c4 : vd r (x ^^^ 2 ^ (3 + 1)) = a
              · rw [if_neg c0, if_neg c1, if_neg c2, if_neg c3, if_pos c4]; simp at c4; simp [c4, hv]
              · rw [if_neg c0, if_neg c1, if_neg c2, if_neg c3, if_neg c4]; simp at c0 c1 c2 c3 c4; simp [c0, c1, c2, c3, c4, hv]
theorem Ru_fitting_eq {σ : St} (h8 : σ.1 8 0 = owT) (h9 : σ.1 9 0 = lkT) {r x a : Nat} {b : Int32} (hr : r < 244) (hx : x < 32) (ha : a < 2) (hb : okB b) : Ru_fitting (nI r) (nI x) (nI a) b σ = some (if vd r x = a ∧ lk r b = true then 1 else 0) := by
  unfold Ru_fitting
  rw [Ru_looks h9 hr hb, Ru_verdict_eq h8 hr hx]
  show (if nI (vd r x) = nI a then _ else _) = _
  simp only [vd_eq ha]
  by_cases hv : vd r x = a
  · cases hl : lk r b <;> simp [hv]
  · simp [hv]
