/-! ===== rules: what they answer, on both sides ===== -/
def fg (r t : Nat) : Nat := if r = 243 then 0 else figT r t
def vA (r x : Nat) : Nat → Nat
  | 0 => if r = 243 then 0 else 1
  | t + 1 => if vA r x t = 0 then 0 else if fg r t = 0 then 1 else if x.testBit t = decide (fg r t = 1) then 1 else 0
/-- what the rule r answers of the set x -/
def vd (r x : Nat) : Nat := vA r x 5
theorem vA_01 (r x t : Nat) : vA r x t = 0 ∨ vA r x t = 1 := by
  cases t with
  | zero => unfold vA; split <;> simp
  | succ t => unfold vA; split <;> (try split) <;> (try split) <;> simp
theorem fg_lt (r t : Nat) : fg r t < 3 := by
  unfold fg
  split
  · decide
  · exact Nat.mod_lt _ (by decide)
theorem M_power_eq {t : Nat} (ht : t < 5) : M_power (nI t) = some (nI (3 ^ t)) := by
  have h : ∀ t, t < 5 → M_power (nI t) = some (nI (3 ^ t)) := by decide +kernel
  exact h t ht
theorem M_figure_eq {r t : Nat} (hr : r < 244) (ht : t < 5) : M_figure (nI r) (nI t) = some (nI (fg r t)) := by
  unfold M_figure fg
  by_cases h : r = 243
  · subst h; simp; rfl
  · have h1 : ¬ nI r = 243 := fun e => h ((nI_eq (b := 243) (by omega) (by decide)).mp e)
    rw [if_neg h1, if_neg h, M_power_eq ht]
    have hb : ∀ t, t < 5 → 0 < 3 ^ t ∧ 3 ^ t < 2 ^ 31 := by decide
    have h2 : ¬ nI (3 ^ t) = 0 := nI_ne0 (hb t ht).1 (hb t ht).2
    have h3 : r / 3 ^ t ≤ r := Nat.div_le_self _ _
    show (if ¬ nI (3 ^ t) = 0 then some (nI r / nI (3 ^ t) - nI r / nI (3 ^ t) / 3 * 3) else none) = _
    rw [if_pos h2, pk_div (by omega) (hb t ht).1 (hb t ht).2]
    exact congrArg some (pk_rem (d := 3) (by omega) (by decide) (by decide))
theorem M_has_eq {x t : Nat} (hx : x < 32) (ht : t < 5) : M_has (nI x) (nI t) = if x.testBit t = true then 1 else 0 := by
  have h : ∀ x, x < 32 → ∀ t, t < 5 → M_has (nI x) (nI t) = if x.testBit t = true then 1 else 0 := by decide +kernel
  exact h x hx t ht
theorem M_answer_s (K : Int32 → Option Int32) {r x t : Nat} (n : Nat) (hr : r < 244) (hx : x < 32) (ht : t < 5) : M_answer_L15 K (nI r) (nI x) (n + 1) (nI (vA r x t)) (nI t) = M_answer_L15 K (nI r) (nI x) n (nI (vA r x (t + 1))) (nI (t + 1)) := by
  rw [M_answer_L15, if_neg (show ¬ (5 : Int32) ≤ nI t from nI_ge (b := 5) ht (by decide)), M_figure_eq hr ht, M_has_eq hx ht]
  show M_answer_L15 K (nI r) (nI x) n _ (nI t + 1) = _
  rw [nI_1]
  congr 1
  have h0 : (nI (vA r x t) = 0) ↔ vA r x t = 0 := nI_eq (b := 0) (by rcases vA_01 r x t with h | h <;> omega) (by decide)
  have h1 : (nI (fg r t) = 0) ↔ fg r t = 0 := nI_eq (b := 0) (by have := fg_lt r t; omega) (by decide)
  have h2 : (nI (fg r t) = 1) ↔ fg r t = 1 := nI_eq (b := 1) (by have := fg_lt r t; omega) (by decide)
  simp only [h0, h1, h2]
  rw [show vA r x (t + 1) = if vA r x t = 0 then 0 else if fg r t = 0 then 1 else if x.testBit t = decide (fg r t = 1) then 1 else 0 from rfl]
  by_cases a : vA r x t = 0
  · simp [a]; rfl
  · by_cases b : fg r t = 0
    · simp [a, b]; rfl
    · by_cases c : fg r t = 1
      · cases hb : x.testBit t <;> simp [a, c] <;> rfl
      · cases hb : x.testBit t <;> simp [a, b, c] <;> rfl
theorem M_answer_eq {r x : Nat} (hr : r < 244) (hx : x < 32) : M_answer (nI r) (nI x) = some (nI (vd r x)) := by
  unfold M_answer
  have e0 : (if nI r = 243 then 0 else 1 : Int32) = nI (vA r x 0) := by
    have h1 : (nI r = 243) ↔ r = 243 := nI_eq (b := 243) (by omega) (by decide)
    simp only [h1, vA]
    by_cases h : r = 243 <;> simp [h] <;> rfl
  rw [e0, show (1100 : Nat) = 1094 + 6 from rfl, show (0 : Int32) = nI 0 from rfl, M_answer_s _ _ hr hx (by decide), M_answer_s _ _ hr hx (by decide), M_answer_s _ _ hr hx (by decide), M_answer_s _ _ hr hx (by decide), M_answer_s _ _ hr hx (by decide), M_answer_L15, if_pos (show (5 : Int32) ≤ nI (4 + 1) from by decide)]
  have h0 : vA r x (4 + 1) = vd r x := rfl
  rw [h0]
  rcases vA_01 r x 5 with h | h
  · rw [show vd r x = 0 from h]; rfl
  · rw [show vd r x = 1 from h]; rfl
set_option maxRecDepth 100000 in
theorem owT_vd : ∀ r, r < 244 → ∀ x, x < 32 → ush (owT r) (nI x) &&& 1 = nI (vd r x) := by decide +kernel
set_option maxRecDepth 100000 in
theorem lkT_fg : ∀ r, r < 244 → ∀ t, t < 5 → ush (lkT r) (nI t) &&& 1 = (if fg r t = 0 then 0 else 1) := by decide +kernel
theorem Ru_verdict_eq {σ : St} (h8 : σ.1 8 0 = owT) {r x : Nat} (hr : r < 244) (hx : x < 32) : Ru_verdict (nI r) (nI x) σ = some (nI (vd r x)) := by
  unfold Ru_verdict
  rw [if_pos (inb_nI hr (by decide)), nI_clamp (by omega), h8, owT_vd r hr x hx]
theorem Ru_looksAt_eq {σ : St} (h9 : σ.1 9 0 = lkT) {r t : Nat} (hr : r < 244) (ht : t < 5) : Ru_looksAt (nI r) (nI t) σ = some (if fg r t = 0 then 0 else 1) := by
  unfold Ru_looksAt
  have hn : ¬ nI t = -9 := fun e => by
    have h : ∀ t, t < 5 → ¬ nI t = -9 := by decide
    exact h t ht e
  rw [if_neg hn, if_pos (inb_nI hr (by decide)), nI_clamp (by omega), h9, lkT_fg r hr t ht]
  by_cases h : fg r t = 0 <;> simp [h]
theorem Ru_looksAt_none {σ : St} (v : Int32) : Ru_looksAt v (-9) σ = some 1 := by
  unfold Ru_looksAt
  rw [if_pos rfl]
