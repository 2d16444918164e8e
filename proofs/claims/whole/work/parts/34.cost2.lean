/-! ===== the reference's cost ===== -/
theorem M_fits_eq {τ : St} {s r x : Nat} (hs : s < 24) (hr : r < 244) (hx : x < 32) (ha : τ.1 20 0 s = nI (sa τ s)) (ha2 : sa τ s < 2) (hb : okB (τ.1 21 0 s)) : M_doesFit (nI s) (nI x) (nI r) τ = some (if vd r x = sa τ s ∧ lk r (τ.1 21 0 s) = true then 1 else 0) := by
  unfold M_doesFit
  have hc : (nI s).toNatClampNeg = s := nI_clamp (by omega)
  have hi : inb (nI s) 24 = true := inb_nI hs (by decide)
  rw [M_answer_eq hr hx]
  simp only [Option.bind_some, hi, if_true, hc, ha, vd_eq ha2]
  by_cases hv : vd r x = sa τ s
  · simp only [hv, if_true]
    rcases hb with hb | ⟨t, ht, hb⟩
    · simp [hb, lk]
    · have hn : ¬ nI t = -9 := fun e => by
        have h : ∀ t, t < 5 → ¬ nI t = -9 := by decide
        exact h t ht e
      rw [hb, if_neg hn, M_figure_eq hr ht]
      have e : tn (nI t) = t := tn_nI (by omega)
      have h3 := fg_lt r t
      show some (if nI (fg r t) ≤ 0 then 0 else 1) = _
      have hle : (nI (fg r t) ≤ 0) ↔ fg r t = 0 := by
        have := nI_leI (a := fg r t) (b := 0) (by omega) (by decide)
        rw [show (0 : Int32) = nI 0 from rfl, this]
        omega
      simp only [hle]
      unfold lk
      rw [e]
      by_cases h : fg r t = 0 <;> simp [h, hn]
  · simp [hv]
/-- the prices -/
def pA (τ : St) : Nat := tn (τ.1 24 0 0)
def pS (τ : St) : Nat := tn (τ.1 24 0 1)
def pT (τ : St) : Nat := tn (τ.1 24 0 2)
def pc_ (a s k : Nat) : Nat := if k = 0 then 0 else if k = 1 then (if a < s then a else s) else s
/-- what the saying s costs by the rule r -/
def co (τ : St) (s r : Nat) : Nat := pc_ (pA τ) (pS τ) (sl r (sx τ s) (sa τ s) (τ.1 21 0 s))
theorem M_cost_s {τ : St} (K : Int32 → Option Int32) {s r x t : Nat} (n : Nat) (hs : s < 24) (hr : r < 244) (hx : x < 32) (ht : t < 5) (ha : τ.1 20 0 s = nI (sa τ s)) (ha2 : sa τ s < 2) (hb : okB (τ.1 21 0 s)) (c : Bool) : M_costOf_L30 K (nI s) (nI r) (nI x) τ (n + 1) (if c = true then 1 else 0) (nI t) = M_costOf_L30 K (nI s) (nI r) (nI x) τ n (if (c || (decide (vd r (x ^^^ 2 ^ t) = sa τ s) && lk r (τ.1 21 0 s))) = true then 1 else 0) (nI (t + 1)) := by
  rw [M_costOf_L30, if_neg (show ¬ (5 : Int32) ≤ nI t from nI_ge (b := 5) ht (by decide)), xor_bit hx ht, M_fits_eq hs hr (xor_lt hx ht) ha ha2 hb]
  cases c with
  | true => simp [M_costOf_J61, nI_1]
  | false =>
    simp only [nI_1, Option.bind_some]
    by_cases hv : vd r (x ^^^ 2 ^ t) = sa τ s <;> cases hl : lk r (τ.1 21 0 s) <;> simp [hv]
