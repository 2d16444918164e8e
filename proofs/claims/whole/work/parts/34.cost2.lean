/-! ===== the reference's cost ===== -/
theorem M_fits_eq {τ : St} {s r x : Nat} (hs : s < 24) (hr : r < 244) (hx : x < 32) (ha : τ.1 20 0 s = nI (sa τ s)) (ha2 : sa τ s < 2) (hb : okB (τ.1 21 0 s)) : M_doesFit (nI s) (nI x) (nI r) τ = some (if vd r x = sa τ s ∧ lk r (τ.1 21 0 s) = true then 1 else 0) := by
  unfold M_doesFit
  have hc : (nI s).toNatClampNeg = s := nI_clamp (by omega)
  have hi : inb (nI s) 24 = true := inb_nI hs (by decide)
  rw [M_answer_eq hr hx]
  simp only [Option.bind_some, hi, if_true, hc, ha, vd_eq ha2]
  by_cases hv : vd r x = sa τ s
  · simp only [hv, if_true]
    rcases hb with hb | ⟨t, ht, hb⟩
    · simp [hb, lk]
    · have hn : ¬ nI t = -9 := fun e => by
        have h : ∀ t, t < 5 → ¬ nI t = -9 := by decide
        exact h t ht e
      rw [hb, if_neg hn, M_figure_eq hr ht]
      have e : tn (nI t) = t := tn_nI (by omega)
      have h3 := fg_lt r t
      show some (if nI (fg r t) ≤ 0 then 0 else 1) = _
      have hle : (nI (fg r t) ≤ 0) ↔ fg r t = 0 := by
        have := nI_leI (a := fg r t) (b := 0) (by omega) (by decide)
        rw [show (0 : Int32) = nI 0 from rfl, this]
        omega
      simp only [hle]
      unfold lk
      rw [e]
      by_cases h : fg r t = 0 <;> simp [h, hn]
  · simp [hv]
/-- the prices -/
def pA (τ : St) : Nat := tn (τ.1 24 0 0)
def pS (τ : St) : Nat := tn (τ.1 24 0 1)
def pT (τ : St) : Nat := tn (τ.1 24 0 2)
def pc_ (a s k : Nat) : Nat := if k = 0 then 0 else if k = 1 then (if a < s then a else s) else s
/-- what the saying s costs by the rule r -/
def co (τ : St) (s r : Nat) : Nat := pc_ (pA τ) (pS τ) (sl r (sx τ s) (sa τ s) (τ.1 21 0 s))
theorem M_cost_s {τ : St} (K : Int32 → Option Int32) {s r x t : Nat} (n : Nat) (hs : s < 24) (hr : r < 244) (hx : x < 32) (ht : t < 5) (ha : τ.1 20 0 s = nI (sa τ s)) (ha2 : sa τ s < 2) (hb : okB (τ.1 21 0 s)) (c : Bool) : M_costOf_L30 K (nI s) (nI r) (nI x) τ (n + 1) (if c = true then 1 else 0) (nI t) = M_costOf_L30 K (nI s) (nI r) (nI x) τ n (if (c || (decide (vd r (x ^^^ 2 ^ t) = sa τ s) && lk r (τ.1 21 0 s))) = true then 1 else 0) (nI (t + 1)) := by
  rw [M_costOf_L30, if_neg (show ¬ (5 : Int32) ≤ nI t from nI_ge (b := 5) ht (by decide)), xor_bit hx ht, M_fits_eq hs hr (xor_lt hx ht) ha ha2 hb]
  cases c with
  | true => simp [M_costOf_J61, nI_1]
  | false =>
    simp only [nI_1, Option.bind_some]
    by_cases hv : vd r (x ^^^ 2 ^ t) = sa τ s <;> cases hl : lk r (τ.1 21 0 s) <;> simp [hv]
/-- what is needed of a saying to weigh it -/
def okS (τ : St) (s : Nat) : Prop := s < 24 ∧ (τ.1 18 0 s = nI (sc τ s) ∧ sc τ s < 12) ∧ (τ.1 11 0 (sc τ s) = nI (sx τ s) ∧ sx τ s < 32) ∧ (τ.1 20 0 s = nI (sa τ s) ∧ sa τ s < 2) ∧ okB (τ.1 21 0 s)
def okP (τ : St) : Prop := (τ.1 24 0 0 = nI (pA τ) ∧ pA τ ≤ 99) ∧ (τ.1 24 0 1 = nI (pS τ) ∧ pS τ ≤ 99) ∧ (τ.1 24 0 2 = nI (pT τ) ∧ pT τ ≤ 99)
theorem M_costOf_eq {τ : St} {s r : Nat} (hS : okS τ s) (hP : okP τ) (hr : r < 244) : M_costOf (nI s) (nI r) τ = some (nI (co τ s r)) := by
  obtain ⟨hs, ⟨h1, h2⟩, ⟨h3, h4⟩, ⟨h5, h6⟩, h7⟩ := hS
  obtain ⟨⟨p1, p2⟩, ⟨p3, p4⟩, -⟩ := hP
  unfold M_costOf
  have hc : (nI s).toNatClampNeg = s := nI_clamp (by omega)
  have hc2 : (nI (sc τ s)).toNatClampNeg = sc τ s := nI_clamp (by omega)
  simp only [inb_nI hs (by decide), if_true, hc, h1, inb_nI h2 (by decide), hc2, h3]
  rw [M_fits_eq hs hr h4 h5 h6 h7]
  simp only [Option.bind_some]
  unfold co sl pc_
  by_cases hf : vd r (sx τ s) = sa τ s ∧ lk r (τ.1 21 0 s) = true
  · rw [if_pos hf, if_neg (by decide)]
    simp [hf.1, hf.2]
    rfl
  · rw [if_neg hf, if_pos rfl, show (1100 : Nat) = 1094 + 6 from rfl, show ∀ K, M_costOf_L30 K (nI s) (nI r) (nI (sx τ s)) τ (1094 + 6) 0 0 = M_costOf_L30 K (nI s) (nI r) (nI (sx τ s)) τ (1094 + 6) (if false = true then 1 else 0) (nI 0) from fun _ => rfl]
    rw [M_cost_s _ _ hs hr h4 (by decide) h5 h6 h7, M_cost_s _ _ hs hr h4 (by decide) h5 h6 h7, M_cost_s _ _ hs hr h4 (by decide) h5 h6 h7, M_cost_s _ _ hs hr h4 (by decide) h5 h6 h7, M_cost_s _ _ hs hr h4 (by decide) h5 h6 h7, M_costOf_L30, if_pos (show (5 : Int32) ≤ nI (4 + 1) from by decide)]
    have hle : (τ.1 24 0 1 ≤ τ.1 24 0 0) ↔ pS τ ≤ pA τ := by rw [p1, p3]; exact nI_leI (by omega) (by omega)
    simp only [hle]
    cases hl : lk r (τ.1 21 0 s) with
    | false => simp [p3]
    | true =>
      have hv : ¬ vd r (sx τ s) = sa τ s := fun h => hf ⟨h, hl⟩
      have hm : (false || (decide (vd r (sx τ s ^^^ 2 ^ 0) = sa τ s) && true) || (decide (vd r (sx τ s ^^^ 2 ^ (0 + 1)) = sa τ s) && true) || (decide (vd r (sx τ s ^^^ 2 ^ (0 + 1 + 1)) = sa τ s) && true) || (decide (vd r (sx τ s ^^^ 2 ^ (0 + 1 + 1 + 1)) = sa τ s) && true) || (decide (vd r (sx τ s ^^^ 2 ^ (0 + 1 + 1 + 1 + 1)) = sa τ s) && true)) = am r (sx τ s) (sa τ s) := by
        unfold am
        simp [Bool.or_assoc]
      rw [hm]
      cases ha : am r (sx τ s) (sa τ s) with
      | false => simp [hv, p3]
      | true =>
        by_cases hp : pA τ < pS τ
        · simp [hv, hp, p1, show ¬ pS τ ≤ pA τ by omega]
        · simp [hv, hp, p3, show pS τ ≤ pA τ by omega]
