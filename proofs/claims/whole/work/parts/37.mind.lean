/-! ===== what a master holds: sums, the first least, two rules ===== -/
theorem nO_s (τ : St) (m n : Nat) : nO τ m (n + 1) = nO τ m n + (if sm τ n = m then 1 else 0) := by
  unfold nO
  show cnt _ n + (if decide (sm τ n = m) = true then 1 else 0) = _
  simp
theorem nO_mono (τ : St) (m : Nat) {a b : Nat} (h : a ≤ b) : nO τ m a ≤ nO τ m b := by
  induction b with
  | zero => have e : a = 0 := by omega
            subst e; exact Nat.le_refl _
  | succ b ih =>
    by_cases e : a = b + 1
    · subst e; exact Nat.le_refl _
    · have := ih (by omega)
      rw [nO_s]; omega
theorem nO_lt (τ : St) {m s n : Nat} (h : s < n) (e : sm τ s = m) : nO τ m s < nO τ m n := by
  have h1 := nO_s τ m s
  rw [if_pos e] at h1
  have h2 := nO_mono τ m (show s + 1 ≤ n from h)
  omega
/-- the i-th saying of a master, among the first n -/
def owN (τ : St) (m : Nat) : Nat → Nat → Nat
  | 0, _ => 0
  | n + 1, i => if sm τ n = m ∧ nO τ m n = i then n else owN τ m n i
theorem owN_at (τ : St) {m : Nat} : ∀ n s, s < n → sm τ s = m → owN τ m n (nO τ m s) = s := by
  intro n
  induction n with
  | zero => intro s h; omega
  | succ n ih =>
    intro s h e
    unfold owN
    by_cases hs : s = n
    · subst hs; rw [if_pos ⟨e, rfl⟩]
    · have h1 := nO_lt τ (show s < n by omega) e
      rw [if_neg (fun hh => by omega)]
      exact ih s (by omega) e
theorem owN_in (τ : St) {m : Nat} : ∀ n i, i < nO τ m n → owN τ m n i < n ∧ sm τ (owN τ m n i) = m ∧ nO τ m (owN τ m n i) = i := by
  intro n
  induction n with
  | zero => intro i h; exact absurd h (Nat.not_lt_zero _)
  | succ n ih =>
    intro i h
    unfold owN
    by_cases hc : sm τ n = m ∧ nO τ m n = i
    · rw [if_pos hc]; exact ⟨by omega, hc.1, hc.2⟩
    · rw [if_neg hc]
      have h2 : i < nO τ m n := by
        rw [nO_s] at h
        by_cases e : sm τ n = m
        · rw [if_pos e] at h
          have : ¬ nO τ m n = i := fun x => hc ⟨e, x⟩
          omega
        · rw [if_neg e] at h; omega
      obtain ⟨a, b, c⟩ := ih i h2
      exact ⟨by omega, b, c⟩
def kO (τ : St) (m : Nat) : Nat := nO τ m (nS τ)
def ow (τ : St) (m i : Nat) : Nat := owN τ m (nS τ) i
theorem ow_at {τ : St} {m s : Nat} (h : s < nS τ) (e : sm τ s = m) : ow τ m (nO τ m s) = s := owN_at τ _ s h e
theorem ow_in {τ : St} {m i : Nat} (h : i < kO τ m) : ow τ m i < nS τ ∧ sm τ (ow τ m i) = m ∧ nO τ m (ow τ m i) = i := owN_in τ _ i h
def cR (τ : St) (m r i : Nat) : Nat := co τ (ow τ m i) r
def s1 (τ : St) (m r : Nat) : Nat := sumN (cR τ m r) (kO τ m)
def mn (a b : Nat) : Nat := if b ≤ a then b else a
def s2 (τ : St) (m a b : Nat) : Nat := pT τ + sumN (fun i => mn (cR τ m a i) (cR τ m b i)) (kO τ m)
/-- the index of the first least among the first n -/
def fmI (f : Nat → Nat) : Nat → Nat
  | 0 => 0
  | n + 1 => if f n < f (fmI f n) then n else fmI f n
theorem fmI_lt (f : Nat → Nat) : ∀ n, 0 < n → fmI f n < n := by
  intro n
  induction n with
  | zero => intro h; omega
  | succ n ih =>
    intro _
    unfold fmI
    split
    · omega
    · rcases Nat.eq_zero_or_pos n with h | h
      · subst h; exact Nat.zero_lt_one
      · have := ih h; omega
theorem fmI_le (f : Nat → Nat) : ∀ n i, i < n → f (fmI f n) ≤ f i := by
  intro n
  induction n with
  | zero => intro i h; omega
  | succ n ih =>
    intro i h
    unfold fmI
    by_cases e : i = n
    · subst e; split <;> omega
    · have := ih i (by omega)
      split <;> omega
def lst (τ : St) (m : Nat) : Nat := s1 τ m (fmI (s1 τ m) 244)
/-- the first least of two -/
def Bst (F : Nat → Nat → Nat) (D : Nat → Nat → Prop) (v0 v : Nat) (o : Option (Nat × Nat)) : Prop :=
  match o with
  | none => v = v0 ∧ ∀ i j, D i j → v0 ≤ F i j
  | some (l, g) => D l g ∧ v = F l g ∧ v < v0 ∧ (∀ i j, D i j → v ≤ F i j) ∧ ∀ i j, D i j → (i < l ∨ i = l ∧ j < g) → v < F i j
theorem Bst_uniq {F : Nat → Nat → Nat} {D : Nat → Nat → Prop} {v0 v v' : Nat} {o o' : Option (Nat × Nat)} (h : Bst F D v0 v o) (h' : Bst F D v0 v' o') : v = v' ∧ o = o' := by
  cases o with
  | none =>
    cases o' with
    | none => exact ⟨h.1.trans h'.1.symm, rfl⟩
    | some p =>
      obtain ⟨l, g⟩ := p
      have h1 := h.2 l g h'.1
      have h2 := h'.2.1
      have h3 := h'.2.2.1
      omega
  | some p =>
    obtain ⟨l, g⟩ := p
    cases o' with
    | none =>
      have h1 := h'.2 l g h.1
      have h2 := h.2.1
      have h3 := h.2.2.1
      omega
    | some p' =>
      obtain ⟨l', g'⟩ := p'
      obtain ⟨a1, a2, a3, a4, a5⟩ := h
      obtain ⟨b1, b2, b3, b4, b5⟩ := h'
      have c1 := a4 l' g' b1
      have c2 := b4 l g a1
      have e : v = v' := by omega
      refine ⟨e, ?_⟩
      have d1 : ¬ (l' < l ∨ l' = l ∧ g' < g) := fun x => by have := a5 l' g' b1 x; omega
      have d2 : ¬ (l < l' ∨ l = l' ∧ g < g') := fun x => by have := b5 l g a1 x; omega
      have e1 : l = l' := by omega
      have e2 : g = g' := by omega
      rw [e1, e2]
theorem Bst_step {F : Nat → Nat → Nat} {D D' : Nat → Nat → Prop} {v0 v a b : Nat} {o : Option (Nat × Nat)} (h : Bst F D v0 v o) (hv : v ≤ v0) (hD : ∀ i j, D' i j ↔ D i j ∨ i = a ∧ j = b) (hl : ∀ i j, D i j → i < a ∨ i = a ∧ j < b) : Bst F D' v0 (if F a b < v then F a b else v) (if F a b < v then some (a, b) else o) := by
  by_cases hc : F a b < v
  · rw [if_pos hc, if_pos hc]
    have hm : ∀ i j, D i j → v ≤ F i j := by
      intro i j hd
      cases o with
      | none => have := h.2 i j hd; omega
      | some p => obtain ⟨l, g⟩ := p; exact h.2.2.2.1 i j hd
    refine ⟨(hD a b).mpr (Or.inr ⟨rfl, rfl⟩), rfl, by omega, ?_, ?_⟩
    · intro i j hd
      rcases (hD i j).mp hd with x | ⟨x, y⟩
      · have := hm i j x; omega
      · subst x; subst y; exact Nat.le_refl _
    · intro i j hd hlt
      rcases (hD i j).mp hd with x | ⟨x, y⟩
      · have := hm i j x; omega
      · omega
  · rw [if_neg hc, if_neg hc]
    cases o with
    | none =>
      refine ⟨h.1, fun i j hd => ?_⟩
      rcases (hD i j).mp hd with x | ⟨x, y⟩
      · exact h.2 i j x
      · have := h.1; subst x; subst y; omega
    | some p =>
      obtain ⟨l, g⟩ := p
      obtain ⟨a1, a2, a3, a4, a5⟩ := h
      refine ⟨(hD l g).mpr (Or.inl a1), a2, a3, ?_, ?_⟩
      · intro i j hd
        rcases (hD i j).mp hd with x | ⟨x, y⟩
        · exact a4 i j x
        · subst x; subst y; omega
      · intro i j hd hlt
        rcases (hD i j).mp hd with x | ⟨x, y⟩
        · exact a5 i j x hlt
        · have := hl l g a1
          omega
