/-! ===== nine strains side by side ===== -/
set_option maxRecDepth 100000 in
theorem bc_eq : ∀ n, n < 512 → Int_bitCount (nI n) = nI (cnt (fun i => n.testBit i) 9) := by decide +kernel
theorem cnt_le (p : Nat → Bool) (n : Nat) : cnt p n ≤ n := by
  induction n with
  | zero => exact Nat.le_refl _
  | succ n ih => unfold cnt; split <;> omega
theorem cnt_congr {p q : Nat → Bool} {n : Nat} (h : ∀ i, i < n → p i = q i) : cnt p n = cnt q n := by
  induction n with
  | zero => rfl
  | succ n ih =>
    unfold cnt
    rw [ih (fun i hi => h i (by omega)), h n (by omega)]
/-- the sum of the first n -/
def sumN (f : Nat → Nat) : Nat → Nat
  | 0 => 0
  | n + 1 => sumN f n + f n
theorem sumN_congr {f g : Nat → Nat} {n : Nat} (h : ∀ i, i < n → f i = g i) : sumN f n = sumN g n := by
  induction n with
  | zero => rfl
  | succ n ih =>
    unfold sumN
    rw [ih (fun i hi => h i (by omega)), h n (by omega)]
theorem sumN_le {f : Nat → Nat} {n c : Nat} (h : ∀ i, i < n → f i ≤ c) : sumN f n ≤ n * c := by
  induction n with
  | zero => simp [sumN]
  | succ n ih =>
    unfold sumN
    have h1 := ih (fun i hi => h i (by omega))
    have h2 := h n (by omega)
    rw [Nat.succ_mul]
    omega
/-- the cost of levels, by their counts -/
theorem pc_sum (a s : Nat) (L : Nat → Nat) (hL : ∀ i, L i ≤ 2) (n : Nat) : sumN (fun i => pc_ a s (L i)) n = (if a < s then a else s) * cnt (fun i => decide (1 ≤ L i)) n + (s - (if a < s then a else s)) * cnt (fun i => decide (L i = 2)) n := by
  induction n with
  | zero => rfl
  | succ n ih =>
    unfold sumN cnt
    rw [ih]
    have h := hL n
    generalize hm : (if a < s then a else s) = mm
    have hms : mm ≤ s := by rw [← hm]; split <;> omega
    unfold pc_
    rw [hm]
    by_cases h0 : L n = 0
    · simp [h0]
    · by_cases h1 : L n = 1
      · simp [h1]
        rw [Nat.mul_add]; omega
      · have h2 : L n = 2 := by omega
        simp [h2]
        rw [Nat.mul_add, Nat.mul_add]
        omega
theorem cnt_cut {q : Nat → Bool} {k : Nat} : ∀ m, k ≤ m → cnt (fun i => decide (i < k) && q i) m = cnt q k := by
  intro m
  induction m with
  | zero => intro h; have e : k = 0 := by omega
            subst e; rfl
  | succ m ih =>
    intro h
    by_cases hk : k = m + 1
    · subst hk
      exact cnt_congr (fun i hi => by simp [hi])
    · have e : cnt (fun i => decide (i < k) && q i) (m + 1) = cnt (fun i => decide (i < k) && q i) m + (if (decide (m < k) && q m) = true then 1 else 0) := rfl
      have : ¬ m < k := by omega
      rw [e, ih (by omega)]
      simp [this]
/-- levels as bits: i is strained, 9 + i is stuck -/
def En (L : Nat → Nat) (k n : Nat) : Prop := n < 262144 ∧ (∀ i, i < 9 → n.testBit i = decide (i < k ∧ 1 ≤ L i)) ∧ ∀ i, i < 9 → n.testBit (9 + i) = decide (i < k ∧ L i = 2)
theorem sumOf_En {σ : St} {a s : Nat} {L : Nat → Nat} {k n : Nat} (ha : σ.1 10 0 0 = nI a) (hs : σ.1 10 0 1 = nI s) (ha9 : a ≤ 99) (hs9 : s ≤ 99) (hL : ∀ i, L i ≤ 2) (hk : k ≤ 9) (hE : En L k n) : Bn_sumOf (nI n) σ = nI (sumN (fun i => pc_ a s (L i)) k) := by
  obtain ⟨h1, h2, h3⟩ := hE
  have e1 : nI n &&& 511 = nI (n % 512) := pk_andN (by omega) (m := 511) 9 (by decide)
  have e2 : ush (nI n) 9 = nI (n / 512) := pk_ushrN (by omega) 9 9 (by decide)
  have e3 : imin (nI a) (nI s) = nI (if a < s then a else s) := by
    unfold imin
    have hlt : (nI s < nI a) ↔ s < a := nI_ltI (by omega) (by omega)
    simp only [hlt]
    by_cases h : s < a
    · rw [if_pos h, if_neg (by omega)]
    · rw [if_neg h]
      by_cases h' : a < s
      · rw [if_pos h']
      · rw [if_neg h', show a = s by omega]
  have hc1 : cnt (fun i => (n % 512).testBit i) 9 = cnt (fun i => decide (1 ≤ L i)) k := by
    rw [← cnt_cut (q := fun i => decide (1 ≤ L i)) 9 hk]
    refine cnt_congr (fun i hi => ?_)
    have e : (n % 512).testBit i = n.testBit i := by
      rw [show 512 = 2 ^ 9 from rfl, Nat.testBit_mod_two_pow]; simp [hi]
    rw [e, h2 i hi]
    simp
  have hc2 : cnt (fun i => (n / 512).testBit i) 9 = cnt (fun i => decide (L i = 2)) k := by
    rw [← cnt_cut (q := fun i => decide (L i = 2)) 9 hk]
    refine cnt_congr (fun i hi => ?_)
    have e : (n / 512).testBit i = n.testBit (9 + i) := by
      rw [show 512 = 2 ^ 9 from rfl, Nat.testBit_div_two_pow]; rw [Nat.add_comm]
    rw [e, h3 i hi]
    simp
  unfold Bn_sumOf
  rw [ha, hs, e1, e2, e3, bc_eq _ (Nat.mod_lt _ (by decide)), bc_eq _ (by omega), hc1, hc2, pc_sum a s L hL]
  have hm : (if a < s then a else s) ≤ s := by split <;> omega
  rw [pk_sub hm, pk_mul, pk_mul, nI_add]
