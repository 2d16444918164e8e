/-! ===== the pure part: numbers, views, the invariant ===== -/
abbrev tn (x : Int32) : Nat := x.toNatClampNeg
theorem tn_nI {n : Nat} (h : n < 2147483648) : tn (nI n) = n := nI_clamp h
theorem w_in {j n : Nat} (h : j < n) (hn : n < 2147483648) : Q_within (nI j) (nI n) = 1 := by
  unfold Q_within
  have h1 : ¬ nI j < 0 := nI_pos (by omega)
  have h2 : ¬ nI n ≤ nI j := nI_ge h hn
  simp [h1, h2]
theorem w_out {v : Int32} {n : Nat} (hn : n < 2147483648) (h : ¬ ∃ j, j < n ∧ v = nI j) : Q_within v (nI n) = 0 := by
  unfold Q_within
  rcases pk_ix v hn with h1 | h1 | h1
  · simp [h1]
  · simp [h1]
  · exact absurd h1 h
theorem m_in {j n : Nat} (h : j < n) (hn : n < 1073741824) : M_in (nI j) 0 (nI n - 1) = 1 := by
  unfold M_in
  have h1 : ¬ nI j < 0 := nI_pos (by omega)
  have h2 : ¬ nI n - 1 < nI j := by
    have e : (nI n - nI 1).toInt = (n : Int) - 1 := pk_sub_toInt (by omega) (by decide)
    rw [Int32.lt_iff_toInt_lt, nI_toInt (by omega)]
    show ¬ (nI n - nI 1).toInt < _
    omega
  simp [h1, h2]
theorem m_out {v : Int32} {n : Nat} (hn : n < 1073741824) (h : ¬ ∃ j, j < n ∧ v = nI j) : M_in v 0 (nI n - 1) = 0 := by
  unfold M_in
  rcases pk_ix v (n := n) (by omega) with h1 | h1 | h1
  · simp [h1]
  · have h2 : nI n - 1 < v := by
      have e : (nI n - nI 1).toInt = (n : Int) - 1 := pk_sub_toInt (by omega) (by decide)
      rw [Int32.le_iff_toInt_le, nI_toInt (by omega)] at h1
      rw [Int32.lt_iff_toInt_lt]
      show (nI n - nI 1).toInt < _
      omega
    simp [h2]
  · exact absurd h1 h
/-- the ints that count, by place of the reference's object -/
def kP (kd : Nat) : Bool := kd == 1 || kd == 5 || kd == 6 || kd == 8 || kd == 9 || kd == 11 || kd == 13 || kd == 14 || kd == 15 || kd == 17 || kd == 18 || kd == 19 || kd == 20 || kd == 21 || kd == 22 || kd == 24 || kd == 34 || kd == 35 || kd == 36
def kI (j : Nat) : Bool := j == 0 || j == 2 || j == 10 || j == 12 || j == 16 || j == 33
/-- two stores of the reference alike in what counts -/
def Eqm (τ τ' : St) : Prop := (∀ kd, kP kd = true → τ'.1 kd 0 = τ.1 kd 0) ∧ (∀ j, kI j = true → τ'.1 0 0 j = τ.1 0 0 j) ∧ τ'.2 3 = τ.2 3 ∧ τ'.2 4 = τ.2 4
theorem Eqm.rf (τ : St) : Eqm τ τ := ⟨fun _ _ => rfl, fun _ _ => rfl, rfl, rfl⟩
theorem Eqm.tr {a b c : St} (h1 : Eqm a b) (h2 : Eqm b c) : Eqm a c := ⟨fun k h => (h2.1 k h).trans (h1.1 k h), fun k h => (h2.2.1 k h).trans (h1.2.1 k h), h2.2.2.1.trans h1.2.2.1, h2.2.2.2.trans h1.2.2.2⟩
