/-! ===== stores alike in what counts: the invariant is kept ===== -/
theorem Eqm.v {τ τ' : St} (h : Eqm τ τ') : nC τ' = nC τ ∧ nM τ' = nM τ ∧ nS τ' = nS τ ∧ nV τ' = nV τ ∧ sm τ' = sm τ ∧ sc τ' = sc τ ∧ sy τ' = sy τ ∧ sa τ' = sa τ ∧ cs τ' = cs τ ∧ sx τ' = sx τ ∧ nO τ' = nO τ ∧ leads τ' = leads τ := by
  have e17 := h.1 17 rfl
  have e18 := h.1 18 rfl
  have e11 := h.1 11 rfl
  have hsm : sm τ' = sm τ := by funext s; unfold sm; rw [e17]
  have hsc : sc τ' = sc τ := by funext s; unfold sc; rw [e18]
  have hcs : cs τ' = cs τ := by funext s; unfold cs; rw [e11]
  refine ⟨?_, ?_, ?_, ?_, hsm, hsc, ?_, ?_, hcs, ?_, ?_, ?_⟩
  · unfold nC; rw [h.2.1 10 rfl]
  · unfold nM; rw [h.2.1 12 rfl]
  · unfold nS; rw [h.2.1 16 rfl]
  · unfold nV; rw [h.2.1 33 rfl]
  · funext s; unfold sy; rw [h.1 19 rfl]
  · funext s; unfold sa; rw [h.1 20 rfl]
  · funext s; unfold sx; rw [hsc, hcs]
  · funext m n; unfold nO; rw [hsm]
  · funext n
    induction n with
    | zero => funext v b; rfl
    | succ n ih => funext v b; unfold leads; rw [ih, h.1 15 rfl]
theorem WF_eq {τ τ' : St} (h : Eqm τ τ') (w : WF τ) : WF τ' := by
  obtain ⟨v1, v2, v3, v4, v5, v6, v7, v8, v9, v10, v11, v12⟩ := h.v
  have e0 := h.2.1 0 rfl
  have e10 := h.2.1 10 rfl
  have e12 := h.2.1 12 rfl
  have e16 := h.2.1 16 rfl
  have e33 := h.2.1 33 rfl
  have k5 := h.1 5 rfl
  have k8 := h.1 8 rfl
  have k9 := h.1 9 rfl
  have k11 := h.1 11 rfl
  have k13 := h.1 13 rfl
  have k14 := h.1 14 rfl
  have k15 := h.1 15 rfl
  have k17 := h.1 17 rfl
  have k18 := h.1 18 rfl
  have k19 := h.1 19 rfl
  have k20 := h.1 20 rfl
  have k21 := h.1 21 rfl
  have k22 := h.1 22 rfl
  have k24 := h.1 24 rfl
  have k34 := h.1 34 rfl
  have k35 := h.1 35 rfl
  have k36 := h.1 36 rfl
  simp only [WF, W_cnt, W_row, W_text, W_case, W_mas, W_say, W_nine, W_pr, W_cp, W_mov, okMv, v1, v2, v3, v4, v5, v6, v7, v8, v9, v11, e10, e12, e16, e33, k5, k8, k9, k11, k13, k14, k15, k17, k18, k19, k20, k21, k22, k24, k34, k35, k36] at w ⊢
  exact w
/-- the class's kinds that count whole -/
def cP (kd : Nat) : Bool := kd == 6 || kd == 8 || kd == 9 || kd == 14 || kd == 18 || kd == 19 || kd == 21 || kd == 22 || kd == 23 || kd == 26 || kd == 27
/-- the class's single places that count -/
def cI (kd j : Nat) : Bool := kd == 0 && (j == 6 || j == 7) || kd == 3 && (j == 3 || j == 5 || j == 7) || kd == 4 && j == 1 || kd == 10 && (j == 0 || j == 1 || j == 2) || kd == 20 && j == 1 || kd == 28 && (j == 0 || j == 1 || j == 2)
/-- two stores of the class alike in what counts, the minds aside -/
def Eqc (σ σ' : St) : Prop := (∀ kd, cP kd = true → σ'.1 kd = σ.1 kd) ∧ (∀ kd j, cI kd j = true → ∀ n, σ'.1 kd n j = σ.1 kd n j) ∧ σ'.2 8 = σ.2 8 ∧ σ'.2 9 = σ.2 9
/-- the minds alike -/
def Eqd (σ σ' : St) : Prop := σ'.1 24 = σ.1 24 ∧ σ'.1 25 = σ.1 25
theorem Eqc.rf (σ : St) : Eqc σ σ := ⟨fun _ _ => rfl, fun _ _ _ _ => rfl, rfl, rfl⟩
theorem Eqc.tr {a b c : St} (h1 : Eqc a b) (h2 : Eqc b c) : Eqc a c := ⟨fun k h => (h2.1 k h).trans (h1.1 k h), fun k j h n => (h2.2.1 k j h n).trans (h1.2.1 k j h n), h2.2.2.1.trans h1.2.2.1, h2.2.2.2.trans h1.2.2.2⟩
theorem Eqd.rf (σ : St) : Eqd σ σ := ⟨rfl, rfl⟩
theorem Eqd.tr {a b c : St} (h1 : Eqd a b) (h2 : Eqd b c) : Eqd a c := ⟨h2.1.trans h1.1, h2.2.trans h1.2⟩
theorem RC_eqc {σ σ' τ : St} (h : Eqc σ σ') (r : RC σ τ) : RC σ' τ := by
  have k6 := h.1 6 rfl
  have k8 := h.1 8 rfl
  have k9 := h.1 9 rfl
  have k14 := h.1 14 rfl
  have k18 := h.1 18 rfl
  have k19 := h.1 19 rfl
  have k21 := h.1 21 rfl
  have k22 := h.1 22 rfl
  have k23 := h.1 23 rfl
  have k26 := h.1 26 rfl
  have k27 := h.1 27 rfl
  have i06 := h.2.1 0 6 rfl
  have i07 := h.2.1 0 7 rfl
  have i33 := h.2.1 3 3 rfl
  have i35 := h.2.1 3 5 rfl
  have i37 := h.2.1 3 7 rfl
  have i41 := h.2.1 4 1 rfl
  have i20 := h.2.1 20 1 rfl
  have i280 := h.2.1 28 0 rfl
  have i281 := h.2.1 28 1 rfl
  have i282 := h.2.1 28 2 rfl
  obtain ⟨r1, r2, r3, r4, r5, r6, r7, r8, r9, r10⟩ := r
  refine ⟨?_, ?_, ?_, ?_, ?_, ?_, ?_, ?_, ?_, ?_⟩
  · simp only [R_row, k18, k19] at r1 ⊢; exact r1
  · simp only [R_text, k21, i20] at r2 ⊢; exact r2
  · simp only [R_case, k14, i33] at r3 ⊢; exact r3
  · simp only [R_mas, k22, i35] at r4 ⊢; exact r4
  · simp only [R_say, k26, k27, i37] at r5 ⊢; exact r5
  · simp only [R_own, k22, k23] at r6 ⊢; exact r6
  · intro k hk
    have : k = 0 ∨ k = 1 ∨ k = 2 := by omega
    rcases this with e | e | e <;> subst e
    · rw [h.2.1 10 0 rfl]; exact r7 0 (by decide)
    · rw [h.2.1 10 1 rfl]; exact r7 1 (by decide)
    · rw [h.2.1 10 2 rfl]; exact r7 2 (by decide)
  · simp only [R_rul, k8, k9] at r8 ⊢; exact r8
  · simp only [R_mov, i41, i280, i281, i282] at r9 ⊢; exact r9
  · simp only [R_misc, i06, i07, k6, h.2.2.1, h.2.2.2] at r10 ⊢; exact r10
theorem RC_eqm {σ τ τ' : St} (h : Eqm τ τ') (r : RC σ τ) : RC σ τ' := by
  obtain ⟨v1, v2, v3, v4, v5, v6, v7, v8, v9, v10, v11, v12⟩ := h.v
  have e0 := h.2.1 0 rfl
  have e2 := h.2.1 2 rfl
  have e10 := h.2.1 10 rfl
  have e12 := h.2.1 12 rfl
  have e16 := h.2.1 16 rfl
  have e33 := h.2.1 33 rfl
  have k1 := h.1 1 rfl
  have k5 := h.1 5 rfl
  have k6 := h.1 6 rfl
  have k8 := h.1 8 rfl
  have k9 := h.1 9 rfl
  have k11 := h.1 11 rfl
  have k13 := h.1 13 rfl
  have k14 := h.1 14 rfl
  have k15 := h.1 15 rfl
  have k17 := h.1 17 rfl
  have k18 := h.1 18 rfl
  have k19 := h.1 19 rfl
  have k20 := h.1 20 rfl
  have k21 := h.1 21 rfl
  have k22 := h.1 22 rfl
  have k24 := h.1 24 rfl
  have k34 := h.1 34 rfl
  have k35 := h.1 35 rfl
  have k36 := h.1 36 rfl
  simp only [RC, R_row, R_text, R_case, R_mas, R_say, R_own, R_pr, R_rul, R_mov, R_misc, v1, v2, v3, v4, v5, v6, v7, v8, v9, v11, v12, e0, e2, e10, e12, e16, e33, k1, k5, k6, k8, k9, k11, k13, k14, k15, k17, k18, k19, k20, k21, k22, k24, k34, k35, k36, h.2.2.1, h.2.2.2] at r ⊢
  exact r
