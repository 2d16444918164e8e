/-! ===== the invariant is kept: what a change leaves alone (written by mkfr.py) ===== -/
theorem leads_congr {τ τ' : St} (h : τ'.1 15 = τ.1 15) : leads τ' = leads τ := by
  funext n
  induction n with
  | zero => funext v b; rfl
  | succ n ih => funext v b; unfold leads; rw [ih, h]
theorem owN_congr {τ τ' : St} (h : sm τ' = sm τ) : owN τ' = owN τ := by
  have hn : nO τ' = nO τ := by funext m n; unfold nO; rw [h]
  funext m n
  induction n with
  | zero => funext i; rfl
  | succ n ih => funext i; unfold owN; rw [ih, h, hn]
theorem kO_congr {τ τ' : St} (h : sm τ' = sm τ) (h2 : nS τ' = nS τ) : kO τ' = kO τ ∧ ow τ' = ow τ := by
  refine ⟨?_, ?_⟩
  · funext m; unfold kO nO; rw [h, h2]
  · funext m i; unfold ow; rw [owN_congr h, h2]
theorem RM_same {σ σ' τ τ' : St} (a1 : σ'.1 24 = σ.1 24) (a2 : σ'.1 25 = σ.1 25) (b0 : nM τ ≤ nM τ') (b1 : sm τ' = sm τ) (b2 : nS τ' = nS τ) (b3 : ∀ s, s < nS τ → ∀ r, co τ' s r = co τ s r) (b4 : pT τ' = pT τ) (h : RM σ τ) : RM σ' τ' := by
  intro m hm
  obtain ⟨k1, k2⟩ := kO_congr b1 b2
  rcases h m hm with h | ⟨h1, h2, h3⟩
  · exact Or.inl (by rw [a1]; exact h)
  · refine Or.inr ⟨by omega, by rw [a1]; exact h2, ?_⟩
    refine Mnd_s (σ := σ) (by rw [a1]) (by rw [a2]) ?_
    refine Mnd_t (by rw [k1]) ?_ b4 h3
    intro i hi r
    unfold cR
    rw [k2]
    exact b3 _ (ow_in hi).1 r
theorem Inv.w {σ τ : St} (h : Inv σ τ) : WF τ := h.1
theorem Inv.c {σ τ : St} (h : Inv σ τ) : RC σ τ := h.2.1
theorem Inv_eqm {σ τ τ' : St} (e : Eqm τ τ') (h : Inv σ τ) : Inv σ τ' := by
  obtain ⟨v1, v2, v3, v4, v5, v6, v7, v8, v9, v10, v11, v12⟩ := e.v
  refine ⟨WF_eq e h.1, RC_eqm e h.2.1, RM_same rfl rfl ?_ v5 v3 ?_ ?_ h.2.2⟩
  · rw [v2]; exact Nat.le_refl _
  · intro s _ r; rw [co_eqm e]
  · unfold pT; rw [e.1 24 rfl]
theorem Inv_eqc {σ σ' τ : St} (e : Eqc σ σ') (d : Eqd σ σ') (h : Inv σ τ) : Inv σ' τ :=
  ⟨h.1, RC_eqc e h.2.1, RM_same d.1 d.2 (Nat.le_refl _) rfl rfl (fun _ _ _ => rfl) rfl h.2.2⟩
theorem Inv_fr {σ σ' τ : St} (e : Fr pCs σ σ') (h : Inv σ τ) : Inv σ' τ := Inv_eqc (e.wk pCs_cm).eqc e.eqd h
theorem Inv_frm {σ τ τ' : St} (e : Fr pScr τ τ') (h : Inv σ τ) : Inv σ τ' := Inv_eqm e.eqm h
/-- only the longs changed -/
theorem Inv_lng {σ σ' τ τ' : St} (h : Inv σ τ) (e : σ'.1 = σ.1) (f : τ'.1 = τ.1) (e8 : σ'.2 8 = τ'.2 3) (e9 : σ'.2 9 = τ'.2 4) : Inv σ' τ' := by
  obtain ⟨a, b⟩ := σ
  obtain ⟨a', b'⟩ := σ'
  obtain ⟨t, u⟩ := τ
  obtain ⟨t', u'⟩ := τ'
  dsimp only at e f e8 e9
  subst e
  subst f
  have hl : leads (t', u') = leads (t', u) := leads_congr rfl
  obtain ⟨hw, ⟨r1, r2, r3, r4, r5, r6, r7, r8, r9, r10⟩, rm⟩ := h
  refine ⟨hw, ⟨r1, r2, r3, ?_, r5, r6, r7, r8, r9, ⟨r10.1, r10.2.1, r10.2.2.1, e8, e9⟩⟩, ?_⟩
  · simp only [R_mas, nM, hl] at r4 ⊢
    exact r4
  · exact RM_same (σ := (a', b)) (τ := (t', u)) rfl rfl (Nat.le_refl _) rfl rfl (fun _ _ _ => rfl) rfl rm
def pcrow (kd j : Nat) : Bool := kd == 18 || kd == 19
def pmrow (kd j : Nat) : Bool := kd == 5 || kd == 6 || kd == 7
theorem Inv_row {σ σ' τ τ' : St} (h : Inv σ τ) (e : Fr pcrow σ σ') (f : Fr pmrow τ τ') (h_W_row : W_row τ') (h_R_row : R_row σ' τ') : Inv σ' τ' := by
  have s0_6 : ∀ n, σ'.1 0 n 6 = σ.1 0 n 6 := fun n => e.2 _ _ _ rfl
  have s0_7 : ∀ n, σ'.1 0 n 7 = σ.1 0 n 7 := fun n => e.2 _ _ _ rfl
  have s3_3 : ∀ n, σ'.1 3 n 3 = σ.1 3 n 3 := fun n => e.2 _ _ _ rfl
  have s3_5 : ∀ n, σ'.1 3 n 5 = σ.1 3 n 5 := fun n => e.2 _ _ _ rfl
  have s3_7 : ∀ n, σ'.1 3 n 7 = σ.1 3 n 7 := fun n => e.2 _ _ _ rfl
  have s4_1 : ∀ n, σ'.1 4 n 1 = σ.1 4 n 1 := fun n => e.2 _ _ _ rfl
  have s6 : σ'.1 6 = σ.1 6 := by funext n j; exact e.2 _ _ _ rfl
  have s8 : σ'.1 8 = σ.1 8 := by funext n j; exact e.2 _ _ _ rfl
  have s9 : σ'.1 9 = σ.1 9 := by funext n j; exact e.2 _ _ _ rfl
  have s10_0 : ∀ n, σ'.1 10 n 0 = σ.1 10 n 0 := fun n => e.2 _ _ _ rfl
  have s10_1 : ∀ n, σ'.1 10 n 1 = σ.1 10 n 1 := fun n => e.2 _ _ _ rfl
  have s10_2 : ∀ n, σ'.1 10 n 2 = σ.1 10 n 2 := fun n => e.2 _ _ _ rfl
  have s14 : σ'.1 14 = σ.1 14 := by funext n j; exact e.2 _ _ _ rfl
  have s20_1 : ∀ n, σ'.1 20 n 1 = σ.1 20 n 1 := fun n => e.2 _ _ _ rfl
  have s21 : σ'.1 21 = σ.1 21 := by funext n j; exact e.2 _ _ _ rfl
  have s22_0 : ∀ n, σ'.1 22 n 0 = σ.1 22 n 0 := fun n => e.2 _ _ _ rfl
  have s22_1 : ∀ n, σ'.1 22 n 1 = σ.1 22 n 1 := fun n => e.2 _ _ _ rfl
  have s22_2 : ∀ n, σ'.1 22 n 2 = σ.1 22 n 2 := fun n => e.2 _ _ _ rfl
  have s22_3 : ∀ n, σ'.1 22 n 3 = σ.1 22 n 3 := fun n => e.2 _ _ _ rfl
  have s22_5 : ∀ n, σ'.1 22 n 5 = σ.1 22 n 5 := fun n => e.2 _ _ _ rfl
  have s23 : σ'.1 23 = σ.1 23 := by funext n j; exact e.2 _ _ _ rfl
  have s24 : σ'.1 24 = σ.1 24 := by funext n j; exact e.2 _ _ _ rfl
  have s25 : σ'.1 25 = σ.1 25 := by funext n j; exact e.2 _ _ _ rfl
  have s26 : σ'.1 26 = σ.1 26 := by funext n j; exact e.2 _ _ _ rfl
  have s27 : σ'.1 27 = σ.1 27 := by funext n j; exact e.2 _ _ _ rfl
  have s28_0 : ∀ n, σ'.1 28 n 0 = σ.1 28 n 0 := fun n => e.2 _ _ _ rfl
  have s28_1 : ∀ n, σ'.1 28 n 1 = σ.1 28 n 1 := fun n => e.2 _ _ _ rfl
  have s28_2 : ∀ n, σ'.1 28 n 2 = σ.1 28 n 2 := fun n => e.2 _ _ _ rfl
  have t0_0 : ∀ n, τ'.1 0 n 0 = τ.1 0 n 0 := fun n => f.2 _ _ _ rfl
  have t0_2 : ∀ n, τ'.1 0 n 2 = τ.1 0 n 2 := fun n => f.2 _ _ _ rfl
  have t0_10 : ∀ n, τ'.1 0 n 10 = τ.1 0 n 10 := fun n => f.2 _ _ _ rfl
  have t0_12 : ∀ n, τ'.1 0 n 12 = τ.1 0 n 12 := fun n => f.2 _ _ _ rfl
  have t0_16 : ∀ n, τ'.1 0 n 16 = τ.1 0 n 16 := fun n => f.2 _ _ _ rfl
  have t0_33 : ∀ n, τ'.1 0 n 33 = τ.1 0 n 33 := fun n => f.2 _ _ _ rfl
  have t1 : τ'.1 1 = τ.1 1 := by funext n j; exact f.2 _ _ _ rfl
  have t8 : τ'.1 8 = τ.1 8 := by funext n j; exact f.2 _ _ _ rfl
  have t9 : τ'.1 9 = τ.1 9 := by funext n j; exact f.2 _ _ _ rfl
  have t11 : τ'.1 11 = τ.1 11 := by funext n j; exact f.2 _ _ _ rfl
  have t13 : τ'.1 13 = τ.1 13 := by funext n j; exact f.2 _ _ _ rfl
  have t14 : τ'.1 14 = τ.1 14 := by funext n j; exact f.2 _ _ _ rfl
  have t15 : τ'.1 15 = τ.1 15 := by funext n j; exact f.2 _ _ _ rfl
  have t17 : τ'.1 17 = τ.1 17 := by funext n j; exact f.2 _ _ _ rfl
  have t18 : τ'.1 18 = τ.1 18 := by funext n j; exact f.2 _ _ _ rfl
  have t19 : τ'.1 19 = τ.1 19 := by funext n j; exact f.2 _ _ _ rfl
  have t20 : τ'.1 20 = τ.1 20 := by funext n j; exact f.2 _ _ _ rfl
  have t21 : τ'.1 21 = τ.1 21 := by funext n j; exact f.2 _ _ _ rfl
  have t22 : τ'.1 22 = τ.1 22 := by funext n j; exact f.2 _ _ _ rfl
  have t24 : τ'.1 24 = τ.1 24 := by funext n j; exact f.2 _ _ _ rfl
  have t34 : τ'.1 34 = τ.1 34 := by funext n j; exact f.2 _ _ _ rfl
  have t35 : τ'.1 35 = τ.1 35 := by funext n j; exact f.2 _ _ _ rfl
  have t36 : τ'.1 36 = τ.1 36 := by funext n j; exact f.2 _ _ _ rfl
  obtain ⟨⟨w1, w2, w3, w4, w5, w6, w7, w8, w9, w10⟩, ⟨r1, r2, r3, r4, r5, r6, r7, r8, r9, r10⟩, rm⟩ := h
  refine ⟨⟨?_, ?_, ?_, ?_, ?_, ?_, ?_, ?_, ?_, ?_⟩, ⟨?_, ?_, ?_, ?_, ?_, ?_, ?_, ?_, ?_, ?_⟩, ?_⟩
  · simp only [W_cnt, nC, nM, nS, nV, t0_10, t0_12, t0_16, t0_33] at w1 ⊢
    exact w1
  · exact h_W_row
  · simp only [W_text, t8, t9] at w3 ⊢
    exact w3
  · simp only [W_case, nC, cs, t0_10, t11] at w4 ⊢
    exact w4
  · simp only [W_mas, nM, t0_12, t13, t14, t15] at w5 ⊢
    exact w5
  · simp only [W_say, nC, nM, nS, sm, sc, sy, sa, t0_10, t0_12, t0_16, t13, t14, t17, t18, t19, t20, t21] at w6 ⊢
    exact w6
  · simp only [W_nine, nO, nS, sm, t0_16, t17] at w7 ⊢
    exact w7
  · simp only [W_pr, t24] at w8 ⊢
    exact w8
  · simp only [W_cp, nS, t0_16, t22] at w9 ⊢
    exact w9
  · simp only [W_mov, okMv, nV, nS, nM, t0_12, t0_16, t0_33, t34, t35, t36] at w10 ⊢
    exact w10
  · exact h_R_row
  · simp only [R_text, s20_1, s21, t8, t9] at r2 ⊢
    exact r2
  · simp only [R_case, s3_3, s14, t0_10, t11] at r3 ⊢
    exact r3
  · have hl : leads τ' = leads τ := leads_congr t15
    simp only [R_mas, nM, hl, s3_5, s22_0, s22_1, s22_2, s22_3, t0_12, t13, t14, t15] at r4 ⊢
    exact r4
  · simp only [R_say, nS, s3_7, s26, s27, t0_16, t17, t18, t19, t20, t21, t22] at r5 ⊢
    exact r5
  · simp only [R_own, nO, nS, sm, s22_5, s23, t0_16, t17] at r6 ⊢
    exact r6
  · intro k hk
    have hk3 : k = 0 ∨ k = 1 ∨ k = 2 := by omega
    rw [t24]
    rcases hk3 with e | e | e <;> subst e
    · rw [s10_0]; exact r7 0 (by decide)
    · rw [s10_1]; exact r7 1 (by decide)
    · rw [s10_2]; exact r7 2 (by decide)
  · simp only [R_rul, s8, s9] at r8 ⊢
    exact r8
  · simp only [R_mov, nV, s4_1, s28_0, s28_1, s28_2, t0_33, t34, t35, t36] at r9 ⊢
    exact r9
  · simp only [R_misc, s0_6, s0_7, s6, t0_0, t0_2, t1, e.1, f.1] at r10 ⊢
    exact r10
  · refine RM_same s24 s25 ?_ ?_ ?_ ?_ ?_ rm
    · simp only [nM, t0_12]; exact Nat.le_refl _
    · funext s; simp only [sm, t17]
    · simp only [nS, t0_16]
    · intro s _ r; simp only [co, pA, pS, sx, cs, sc, sa, t11, t18, t20, t21, t24]
    · simp only [pT, t24]
def pctext (kd j : Nat) : Bool := kd == 20 || kd == 21
def pmtext (kd j : Nat) : Bool := kd == 8 || kd == 9
theorem Inv_text {σ σ' τ τ' : St} (h : Inv σ τ) (e : Fr pctext σ σ') (f : Fr pmtext τ τ') (h_W_text : W_text τ') (h_R_text : R_text σ' τ') : Inv σ' τ' := by
  have s0_6 : ∀ n, σ'.1 0 n 6 = σ.1 0 n 6 := fun n => e.2 _ _ _ rfl
  have s0_7 : ∀ n, σ'.1 0 n 7 = σ.1 0 n 7 := fun n => e.2 _ _ _ rfl
  have s3_3 : ∀ n, σ'.1 3 n 3 = σ.1 3 n 3 := fun n => e.2 _ _ _ rfl
  have s3_5 : ∀ n, σ'.1 3 n 5 = σ.1 3 n 5 := fun n => e.2 _ _ _ rfl
  have s3_7 : ∀ n, σ'.1 3 n 7 = σ.1 3 n 7 := fun n => e.2 _ _ _ rfl
  have s4_1 : ∀ n, σ'.1 4 n 1 = σ.1 4 n 1 := fun n => e.2 _ _ _ rfl
  have s6 : σ'.1 6 = σ.1 6 := by funext n j; exact e.2 _ _ _ rfl
  have s8 : σ'.1 8 = σ.1 8 := by funext n j; exact e.2 _ _ _ rfl
  have s9 : σ'.1 9 = σ.1 9 := by funext n j; exact e.2 _ _ _ rfl
  have s10_0 : ∀ n, σ'.1 10 n 0 = σ.1 10 n 0 := fun n => e.2 _ _ _ rfl
  have s10_1 : ∀ n, σ'.1 10 n 1 = σ.1 10 n 1 := fun n => e.2 _ _ _ rfl
  have s10_2 : ∀ n, σ'.1 10 n 2 = σ.1 10 n 2 := fun n => e.2 _ _ _ rfl
  have s14 : σ'.1 14 = σ.1 14 := by funext n j; exact e.2 _ _ _ rfl
  have s18 : σ'.1 18 = σ.1 18 := by funext n j; exact e.2 _ _ _ rfl
  have s19 : σ'.1 19 = σ.1 19 := by funext n j; exact e.2 _ _ _ rfl
  have s22_0 : ∀ n, σ'.1 22 n 0 = σ.1 22 n 0 := fun n => e.2 _ _ _ rfl
  have s22_1 : ∀ n, σ'.1 22 n 1 = σ.1 22 n 1 := fun n => e.2 _ _ _ rfl
  have s22_2 : ∀ n, σ'.1 22 n 2 = σ.1 22 n 2 := fun n => e.2 _ _ _ rfl
  have s22_3 : ∀ n, σ'.1 22 n 3 = σ.1 22 n 3 := fun n => e.2 _ _ _ rfl
  have s22_5 : ∀ n, σ'.1 22 n 5 = σ.1 22 n 5 := fun n => e.2 _ _ _ rfl
  have s23 : σ'.1 23 = σ.1 23 := by funext n j; exact e.2 _ _ _ rfl
  have s24 : σ'.1 24 = σ.1 24 := by funext n j; exact e.2 _ _ _ rfl
  have s25 : σ'.1 25 = σ.1 25 := by funext n j; exact e.2 _ _ _ rfl
  have s26 : σ'.1 26 = σ.1 26 := by funext n j; exact e.2 _ _ _ rfl
  have s27 : σ'.1 27 = σ.1 27 := by funext n j; exact e.2 _ _ _ rfl
  have s28_0 : ∀ n, σ'.1 28 n 0 = σ.1 28 n 0 := fun n => e.2 _ _ _ rfl
  have s28_1 : ∀ n, σ'.1 28 n 1 = σ.1 28 n 1 := fun n => e.2 _ _ _ rfl
  have s28_2 : ∀ n, σ'.1 28 n 2 = σ.1 28 n 2 := fun n => e.2 _ _ _ rfl
  have t0_0 : ∀ n, τ'.1 0 n 0 = τ.1 0 n 0 := fun n => f.2 _ _ _ rfl
  have t0_2 : ∀ n, τ'.1 0 n 2 = τ.1 0 n 2 := fun n => f.2 _ _ _ rfl
  have t0_10 : ∀ n, τ'.1 0 n 10 = τ.1 0 n 10 := fun n => f.2 _ _ _ rfl
  have t0_12 : ∀ n, τ'.1 0 n 12 = τ.1 0 n 12 := fun n => f.2 _ _ _ rfl
  have t0_16 : ∀ n, τ'.1 0 n 16 = τ.1 0 n 16 := fun n => f.2 _ _ _ rfl
  have t0_33 : ∀ n, τ'.1 0 n 33 = τ.1 0 n 33 := fun n => f.2 _ _ _ rfl
  have t1 : τ'.1 1 = τ.1 1 := by funext n j; exact f.2 _ _ _ rfl
  have t5 : τ'.1 5 = τ.1 5 := by funext n j; exact f.2 _ _ _ rfl
  have t6 : τ'.1 6 = τ.1 6 := by funext n j; exact f.2 _ _ _ rfl
  have t11 : τ'.1 11 = τ.1 11 := by funext n j; exact f.2 _ _ _ rfl
  have t13 : τ'.1 13 = τ.1 13 := by funext n j; exact f.2 _ _ _ rfl
  have t14 : τ'.1 14 = τ.1 14 := by funext n j; exact f.2 _ _ _ rfl
  have t15 : τ'.1 15 = τ.1 15 := by funext n j; exact f.2 _ _ _ rfl
  have t17 : τ'.1 17 = τ.1 17 := by funext n j; exact f.2 _ _ _ rfl
  have t18 : τ'.1 18 = τ.1 18 := by funext n j; exact f.2 _ _ _ rfl
  have t19 : τ'.1 19 = τ.1 19 := by funext n j; exact f.2 _ _ _ rfl
  have t20 : τ'.1 20 = τ.1 20 := by funext n j; exact f.2 _ _ _ rfl
  have t21 : τ'.1 21 = τ.1 21 := by funext n j; exact f.2 _ _ _ rfl
  have t22 : τ'.1 22 = τ.1 22 := by funext n j; exact f.2 _ _ _ rfl
  have t24 : τ'.1 24 = τ.1 24 := by funext n j; exact f.2 _ _ _ rfl
  have t34 : τ'.1 34 = τ.1 34 := by funext n j; exact f.2 _ _ _ rfl
  have t35 : τ'.1 35 = τ.1 35 := by funext n j; exact f.2 _ _ _ rfl
  have t36 : τ'.1 36 = τ.1 36 := by funext n j; exact f.2 _ _ _ rfl
  obtain ⟨⟨w1, w2, w3, w4, w5, w6, w7, w8, w9, w10⟩, ⟨r1, r2, r3, r4, r5, r6, r7, r8, r9, r10⟩, rm⟩ := h
  refine ⟨⟨?_, ?_, ?_, ?_, ?_, ?_, ?_, ?_, ?_, ?_⟩, ⟨?_, ?_, ?_, ?_, ?_, ?_, ?_, ?_, ?_, ?_⟩, ?_⟩
  · simp only [W_cnt, nC, nM, nS, nV, t0_10, t0_12, t0_16, t0_33] at w1 ⊢
    exact w1
  · simp only [W_row, t5] at w2 ⊢
    exact w2
  · exact h_W_text
  · simp only [W_case, nC, cs, t0_10, t11] at w4 ⊢
    exact w4
  · simp only [W_mas, nM, t0_12, t13, t14, t15] at w5 ⊢
    exact w5
  · simp only [W_say, nC, nM, nS, sm, sc, sy, sa, t0_10, t0_12, t0_16, t13, t14, t17, t18, t19, t20, t21] at w6 ⊢
    exact w6
  · simp only [W_nine, nO, nS, sm, t0_16, t17] at w7 ⊢
    exact w7
  · simp only [W_pr, t24] at w8 ⊢
    exact w8
  · simp only [W_cp, nS, t0_16, t22] at w9 ⊢
    exact w9
  · simp only [W_mov, okMv, nV, nS, nM, t0_12, t0_16, t0_33, t34, t35, t36] at w10 ⊢
    exact w10
  · simp only [R_row, s18, s19, t5, t6] at r1 ⊢
    exact r1
  · exact h_R_text
  · simp only [R_case, s3_3, s14, t0_10, t11] at r3 ⊢
    exact r3
  · have hl : leads τ' = leads τ := leads_congr t15
    simp only [R_mas, nM, hl, s3_5, s22_0, s22_1, s22_2, s22_3, t0_12, t13, t14, t15] at r4 ⊢
    exact r4
  · simp only [R_say, nS, s3_7, s26, s27, t0_16, t17, t18, t19, t20, t21, t22] at r5 ⊢
    exact r5
  · simp only [R_own, nO, nS, sm, s22_5, s23, t0_16, t17] at r6 ⊢
    exact r6
  · intro k hk
    have hk3 : k = 0 ∨ k = 1 ∨ k = 2 := by omega
    rw [t24]
    rcases hk3 with e | e | e <;> subst e
    · rw [s10_0]; exact r7 0 (by decide)
    · rw [s10_1]; exact r7 1 (by decide)
    · rw [s10_2]; exact r7 2 (by decide)
  · simp only [R_rul, s8, s9] at r8 ⊢
    exact r8
  · simp only [R_mov, nV, s4_1, s28_0, s28_1, s28_2, t0_33, t34, t35, t36] at r9 ⊢
    exact r9
  · simp only [R_misc, s0_6, s0_7, s6, t0_0, t0_2, t1, e.1, f.1] at r10 ⊢
    exact r10
  · refine RM_same s24 s25 ?_ ?_ ?_ ?_ ?_ rm
    · simp only [nM, t0_12]; exact Nat.le_refl _
    · funext s; simp only [sm, t17]
    · simp only [nS, t0_16]
    · intro s _ r; simp only [co, pA, pS, sx, cs, sc, sa, t11, t18, t20, t21, t24]
    · simp only [pT, t24]
def pcmisc (kd j : Nat) : Bool := kd == 0 && (j == 6 || j == 7) || kd == 6
def pmmisc (kd j : Nat) : Bool := kd == 0 && (j == 0 || j == 2) || kd == 1
theorem Inv_misc {σ σ' τ τ' : St} (h : Inv σ τ) (e : Fr pcmisc σ σ') (f : Fr pmmisc τ τ') (h_R_misc : R_misc σ' τ') : Inv σ' τ' := by
  have s3_3 : ∀ n, σ'.1 3 n 3 = σ.1 3 n 3 := fun n => e.2 _ _ _ rfl
  have s3_5 : ∀ n, σ'.1 3 n 5 = σ.1 3 n 5 := fun n => e.2 _ _ _ rfl
  have s3_7 : ∀ n, σ'.1 3 n 7 = σ.1 3 n 7 := fun n => e.2 _ _ _ rfl
  have s4_1 : ∀ n, σ'.1 4 n 1 = σ.1 4 n 1 := fun n => e.2 _ _ _ rfl
  have s8 : σ'.1 8 = σ.1 8 := by funext n j; exact e.2 _ _ _ rfl
  have s9 : σ'.1 9 = σ.1 9 := by funext n j; exact e.2 _ _ _ rfl
  have s10_0 : ∀ n, σ'.1 10 n 0 = σ.1 10 n 0 := fun n => e.2 _ _ _ rfl
  have s10_1 : ∀ n, σ'.1 10 n 1 = σ.1 10 n 1 := fun n => e.2 _ _ _ rfl
  have s10_2 : ∀ n, σ'.1 10 n 2 = σ.1 10 n 2 := fun n => e.2 _ _ _ rfl
  have s14 : σ'.1 14 = σ.1 14 := by funext n j; exact e.2 _ _ _ rfl
  have s18 : σ'.1 18 = σ.1 18 := by funext n j; exact e.2 _ _ _ rfl
  have s19 : σ'.1 19 = σ.1 19 := by funext n j; exact e.2 _ _ _ rfl
  have s20_1 : ∀ n, σ'.1 20 n 1 = σ.1 20 n 1 := fun n => e.2 _ _ _ rfl
  have s21 : σ'.1 21 = σ.1 21 := by funext n j; exact e.2 _ _ _ rfl
  have s22_0 : ∀ n, σ'.1 22 n 0 = σ.1 22 n 0 := fun n => e.2 _ _ _ rfl
  have s22_1 : ∀ n, σ'.1 22 n 1 = σ.1 22 n 1 := fun n => e.2 _ _ _ rfl
  have s22_2 : ∀ n, σ'.1 22 n 2 = σ.1 22 n 2 := fun n => e.2 _ _ _ rfl
  have s22_3 : ∀ n, σ'.1 22 n 3 = σ.1 22 n 3 := fun n => e.2 _ _ _ rfl
  have s22_5 : ∀ n, σ'.1 22 n 5 = σ.1 22 n 5 := fun n => e.2 _ _ _ rfl
  have s23 : σ'.1 23 = σ.1 23 := by funext n j; exact e.2 _ _ _ rfl
  have s24 : σ'.1 24 = σ.1 24 := by funext n j; exact e.2 _ _ _ rfl
  have s25 : σ'.1 25 = σ.1 25 := by funext n j; exact e.2 _ _ _ rfl
  have s26 : σ'.1 26 = σ.1 26 := by funext n j; exact e.2 _ _ _ rfl
  have s27 : σ'.1 27 = σ.1 27 := by funext n j; exact e.2 _ _ _ rfl
  have s28_0 : ∀ n, σ'.1 28 n 0 = σ.1 28 n 0 := fun n => e.2 _ _ _ rfl
  have s28_1 : ∀ n, σ'.1 28 n 1 = σ.1 28 n 1 := fun n => e.2 _ _ _ rfl
  have s28_2 : ∀ n, σ'.1 28 n 2 = σ.1 28 n 2 := fun n => e.2 _ _ _ rfl
  have t0_10 : ∀ n, τ'.1 0 n 10 = τ.1 0 n 10 := fun n => f.2 _ _ _ rfl
  have t0_12 : ∀ n, τ'.1 0 n 12 = τ.1 0 n 12 := fun n => f.2 _ _ _ rfl
  have t0_16 : ∀ n, τ'.1 0 n 16 = τ.1 0 n 16 := fun n => f.2 _ _ _ rfl
  have t0_33 : ∀ n, τ'.1 0 n 33 = τ.1 0 n 33 := fun n => f.2 _ _ _ rfl
  have t5 : τ'.1 5 = τ.1 5 := by funext n j; exact f.2 _ _ _ rfl
  have t6 : τ'.1 6 = τ.1 6 := by funext n j; exact f.2 _ _ _ rfl
  have t8 : τ'.1 8 = τ.1 8 := by funext n j; exact f.2 _ _ _ rfl
  have t9 : τ'.1 9 = τ.1 9 := by funext n j; exact f.2 _ _ _ rfl
  have t11 : τ'.1 11 = τ.1 11 := by funext n j; exact f.2 _ _ _ rfl
  have t13 : τ'.1 13 = τ.1 13 := by funext n j; exact f.2 _ _ _ rfl
  have t14 : τ'.1 14 = τ.1 14 := by funext n j; exact f.2 _ _ _ rfl
  have t15 : τ'.1 15 = τ.1 15 := by funext n j; exact f.2 _ _ _ rfl
  have t17 : τ'.1 17 = τ.1 17 := by funext n j; exact f.2 _ _ _ rfl
  have t18 : τ'.1 18 = τ.1 18 := by funext n j; exact f.2 _ _ _ rfl
  have t19 : τ'.1 19 = τ.1 19 := by funext n j; exact f.2 _ _ _ rfl
  have t20 : τ'.1 20 = τ.1 20 := by funext n j; exact f.2 _ _ _ rfl
  have t21 : τ'.1 21 = τ.1 21 := by funext n j; exact f.2 _ _ _ rfl
  have t22 : τ'.1 22 = τ.1 22 := by funext n j; exact f.2 _ _ _ rfl
  have t24 : τ'.1 24 = τ.1 24 := by funext n j; exact f.2 _ _ _ rfl
  have t34 : τ'.1 34 = τ.1 34 := by funext n j; exact f.2 _ _ _ rfl
  have t35 : τ'.1 35 = τ.1 35 := by funext n j; exact f.2 _ _ _ rfl
  have t36 : τ'.1 36 = τ.1 36 := by funext n j; exact f.2 _ _ _ rfl
  obtain ⟨⟨w1, w2, w3, w4, w5, w6, w7, w8, w9, w10⟩, ⟨r1, r2, r3, r4, r5, r6, r7, r8, r9, r10⟩, rm⟩ := h
  refine ⟨⟨?_, ?_, ?_, ?_, ?_, ?_, ?_, ?_, ?_, ?_⟩, ⟨?_, ?_, ?_, ?_, ?_, ?_, ?_, ?_, ?_, ?_⟩, ?_⟩
  · simp only [W_cnt, nC, nM, nS, nV, t0_10, t0_12, t0_16, t0_33] at w1 ⊢
    exact w1
  · simp only [W_row, t5] at w2 ⊢
    exact w2
  · simp only [W_text, t8, t9] at w3 ⊢
    exact w3
  · simp only [W_case, nC, cs, t0_10, t11] at w4 ⊢
    exact w4
  · simp only [W_mas, nM, t0_12, t13, t14, t15] at w5 ⊢
    exact w5
  · simp only [W_say, nC, nM, nS, sm, sc, sy, sa, t0_10, t0_12, t0_16, t13, t14, t17, t18, t19, t20, t21] at w6 ⊢
    exact w6
  · simp only [W_nine, nO, nS, sm, t0_16, t17] at w7 ⊢
    exact w7
  · simp only [W_pr, t24] at w8 ⊢
    exact w8
  · simp only [W_cp, nS, t0_16, t22] at w9 ⊢
    exact w9
  · simp only [W_mov, okMv, nV, nS, nM, t0_12, t0_16, t0_33, t34, t35, t36] at w10 ⊢
    exact w10
  · simp only [R_row, s18, s19, t5, t6] at r1 ⊢
    exact r1
  · simp only [R_text, s20_1, s21, t8, t9] at r2 ⊢
    exact r2
  · simp only [R_case, s3_3, s14, t0_10, t11] at r3 ⊢
    exact r3
  · have hl : leads τ' = leads τ := leads_congr t15
    simp only [R_mas, nM, hl, s3_5, s22_0, s22_1, s22_2, s22_3, t0_12, t13, t14, t15] at r4 ⊢
    exact r4
  · simp only [R_say, nS, s3_7, s26, s27, t0_16, t17, t18, t19, t20, t21, t22] at r5 ⊢
    exact r5
  · simp only [R_own, nO, nS, sm, s22_5, s23, t0_16, t17] at r6 ⊢
    exact r6
  · intro k hk
    have hk3 : k = 0 ∨ k = 1 ∨ k = 2 := by omega
    rw [t24]
    rcases hk3 with e | e | e <;> subst e
    · rw [s10_0]; exact r7 0 (by decide)
    · rw [s10_1]; exact r7 1 (by decide)
    · rw [s10_2]; exact r7 2 (by decide)
  · simp only [R_rul, s8, s9] at r8 ⊢
    exact r8
  · simp only [R_mov, nV, s4_1, s28_0, s28_1, s28_2, t0_33, t34, t35, t36] at r9 ⊢
    exact r9
  · exact h_R_misc
  · refine RM_same s24 s25 ?_ ?_ ?_ ?_ ?_ rm
    · simp only [nM, t0_12]; exact Nat.le_refl _
    · funext s; simp only [sm, t17]
    · simp only [nS, t0_16]
    · intro s _ r; simp only [co, pA, pS, sx, cs, sc, sa, t11, t18, t20, t21, t24]
    · simp only [pT, t24]
def pccase (kd j : Nat) : Bool := kd == 3 && (j == 3) || kd == 14
def pmcase (kd j : Nat) : Bool := kd == 0 && (j == 10) || kd == 11
theorem Inv_case {σ σ' τ τ' : St} (h : Inv σ τ) (e : Fr pccase σ σ') (f : Fr pmcase τ τ') (h_W_cnt : W_cnt τ') (h_W_case : W_case τ') (h_W_say : W_say τ') (h_R_case : R_case σ' τ') (h_RM : RM σ' τ') : Inv σ' τ' := by
  have s0_6 : ∀ n, σ'.1 0 n 6 = σ.1 0 n 6 := fun n => e.2 _ _ _ rfl
  have s0_7 : ∀ n, σ'.1 0 n 7 = σ.1 0 n 7 := fun n => e.2 _ _ _ rfl
  have s3_5 : ∀ n, σ'.1 3 n 5 = σ.1 3 n 5 := fun n => e.2 _ _ _ rfl
  have s3_7 : ∀ n, σ'.1 3 n 7 = σ.1 3 n 7 := fun n => e.2 _ _ _ rfl
  have s4_1 : ∀ n, σ'.1 4 n 1 = σ.1 4 n 1 := fun n => e.2 _ _ _ rfl
  have s6 : σ'.1 6 = σ.1 6 := by funext n j; exact e.2 _ _ _ rfl
  have s8 : σ'.1 8 = σ.1 8 := by funext n j; exact e.2 _ _ _ rfl
  have s9 : σ'.1 9 = σ.1 9 := by funext n j; exact e.2 _ _ _ rfl
  have s10_0 : ∀ n, σ'.1 10 n 0 = σ.1 10 n 0 := fun n => e.2 _ _ _ rfl
  have s10_1 : ∀ n, σ'.1 10 n 1 = σ.1 10 n 1 := fun n => e.2 _ _ _ rfl
  have s10_2 : ∀ n, σ'.1 10 n 2 = σ.1 10 n 2 := fun n => e.2 _ _ _ rfl
  have s18 : σ'.1 18 = σ.1 18 := by funext n j; exact e.2 _ _ _ rfl
  have s19 : σ'.1 19 = σ.1 19 := by funext n j; exact e.2 _ _ _ rfl
  have s20_1 : ∀ n, σ'.1 20 n 1 = σ.1 20 n 1 := fun n => e.2 _ _ _ rfl
  have s21 : σ'.1 21 = σ.1 21 := by funext n j; exact e.2 _ _ _ rfl
  have s22_0 : ∀ n, σ'.1 22 n 0 = σ.1 22 n 0 := fun n => e.2 _ _ _ rfl
  have s22_1 : ∀ n, σ'.1 22 n 1 = σ.1 22 n 1 := fun n => e.2 _ _ _ rfl
  have s22_2 : ∀ n, σ'.1 22 n 2 = σ.1 22 n 2 := fun n => e.2 _ _ _ rfl
  have s22_3 : ∀ n, σ'.1 22 n 3 = σ.1 22 n 3 := fun n => e.2 _ _ _ rfl
  have s22_5 : ∀ n, σ'.1 22 n 5 = σ.1 22 n 5 := fun n => e.2 _ _ _ rfl
  have s23 : σ'.1 23 = σ.1 23 := by funext n j; exact e.2 _ _ _ rfl
  have s26 : σ'.1 26 = σ.1 26 := by funext n j; exact e.2 _ _ _ rfl
  have s27 : σ'.1 27 = σ.1 27 := by funext n j; exact e.2 _ _ _ rfl
  have s28_0 : ∀ n, σ'.1 28 n 0 = σ.1 28 n 0 := fun n => e.2 _ _ _ rfl
  have s28_1 : ∀ n, σ'.1 28 n 1 = σ.1 28 n 1 := fun n => e.2 _ _ _ rfl
  have s28_2 : ∀ n, σ'.1 28 n 2 = σ.1 28 n 2 := fun n => e.2 _ _ _ rfl
  have t0_0 : ∀ n, τ'.1 0 n 0 = τ.1 0 n 0 := fun n => f.2 _ _ _ rfl
  have t0_2 : ∀ n, τ'.1 0 n 2 = τ.1 0 n 2 := fun n => f.2 _ _ _ rfl
  have t0_12 : ∀ n, τ'.1 0 n 12 = τ.1 0 n 12 := fun n => f.2 _ _ _ rfl
  have t0_16 : ∀ n, τ'.1 0 n 16 = τ.1 0 n 16 := fun n => f.2 _ _ _ rfl
  have t0_33 : ∀ n, τ'.1 0 n 33 = τ.1 0 n 33 := fun n => f.2 _ _ _ rfl
  have t1 : τ'.1 1 = τ.1 1 := by funext n j; exact f.2 _ _ _ rfl
  have t5 : τ'.1 5 = τ.1 5 := by funext n j; exact f.2 _ _ _ rfl
  have t6 : τ'.1 6 = τ.1 6 := by funext n j; exact f.2 _ _ _ rfl
  have t8 : τ'.1 8 = τ.1 8 := by funext n j; exact f.2 _ _ _ rfl
  have t9 : τ'.1 9 = τ.1 9 := by funext n j; exact f.2 _ _ _ rfl
  have t13 : τ'.1 13 = τ.1 13 := by funext n j; exact f.2 _ _ _ rfl
  have t14 : τ'.1 14 = τ.1 14 := by funext n j; exact f.2 _ _ _ rfl
  have t15 : τ'.1 15 = τ.1 15 := by funext n j; exact f.2 _ _ _ rfl
  have t17 : τ'.1 17 = τ.1 17 := by funext n j; exact f.2 _ _ _ rfl
  have t18 : τ'.1 18 = τ.1 18 := by funext n j; exact f.2 _ _ _ rfl
  have t19 : τ'.1 19 = τ.1 19 := by funext n j; exact f.2 _ _ _ rfl
  have t20 : τ'.1 20 = τ.1 20 := by funext n j; exact f.2 _ _ _ rfl
  have t21 : τ'.1 21 = τ.1 21 := by funext n j; exact f.2 _ _ _ rfl
  have t22 : τ'.1 22 = τ.1 22 := by funext n j; exact f.2 _ _ _ rfl
  have t24 : τ'.1 24 = τ.1 24 := by funext n j; exact f.2 _ _ _ rfl
  have t34 : τ'.1 34 = τ.1 34 := by funext n j; exact f.2 _ _ _ rfl
  have t35 : τ'.1 35 = τ.1 35 := by funext n j; exact f.2 _ _ _ rfl
  have t36 : τ'.1 36 = τ.1 36 := by funext n j; exact f.2 _ _ _ rfl
  obtain ⟨⟨w1, w2, w3, w4, w5, w6, w7, w8, w9, w10⟩, ⟨r1, r2, r3, r4, r5, r6, r7, r8, r9, r10⟩, rm⟩ := h
  refine ⟨⟨?_, ?_, ?_, ?_, ?_, ?_, ?_, ?_, ?_, ?_⟩, ⟨?_, ?_, ?_, ?_, ?_, ?_, ?_, ?_, ?_, ?_⟩, ?_⟩
  · exact h_W_cnt
  · simp only [W_row, t5] at w2 ⊢
    exact w2
  · simp only [W_text, t8, t9] at w3 ⊢
    exact w3
  · exact h_W_case
  · simp only [W_mas, nM, t0_12, t13, t14, t15] at w5 ⊢
    exact w5
  · exact h_W_say
  · simp only [W_nine, nO, nS, sm, t0_16, t17] at w7 ⊢
    exact w7
  · simp only [W_pr, t24] at w8 ⊢
    exact w8
  · simp only [W_cp, nS, t0_16, t22] at w9 ⊢
    exact w9
  · simp only [W_mov, okMv, nV, nS, nM, t0_12, t0_16, t0_33, t34, t35, t36] at w10 ⊢
    exact w10
  · simp only [R_row, s18, s19, t5, t6] at r1 ⊢
    exact r1
  · simp only [R_text, s20_1, s21, t8, t9] at r2 ⊢
    exact r2
  · exact h_R_case
  · have hl : leads τ' = leads τ := leads_congr t15
    simp only [R_mas, nM, hl, s3_5, s22_0, s22_1, s22_2, s22_3, t0_12, t13, t14, t15] at r4 ⊢
    exact r4
  · simp only [R_say, nS, s3_7, s26, s27, t0_16, t17, t18, t19, t20, t21, t22] at r5 ⊢
    exact r5
  · simp only [R_own, nO, nS, sm, s22_5, s23, t0_16, t17] at r6 ⊢
    exact r6
  · intro k hk
    have hk3 : k = 0 ∨ k = 1 ∨ k = 2 := by omega
    rw [t24]
    rcases hk3 with e | e | e <;> subst e
    · rw [s10_0]; exact r7 0 (by decide)
    · rw [s10_1]; exact r7 1 (by decide)
    · rw [s10_2]; exact r7 2 (by decide)
  · simp only [R_rul, s8, s9] at r8 ⊢
    exact r8
  · simp only [R_mov, nV, s4_1, s28_0, s28_1, s28_2, t0_33, t34, t35, t36] at r9 ⊢
    exact r9
  · simp only [R_misc, s0_6, s0_7, s6, t0_0, t0_2, t1, e.1, f.1] at r10 ⊢
    exact r10
  · exact h_RM
def pcmas (kd j : Nat) : Bool := kd == 3 && (j == 5) || kd == 22 && (j == 0 || j == 1 || j == 2 || j == 3)
def pmmas (kd j : Nat) : Bool := kd == 0 && (j == 12) || kd == 13 || kd == 14 || kd == 15
theorem Inv_mas {σ σ' τ τ' : St} (h : Inv σ τ) (e : Fr pcmas σ σ') (f : Fr pmmas τ τ') (h_W_cnt : W_cnt τ') (h_W_mas : W_mas τ') (h_W_say : W_say τ') (h_W_mov : W_mov τ') (h_R_mas : R_mas σ' τ') (h_RM : RM σ' τ') : Inv σ' τ' := by
  have s0_6 : ∀ n, σ'.1 0 n 6 = σ.1 0 n 6 := fun n => e.2 _ _ _ rfl
  have s0_7 : ∀ n, σ'.1 0 n 7 = σ.1 0 n 7 := fun n => e.2 _ _ _ rfl
  have s3_3 : ∀ n, σ'.1 3 n 3 = σ.1 3 n 3 := fun n => e.2 _ _ _ rfl
  have s3_7 : ∀ n, σ'.1 3 n 7 = σ.1 3 n 7 := fun n => e.2 _ _ _ rfl
  have s4_1 : ∀ n, σ'.1 4 n 1 = σ.1 4 n 1 := fun n => e.2 _ _ _ rfl
  have s6 : σ'.1 6 = σ.1 6 := by funext n j; exact e.2 _ _ _ rfl
  have s8 : σ'.1 8 = σ.1 8 := by funext n j; exact e.2 _ _ _ rfl
  have s9 : σ'.1 9 = σ.1 9 := by funext n j; exact e.2 _ _ _ rfl
  have s10_0 : ∀ n, σ'.1 10 n 0 = σ.1 10 n 0 := fun n => e.2 _ _ _ rfl
  have s10_1 : ∀ n, σ'.1 10 n 1 = σ.1 10 n 1 := fun n => e.2 _ _ _ rfl
  have s10_2 : ∀ n, σ'.1 10 n 2 = σ.1 10 n 2 := fun n => e.2 _ _ _ rfl
  have s14 : σ'.1 14 = σ.1 14 := by funext n j; exact e.2 _ _ _ rfl
  have s18 : σ'.1 18 = σ.1 18 := by funext n j; exact e.2 _ _ _ rfl
  have s19 : σ'.1 19 = σ.1 19 := by funext n j; exact e.2 _ _ _ rfl
  have s20_1 : ∀ n, σ'.1 20 n 1 = σ.1 20 n 1 := fun n => e.2 _ _ _ rfl
  have s21 : σ'.1 21 = σ.1 21 := by funext n j; exact e.2 _ _ _ rfl
  have s22_5 : ∀ n, σ'.1 22 n 5 = σ.1 22 n 5 := fun n => e.2 _ _ _ rfl
  have s23 : σ'.1 23 = σ.1 23 := by funext n j; exact e.2 _ _ _ rfl
  have s26 : σ'.1 26 = σ.1 26 := by funext n j; exact e.2 _ _ _ rfl
  have s27 : σ'.1 27 = σ.1 27 := by funext n j; exact e.2 _ _ _ rfl
  have s28_0 : ∀ n, σ'.1 28 n 0 = σ.1 28 n 0 := fun n => e.2 _ _ _ rfl
  have s28_1 : ∀ n, σ'.1 28 n 1 = σ.1 28 n 1 := fun n => e.2 _ _ _ rfl
  have s28_2 : ∀ n, σ'.1 28 n 2 = σ.1 28 n 2 := fun n => e.2 _ _ _ rfl
  have t0_0 : ∀ n, τ'.1 0 n 0 = τ.1 0 n 0 := fun n => f.2 _ _ _ rfl
  have t0_2 : ∀ n, τ'.1 0 n 2 = τ.1 0 n 2 := fun n => f.2 _ _ _ rfl
  have t0_10 : ∀ n, τ'.1 0 n 10 = τ.1 0 n 10 := fun n => f.2 _ _ _ rfl
  have t0_16 : ∀ n, τ'.1 0 n 16 = τ.1 0 n 16 := fun n => f.2 _ _ _ rfl
  have t0_33 : ∀ n, τ'.1 0 n 33 = τ.1 0 n 33 := fun n => f.2 _ _ _ rfl
  have t1 : τ'.1 1 = τ.1 1 := by funext n j; exact f.2 _ _ _ rfl
  have t5 : τ'.1 5 = τ.1 5 := by funext n j; exact f.2 _ _ _ rfl
  have t6 : τ'.1 6 = τ.1 6 := by funext n j; exact f.2 _ _ _ rfl
  have t8 : τ'.1 8 = τ.1 8 := by funext n j; exact f.2 _ _ _ rfl
  have t9 : τ'.1 9 = τ.1 9 := by funext n j; exact f.2 _ _ _ rfl
  have t11 : τ'.1 11 = τ.1 11 := by funext n j; exact f.2 _ _ _ rfl
  have t17 : τ'.1 17 = τ.1 17 := by funext n j; exact f.2 _ _ _ rfl
  have t18 : τ'.1 18 = τ.1 18 := by funext n j; exact f.2 _ _ _ rfl
  have t19 : τ'.1 19 = τ.1 19 := by funext n j; exact f.2 _ _ _ rfl
  have t20 : τ'.1 20 = τ.1 20 := by funext n j; exact f.2 _ _ _ rfl
  have t21 : τ'.1 21 = τ.1 21 := by funext n j; exact f.2 _ _ _ rfl
  have t22 : τ'.1 22 = τ.1 22 := by funext n j; exact f.2 _ _ _ rfl
  have t24 : τ'.1 24 = τ.1 24 := by funext n j; exact f.2 _ _ _ rfl
  have t34 : τ'.1 34 = τ.1 34 := by funext n j; exact f.2 _ _ _ rfl
  have t35 : τ'.1 35 = τ.1 35 := by funext n j; exact f.2 _ _ _ rfl
  have t36 : τ'.1 36 = τ.1 36 := by funext n j; exact f.2 _ _ _ rfl
  obtain ⟨⟨w1, w2, w3, w4, w5, w6, w7, w8, w9, w10⟩, ⟨r1, r2, r3, r4, r5, r6, r7, r8, r9, r10⟩, rm⟩ := h
  refine ⟨⟨?_, ?_, ?_, ?_, ?_, ?_, ?_, ?_, ?_, ?_⟩, ⟨?_, ?_, ?_, ?_, ?_, ?_, ?_, ?_, ?_, ?_⟩, ?_⟩
  · exact h_W_cnt
  · simp only [W_row, t5] at w2 ⊢
    exact w2
  · simp only [W_text, t8, t9] at w3 ⊢
    exact w3
  · simp only [W_case, nC, cs, t0_10, t11] at w4 ⊢
    exact w4
  · exact h_W_mas
  · exact h_W_say
  · simp only [W_nine, nO, nS, sm, t0_16, t17] at w7 ⊢
    exact w7
  · simp only [W_pr, t24] at w8 ⊢
    exact w8
  · simp only [W_cp, nS, t0_16, t22] at w9 ⊢
    exact w9
  · exact h_W_mov
  · simp only [R_row, s18, s19, t5, t6] at r1 ⊢
    exact r1
  · simp only [R_text, s20_1, s21, t8, t9] at r2 ⊢
    exact r2
  · simp only [R_case, s3_3, s14, t0_10, t11] at r3 ⊢
    exact r3
  · exact h_R_mas
  · simp only [R_say, nS, s3_7, s26, s27, t0_16, t17, t18, t19, t20, t21, t22] at r5 ⊢
    exact r5
  · simp only [R_own, nO, nS, sm, s22_5, s23, t0_16, t17] at r6 ⊢
    exact r6
  · intro k hk
    have hk3 : k = 0 ∨ k = 1 ∨ k = 2 := by omega
    rw [t24]
    rcases hk3 with e | e | e <;> subst e
    · rw [s10_0]; exact r7 0 (by decide)
    · rw [s10_1]; exact r7 1 (by decide)
    · rw [s10_2]; exact r7 2 (by decide)
  · simp only [R_rul, s8, s9] at r8 ⊢
    exact r8
  · simp only [R_mov, nV, s4_1, s28_0, s28_1, s28_2, t0_33, t34, t35, t36] at r9 ⊢
    exact r9
  · simp only [R_misc, s0_6, s0_7, s6, t0_0, t0_2, t1, e.1, f.1] at r10 ⊢
    exact r10
  · exact h_RM
def pcsay (kd j : Nat) : Bool := kd == 3 && (j == 7) || kd == 26 || kd == 22 && (j == 5) || kd == 23 || kd == 24 && (j == 0)
def pmsay (kd j : Nat) : Bool := kd == 0 && (j == 16) || kd == 17 || kd == 18 || kd == 19 || kd == 20 || kd == 21 || kd == 22
theorem Inv_say {σ σ' τ τ' : St} (h : Inv σ τ) (e : Fr pcsay σ σ') (f : Fr pmsay τ τ') (h_W_cnt : W_cnt τ') (h_W_say : W_say τ') (h_W_nine : W_nine τ') (h_W_cp : W_cp τ') (h_W_mov : W_mov τ') (h_R_say : R_say σ' τ') (h_R_own : R_own σ' τ') (h_RM : RM σ' τ') : Inv σ' τ' := by
  have s0_6 : ∀ n, σ'.1 0 n 6 = σ.1 0 n 6 := fun n => e.2 _ _ _ rfl
  have s0_7 : ∀ n, σ'.1 0 n 7 = σ.1 0 n 7 := fun n => e.2 _ _ _ rfl
  have s3_3 : ∀ n, σ'.1 3 n 3 = σ.1 3 n 3 := fun n => e.2 _ _ _ rfl
  have s3_5 : ∀ n, σ'.1 3 n 5 = σ.1 3 n 5 := fun n => e.2 _ _ _ rfl
  have s4_1 : ∀ n, σ'.1 4 n 1 = σ.1 4 n 1 := fun n => e.2 _ _ _ rfl
  have s6 : σ'.1 6 = σ.1 6 := by funext n j; exact e.2 _ _ _ rfl
  have s8 : σ'.1 8 = σ.1 8 := by funext n j; exact e.2 _ _ _ rfl
  have s9 : σ'.1 9 = σ.1 9 := by funext n j; exact e.2 _ _ _ rfl
  have s10_0 : ∀ n, σ'.1 10 n 0 = σ.1 10 n 0 := fun n => e.2 _ _ _ rfl
  have s10_1 : ∀ n, σ'.1 10 n 1 = σ.1 10 n 1 := fun n => e.2 _ _ _ rfl
  have s10_2 : ∀ n, σ'.1 10 n 2 = σ.1 10 n 2 := fun n => e.2 _ _ _ rfl
  have s14 : σ'.1 14 = σ.1 14 := by funext n j; exact e.2 _ _ _ rfl
  have s18 : σ'.1 18 = σ.1 18 := by funext n j; exact e.2 _ _ _ rfl
  have s19 : σ'.1 19 = σ.1 19 := by funext n j; exact e.2 _ _ _ rfl
  have s20_1 : ∀ n, σ'.1 20 n 1 = σ.1 20 n 1 := fun n => e.2 _ _ _ rfl
  have s21 : σ'.1 21 = σ.1 21 := by funext n j; exact e.2 _ _ _ rfl
  have s22_0 : ∀ n, σ'.1 22 n 0 = σ.1 22 n 0 := fun n => e.2 _ _ _ rfl
  have s22_1 : ∀ n, σ'.1 22 n 1 = σ.1 22 n 1 := fun n => e.2 _ _ _ rfl
  have s22_2 : ∀ n, σ'.1 22 n 2 = σ.1 22 n 2 := fun n => e.2 _ _ _ rfl
  have s22_3 : ∀ n, σ'.1 22 n 3 = σ.1 22 n 3 := fun n => e.2 _ _ _ rfl
  have s28_0 : ∀ n, σ'.1 28 n 0 = σ.1 28 n 0 := fun n => e.2 _ _ _ rfl
  have s28_1 : ∀ n, σ'.1 28 n 1 = σ.1 28 n 1 := fun n => e.2 _ _ _ rfl
  have s28_2 : ∀ n, σ'.1 28 n 2 = σ.1 28 n 2 := fun n => e.2 _ _ _ rfl
  have t0_0 : ∀ n, τ'.1 0 n 0 = τ.1 0 n 0 := fun n => f.2 _ _ _ rfl
  have t0_2 : ∀ n, τ'.1 0 n 2 = τ.1 0 n 2 := fun n => f.2 _ _ _ rfl
  have t0_10 : ∀ n, τ'.1 0 n 10 = τ.1 0 n 10 := fun n => f.2 _ _ _ rfl
  have t0_12 : ∀ n, τ'.1 0 n 12 = τ.1 0 n 12 := fun n => f.2 _ _ _ rfl
  have t0_33 : ∀ n, τ'.1 0 n 33 = τ.1 0 n 33 := fun n => f.2 _ _ _ rfl
  have t1 : τ'.1 1 = τ.1 1 := by funext n j; exact f.2 _ _ _ rfl
  have t5 : τ'.1 5 = τ.1 5 := by funext n j; exact f.2 _ _ _ rfl
  have t6 : τ'.1 6 = τ.1 6 := by funext n j; exact f.2 _ _ _ rfl
  have t8 : τ'.1 8 = τ.1 8 := by funext n j; exact f.2 _ _ _ rfl
  have t9 : τ'.1 9 = τ.1 9 := by funext n j; exact f.2 _ _ _ rfl
  have t11 : τ'.1 11 = τ.1 11 := by funext n j; exact f.2 _ _ _ rfl
  have t13 : τ'.1 13 = τ.1 13 := by funext n j; exact f.2 _ _ _ rfl
  have t14 : τ'.1 14 = τ.1 14 := by funext n j; exact f.2 _ _ _ rfl
  have t15 : τ'.1 15 = τ.1 15 := by funext n j; exact f.2 _ _ _ rfl
  have t24 : τ'.1 24 = τ.1 24 := by funext n j; exact f.2 _ _ _ rfl
  have t34 : τ'.1 34 = τ.1 34 := by funext n j; exact f.2 _ _ _ rfl
  have t35 : τ'.1 35 = τ.1 35 := by funext n j; exact f.2 _ _ _ rfl
  have t36 : τ'.1 36 = τ.1 36 := by funext n j; exact f.2 _ _ _ rfl
  obtain ⟨⟨w1, w2, w3, w4, w5, w6, w7, w8, w9, w10⟩, ⟨r1, r2, r3, r4, r5, r6, r7, r8, r9, r10⟩, rm⟩ := h
  refine ⟨⟨?_, ?_, ?_, ?_, ?_, ?_, ?_, ?_, ?_, ?_⟩, ⟨?_, ?_, ?_, ?_, ?_, ?_, ?_, ?_, ?_, ?_⟩, ?_⟩
  · exact h_W_cnt
  · simp only [W_row, t5] at w2 ⊢
    exact w2
  · simp only [W_text, t8, t9] at w3 ⊢
    exact w3
  · simp only [W_case, nC, cs, t0_10, t11] at w4 ⊢
    exact w4
  · simp only [W_mas, nM, t0_12, t13, t14, t15] at w5 ⊢
    exact w5
  · exact h_W_say
  · exact h_W_nine
  · simp only [W_pr, t24] at w8 ⊢
    exact w8
  · exact h_W_cp
  · exact h_W_mov
  · simp only [R_row, s18, s19, t5, t6] at r1 ⊢
    exact r1
  · simp only [R_text, s20_1, s21, t8, t9] at r2 ⊢
    exact r2
  · simp only [R_case, s3_3, s14, t0_10, t11] at r3 ⊢
    exact r3
  · have hl : leads τ' = leads τ := leads_congr t15
    simp only [R_mas, nM, hl, s3_5, s22_0, s22_1, s22_2, s22_3, t0_12, t13, t14, t15] at r4 ⊢
    exact r4
  · exact h_R_say
  · exact h_R_own
  · intro k hk
    have hk3 : k = 0 ∨ k = 1 ∨ k = 2 := by omega
    rw [t24]
    rcases hk3 with e | e | e <;> subst e
    · rw [s10_0]; exact r7 0 (by decide)
    · rw [s10_1]; exact r7 1 (by decide)
    · rw [s10_2]; exact r7 2 (by decide)
  · simp only [R_rul, s8, s9] at r8 ⊢
    exact r8
  · simp only [R_mov, nV, s4_1, s28_0, s28_1, s28_2, t0_33, t34, t35, t36] at r9 ⊢
    exact r9
  · simp only [R_misc, s0_6, s0_7, s6, t0_0, t0_2, t1, e.1, f.1] at r10 ⊢
    exact r10
  · exact h_RM
def pcpr (kd j : Nat) : Bool := kd == 10 && (j == 0 || j == 1 || j == 2) || kd == 24 && (j == 0)
def pmpr (kd j : Nat) : Bool := kd == 24
theorem Inv_pr {σ σ' τ τ' : St} (h : Inv σ τ) (e : Fr pcpr σ σ') (f : Fr pmpr τ τ') (h_W_pr : W_pr τ') (h_R_pr : R_pr σ' τ') (h_RM : RM σ' τ') : Inv σ' τ' := by
  have s0_6 : ∀ n, σ'.1 0 n 6 = σ.1 0 n 6 := fun n => e.2 _ _ _ rfl
  have s0_7 : ∀ n, σ'.1 0 n 7 = σ.1 0 n 7 := fun n => e.2 _ _ _ rfl
  have s3_3 : ∀ n, σ'.1 3 n 3 = σ.1 3 n 3 := fun n => e.2 _ _ _ rfl
  have s3_5 : ∀ n, σ'.1 3 n 5 = σ.1 3 n 5 := fun n => e.2 _ _ _ rfl
  have s3_7 : ∀ n, σ'.1 3 n 7 = σ.1 3 n 7 := fun n => e.2 _ _ _ rfl
  have s4_1 : ∀ n, σ'.1 4 n 1 = σ.1 4 n 1 := fun n => e.2 _ _ _ rfl
  have s6 : σ'.1 6 = σ.1 6 := by funext n j; exact e.2 _ _ _ rfl
  have s8 : σ'.1 8 = σ.1 8 := by funext n j; exact e.2 _ _ _ rfl
  have s9 : σ'.1 9 = σ.1 9 := by funext n j; exact e.2 _ _ _ rfl
  have s14 : σ'.1 14 = σ.1 14 := by funext n j; exact e.2 _ _ _ rfl
  have s18 : σ'.1 18 = σ.1 18 := by funext n j; exact e.2 _ _ _ rfl
  have s19 : σ'.1 19 = σ.1 19 := by funext n j; exact e.2 _ _ _ rfl
  have s20_1 : ∀ n, σ'.1 20 n 1 = σ.1 20 n 1 := fun n => e.2 _ _ _ rfl
  have s21 : σ'.1 21 = σ.1 21 := by funext n j; exact e.2 _ _ _ rfl
  have s22_0 : ∀ n, σ'.1 22 n 0 = σ.1 22 n 0 := fun n => e.2 _ _ _ rfl
  have s22_1 : ∀ n, σ'.1 22 n 1 = σ.1 22 n 1 := fun n => e.2 _ _ _ rfl
  have s22_2 : ∀ n, σ'.1 22 n 2 = σ.1 22 n 2 := fun n => e.2 _ _ _ rfl
  have s22_3 : ∀ n, σ'.1 22 n 3 = σ.1 22 n 3 := fun n => e.2 _ _ _ rfl
  have s22_5 : ∀ n, σ'.1 22 n 5 = σ.1 22 n 5 := fun n => e.2 _ _ _ rfl
  have s23 : σ'.1 23 = σ.1 23 := by funext n j; exact e.2 _ _ _ rfl
  have s26 : σ'.1 26 = σ.1 26 := by funext n j; exact e.2 _ _ _ rfl
  have s27 : σ'.1 27 = σ.1 27 := by funext n j; exact e.2 _ _ _ rfl
  have s28_0 : ∀ n, σ'.1 28 n 0 = σ.1 28 n 0 := fun n => e.2 _ _ _ rfl
  have s28_1 : ∀ n, σ'.1 28 n 1 = σ.1 28 n 1 := fun n => e.2 _ _ _ rfl
  have s28_2 : ∀ n, σ'.1 28 n 2 = σ.1 28 n 2 := fun n => e.2 _ _ _ rfl
  have t0_0 : ∀ n, τ'.1 0 n 0 = τ.1 0 n 0 := fun n => f.2 _ _ _ rfl
  have t0_2 : ∀ n, τ'.1 0 n 2 = τ.1 0 n 2 := fun n => f.2 _ _ _ rfl
  have t0_10 : ∀ n, τ'.1 0 n 10 = τ.1 0 n 10 := fun n => f.2 _ _ _ rfl
  have t0_12 : ∀ n, τ'.1 0 n 12 = τ.1 0 n 12 := fun n => f.2 _ _ _ rfl
  have t0_16 : ∀ n, τ'.1 0 n 16 = τ.1 0 n 16 := fun n => f.2 _ _ _ rfl
  have t0_33 : ∀ n, τ'.1 0 n 33 = τ.1 0 n 33 := fun n => f.2 _ _ _ rfl
  have t1 : τ'.1 1 = τ.1 1 := by funext n j; exact f.2 _ _ _ rfl
  have t5 : τ'.1 5 = τ.1 5 := by funext n j; exact f.2 _ _ _ rfl
  have t6 : τ'.1 6 = τ.1 6 := by funext n j; exact f.2 _ _ _ rfl
  have t8 : τ'.1 8 = τ.1 8 := by funext n j; exact f.2 _ _ _ rfl
  have t9 : τ'.1 9 = τ.1 9 := by funext n j; exact f.2 _ _ _ rfl
  have t11 : τ'.1 11 = τ.1 11 := by funext n j; exact f.2 _ _ _ rfl
  have t13 : τ'.1 13 = τ.1 13 := by funext n j; exact f.2 _ _ _ rfl
  have t14 : τ'.1 14 = τ.1 14 := by funext n j; exact f.2 _ _ _ rfl
  have t15 : τ'.1 15 = τ.1 15 := by funext n j; exact f.2 _ _ _ rfl
  have t17 : τ'.1 17 = τ.1 17 := by funext n j; exact f.2 _ _ _ rfl
  have t18 : τ'.1 18 = τ.1 18 := by funext n j; exact f.2 _ _ _ rfl
  have t19 : τ'.1 19 = τ.1 19 := by funext n j; exact f.2 _ _ _ rfl
  have t20 : τ'.1 20 = τ.1 20 := by funext n j; exact f.2 _ _ _ rfl
  have t21 : τ'.1 21 = τ.1 21 := by funext n j; exact f.2 _ _ _ rfl
  have t22 : τ'.1 22 = τ.1 22 := by funext n j; exact f.2 _ _ _ rfl
  have t34 : τ'.1 34 = τ.1 34 := by funext n j; exact f.2 _ _ _ rfl
  have t35 : τ'.1 35 = τ.1 35 := by funext n j; exact f.2 _ _ _ rfl
  have t36 : τ'.1 36 = τ.1 36 := by funext n j; exact f.2 _ _ _ rfl
  obtain ⟨⟨w1, w2, w3, w4, w5, w6, w7, w8, w9, w10⟩, ⟨r1, r2, r3, r4, r5, r6, r7, r8, r9, r10⟩, rm⟩ := h
  refine ⟨⟨?_, ?_, ?_, ?_, ?_, ?_, ?_, ?_, ?_, ?_⟩, ⟨?_, ?_, ?_, ?_, ?_, ?_, ?_, ?_, ?_, ?_⟩, ?_⟩
  · simp only [W_cnt, nC, nM, nS, nV, t0_10, t0_12, t0_16, t0_33] at w1 ⊢
    exact w1
  · simp only [W_row, t5] at w2 ⊢
    exact w2
  · simp only [W_text, t8, t9] at w3 ⊢
    exact w3
  · simp only [W_case, nC, cs, t0_10, t11] at w4 ⊢
    exact w4
  · simp only [W_mas, nM, t0_12, t13, t14, t15] at w5 ⊢
    exact w5
  · simp only [W_say, nC, nM, nS, sm, sc, sy, sa, t0_10, t0_12, t0_16, t13, t14, t17, t18, t19, t20, t21] at w6 ⊢
    exact w6
  · simp only [W_nine, nO, nS, sm, t0_16, t17] at w7 ⊢
    exact w7
  · exact h_W_pr
  · simp only [W_cp, nS, t0_16, t22] at w9 ⊢
    exact w9
  · simp only [W_mov, okMv, nV, nS, nM, t0_12, t0_16, t0_33, t34, t35, t36] at w10 ⊢
    exact w10
  · simp only [R_row, s18, s19, t5, t6] at r1 ⊢
    exact r1
  · simp only [R_text, s20_1, s21, t8, t9] at r2 ⊢
    exact r2
  · simp only [R_case, s3_3, s14, t0_10, t11] at r3 ⊢
    exact r3
  · have hl : leads τ' = leads τ := leads_congr t15
    simp only [R_mas, nM, hl, s3_5, s22_0, s22_1, s22_2, s22_3, t0_12, t13, t14, t15] at r4 ⊢
    exact r4
  · simp only [R_say, nS, s3_7, s26, s27, t0_16, t17, t18, t19, t20, t21, t22] at r5 ⊢
    exact r5
  · simp only [R_own, nO, nS, sm, s22_5, s23, t0_16, t17] at r6 ⊢
    exact r6
  · exact h_R_pr
  · simp only [R_rul, s8, s9] at r8 ⊢
    exact r8
  · simp only [R_mov, nV, s4_1, s28_0, s28_1, s28_2, t0_33, t34, t35, t36] at r9 ⊢
    exact r9
  · simp only [R_misc, s0_6, s0_7, s6, t0_0, t0_2, t1, e.1, f.1] at r10 ⊢
    exact r10
  · exact h_RM
def pccp (kd j : Nat) : Bool := kd == 27
def pmcp (kd j : Nat) : Bool := kd == 22
theorem Inv_cp {σ σ' τ τ' : St} (h : Inv σ τ) (e : Fr pccp σ σ') (f : Fr pmcp τ τ') (h_W_cp : W_cp τ') (h_R_say : R_say σ' τ') : Inv σ' τ' := by
  have s0_6 : ∀ n, σ'.1 0 n 6 = σ.1 0 n 6 := fun n => e.2 _ _ _ rfl
  have s0_7 : ∀ n, σ'.1 0 n 7 = σ.1 0 n 7 := fun n => e.2 _ _ _ rfl
  have s3_3 : ∀ n, σ'.1 3 n 3 = σ.1 3 n 3 := fun n => e.2 _ _ _ rfl
  have s3_5 : ∀ n, σ'.1 3 n 5 = σ.1 3 n 5 := fun n => e.2 _ _ _ rfl
  have s4_1 : ∀ n, σ'.1 4 n 1 = σ.1 4 n 1 := fun n => e.2 _ _ _ rfl
  have s6 : σ'.1 6 = σ.1 6 := by funext n j; exact e.2 _ _ _ rfl
  have s8 : σ'.1 8 = σ.1 8 := by funext n j; exact e.2 _ _ _ rfl
  have s9 : σ'.1 9 = σ.1 9 := by funext n j; exact e.2 _ _ _ rfl
  have s10_0 : ∀ n, σ'.1 10 n 0 = σ.1 10 n 0 := fun n => e.2 _ _ _ rfl
  have s10_1 : ∀ n, σ'.1 10 n 1 = σ.1 10 n 1 := fun n => e.2 _ _ _ rfl
  have s10_2 : ∀ n, σ'.1 10 n 2 = σ.1 10 n 2 := fun n => e.2 _ _ _ rfl
  have s14 : σ'.1 14 = σ.1 14 := by funext n j; exact e.2 _ _ _ rfl
  have s18 : σ'.1 18 = σ.1 18 := by funext n j; exact e.2 _ _ _ rfl
  have s19 : σ'.1 19 = σ.1 19 := by funext n j; exact e.2 _ _ _ rfl
  have s20_1 : ∀ n, σ'.1 20 n 1 = σ.1 20 n 1 := fun n => e.2 _ _ _ rfl
  have s21 : σ'.1 21 = σ.1 21 := by funext n j; exact e.2 _ _ _ rfl
  have s22_0 : ∀ n, σ'.1 22 n 0 = σ.1 22 n 0 := fun n => e.2 _ _ _ rfl
  have s22_1 : ∀ n, σ'.1 22 n 1 = σ.1 22 n 1 := fun n => e.2 _ _ _ rfl
  have s22_2 : ∀ n, σ'.1 22 n 2 = σ.1 22 n 2 := fun n => e.2 _ _ _ rfl
  have s22_3 : ∀ n, σ'.1 22 n 3 = σ.1 22 n 3 := fun n => e.2 _ _ _ rfl
  have s22_5 : ∀ n, σ'.1 22 n 5 = σ.1 22 n 5 := fun n => e.2 _ _ _ rfl
  have s23 : σ'.1 23 = σ.1 23 := by funext n j; exact e.2 _ _ _ rfl
  have s24 : σ'.1 24 = σ.1 24 := by funext n j; exact e.2 _ _ _ rfl
  have s25 : σ'.1 25 = σ.1 25 := by funext n j; exact e.2 _ _ _ rfl
  have s28_0 : ∀ n, σ'.1 28 n 0 = σ.1 28 n 0 := fun n => e.2 _ _ _ rfl
  have s28_1 : ∀ n, σ'.1 28 n 1 = σ.1 28 n 1 := fun n => e.2 _ _ _ rfl
  have s28_2 : ∀ n, σ'.1 28 n 2 = σ.1 28 n 2 := fun n => e.2 _ _ _ rfl
  have t0_0 : ∀ n, τ'.1 0 n 0 = τ.1 0 n 0 := fun n => f.2 _ _ _ rfl
  have t0_2 : ∀ n, τ'.1 0 n 2 = τ.1 0 n 2 := fun n => f.2 _ _ _ rfl
  have t0_10 : ∀ n, τ'.1 0 n 10 = τ.1 0 n 10 := fun n => f.2 _ _ _ rfl
  have t0_12 : ∀ n, τ'.1 0 n 12 = τ.1 0 n 12 := fun n => f.2 _ _ _ rfl
  have t0_16 : ∀ n, τ'.1 0 n 16 = τ.1 0 n 16 := fun n => f.2 _ _ _ rfl
  have t0_33 : ∀ n, τ'.1 0 n 33 = τ.1 0 n 33 := fun n => f.2 _ _ _ rfl
  have t1 : τ'.1 1 = τ.1 1 := by funext n j; exact f.2 _ _ _ rfl
  have t5 : τ'.1 5 = τ.1 5 := by funext n j; exact f.2 _ _ _ rfl
  have t6 : τ'.1 6 = τ.1 6 := by funext n j; exact f.2 _ _ _ rfl
  have t8 : τ'.1 8 = τ.1 8 := by funext n j; exact f.2 _ _ _ rfl
  have t9 : τ'.1 9 = τ.1 9 := by funext n j; exact f.2 _ _ _ rfl
  have t11 : τ'.1 11 = τ.1 11 := by funext n j; exact f.2 _ _ _ rfl
  have t13 : τ'.1 13 = τ.1 13 := by funext n j; exact f.2 _ _ _ rfl
  have t14 : τ'.1 14 = τ.1 14 := by funext n j; exact f.2 _ _ _ rfl
  have t15 : τ'.1 15 = τ.1 15 := by funext n j; exact f.2 _ _ _ rfl
  have t17 : τ'.1 17 = τ.1 17 := by funext n j; exact f.2 _ _ _ rfl
  have t18 : τ'.1 18 = τ.1 18 := by funext n j; exact f.2 _ _ _ rfl
  have t19 : τ'.1 19 = τ.1 19 := by funext n j; exact f.2 _ _ _ rfl
  have t20 : τ'.1 20 = τ.1 20 := by funext n j; exact f.2 _ _ _ rfl
  have t21 : τ'.1 21 = τ.1 21 := by funext n j; exact f.2 _ _ _ rfl
  have t24 : τ'.1 24 = τ.1 24 := by funext n j; exact f.2 _ _ _ rfl
  have t34 : τ'.1 34 = τ.1 34 := by funext n j; exact f.2 _ _ _ rfl
  have t35 : τ'.1 35 = τ.1 35 := by funext n j; exact f.2 _ _ _ rfl
  have t36 : τ'.1 36 = τ.1 36 := by funext n j; exact f.2 _ _ _ rfl
  obtain ⟨⟨w1, w2, w3, w4, w5, w6, w7, w8, w9, w10⟩, ⟨r1, r2, r3, r4, r5, r6, r7, r8, r9, r10⟩, rm⟩ := h
  refine ⟨⟨?_, ?_, ?_, ?_, ?_, ?_, ?_, ?_, ?_, ?_⟩, ⟨?_, ?_, ?_, ?_, ?_, ?_, ?_, ?_, ?_, ?_⟩, ?_⟩
  · simp only [W_cnt, nC, nM, nS, nV, t0_10, t0_12, t0_16, t0_33] at w1 ⊢
    exact w1
  · simp only [W_row, t5] at w2 ⊢
    exact w2
  · simp only [W_text, t8, t9] at w3 ⊢
    exact w3
  · simp only [W_case, nC, cs, t0_10, t11] at w4 ⊢
    exact w4
  · simp only [W_mas, nM, t0_12, t13, t14, t15] at w5 ⊢
    exact w5
  · simp only [W_say, nC, nM, nS, sm, sc, sy, sa, t0_10, t0_12, t0_16, t13, t14, t17, t18, t19, t20, t21] at w6 ⊢
    exact w6
  · simp only [W_nine, nO, nS, sm, t0_16, t17] at w7 ⊢
    exact w7
  · simp only [W_pr, t24] at w8 ⊢
    exact w8
  · exact h_W_cp
  · simp only [W_mov, okMv, nV, nS, nM, t0_12, t0_16, t0_33, t34, t35, t36] at w10 ⊢
    exact w10
  · simp only [R_row, s18, s19, t5, t6] at r1 ⊢
    exact r1
  · simp only [R_text, s20_1, s21, t8, t9] at r2 ⊢
    exact r2
  · simp only [R_case, s3_3, s14, t0_10, t11] at r3 ⊢
    exact r3
  · have hl : leads τ' = leads τ := leads_congr t15
    simp only [R_mas, nM, hl, s3_5, s22_0, s22_1, s22_2, s22_3, t0_12, t13, t14, t15] at r4 ⊢
    exact r4
  · exact h_R_say
  · simp only [R_own, nO, nS, sm, s22_5, s23, t0_16, t17] at r6 ⊢
    exact r6
  · intro k hk
    have hk3 : k = 0 ∨ k = 1 ∨ k = 2 := by omega
    rw [t24]
    rcases hk3 with e | e | e <;> subst e
    · rw [s10_0]; exact r7 0 (by decide)
    · rw [s10_1]; exact r7 1 (by decide)
    · rw [s10_2]; exact r7 2 (by decide)
  · simp only [R_rul, s8, s9] at r8 ⊢
    exact r8
  · simp only [R_mov, nV, s4_1, s28_0, s28_1, s28_2, t0_33, t34, t35, t36] at r9 ⊢
    exact r9
  · simp only [R_misc, s0_6, s0_7, s6, t0_0, t0_2, t1, e.1, f.1] at r10 ⊢
    exact r10
  · refine RM_same s24 s25 ?_ ?_ ?_ ?_ ?_ rm
    · simp only [nM, t0_12]; exact Nat.le_refl _
    · funext s; simp only [sm, t17]
    · simp only [nS, t0_16]
    · intro s _ r; simp only [co, pA, pS, sx, cs, sc, sa, t11, t18, t20, t21, t24]
    · simp only [pT, t24]
def pcmov (kd j : Nat) : Bool := kd == 4 && (j == 1) || kd == 28 && (j == 0 || j == 1 || j == 2)
def pmmov (kd j : Nat) : Bool := kd == 0 && (j == 33) || kd == 34 || kd == 35 || kd == 36
theorem Inv_mov {σ σ' τ τ' : St} (h : Inv σ τ) (e : Fr pcmov σ σ') (f : Fr pmmov τ τ') (h_W_cnt : W_cnt τ') (h_W_mov : W_mov τ') (h_R_mov : R_mov σ' τ') : Inv σ' τ' := by
  have s0_6 : ∀ n, σ'.1 0 n 6 = σ.1 0 n 6 := fun n => e.2 _ _ _ rfl
  have s0_7 : ∀ n, σ'.1 0 n 7 = σ.1 0 n 7 := fun n => e.2 _ _ _ rfl
  have s3_3 : ∀ n, σ'.1 3 n 3 = σ.1 3 n 3 := fun n => e.2 _ _ _ rfl
  have s3_5 : ∀ n, σ'.1 3 n 5 = σ.1 3 n 5 := fun n => e.2 _ _ _ rfl
  have s3_7 : ∀ n, σ'.1 3 n 7 = σ.1 3 n 7 := fun n => e.2 _ _ _ rfl
  have s6 : σ'.1 6 = σ.1 6 := by funext n j; exact e.2 _ _ _ rfl
  have s8 : σ'.1 8 = σ.1 8 := by funext n j; exact e.2 _ _ _ rfl
  have s9 : σ'.1 9 = σ.1 9 := by funext n j; exact e.2 _ _ _ rfl
  have s10_0 : ∀ n, σ'.1 10 n 0 = σ.1 10 n 0 := fun n => e.2 _ _ _ rfl
  have s10_1 : ∀ n, σ'.1 10 n 1 = σ.1 10 n 1 := fun n => e.2 _ _ _ rfl
  have s10_2 : ∀ n, σ'.1 10 n 2 = σ.1 10 n 2 := fun n => e.2 _ _ _ rfl
  have s14 : σ'.1 14 = σ.1 14 := by funext n j; exact e.2 _ _ _ rfl
  have s18 : σ'.1 18 = σ.1 18 := by funext n j; exact e.2 _ _ _ rfl
  have s19 : σ'.1 19 = σ.1 19 := by funext n j; exact e.2 _ _ _ rfl
  have s20_1 : ∀ n, σ'.1 20 n 1 = σ.1 20 n 1 := fun n => e.2 _ _ _ rfl
  have s21 : σ'.1 21 = σ.1 21 := by funext n j; exact e.2 _ _ _ rfl
  have s22_0 : ∀ n, σ'.1 22 n 0 = σ.1 22 n 0 := fun n => e.2 _ _ _ rfl
  have s22_1 : ∀ n, σ'.1 22 n 1 = σ.1 22 n 1 := fun n => e.2 _ _ _ rfl
  have s22_2 : ∀ n, σ'.1 22 n 2 = σ.1 22 n 2 := fun n => e.2 _ _ _ rfl
  have s22_3 : ∀ n, σ'.1 22 n 3 = σ.1 22 n 3 := fun n => e.2 _ _ _ rfl
  have s22_5 : ∀ n, σ'.1 22 n 5 = σ.1 22 n 5 := fun n => e.2 _ _ _ rfl
  have s23 : σ'.1 23 = σ.1 23 := by funext n j; exact e.2 _ _ _ rfl
  have s24 : σ'.1 24 = σ.1 24 := by funext n j; exact e.2 _ _ _ rfl
  have s25 : σ'.1 25 = σ.1 25 := by funext n j; exact e.2 _ _ _ rfl
  have s26 : σ'.1 26 = σ.1 26 := by funext n j; exact e.2 _ _ _ rfl
  have s27 : σ'.1 27 = σ.1 27 := by funext n j; exact e.2 _ _ _ rfl
  have t0_0 : ∀ n, τ'.1 0 n 0 = τ.1 0 n 0 := fun n => f.2 _ _ _ rfl
  have t0_2 : ∀ n, τ'.1 0 n 2 = τ.1 0 n 2 := fun n => f.2 _ _ _ rfl
  have t0_10 : ∀ n, τ'.1 0 n 10 = τ.1 0 n 10 := fun n => f.2 _ _ _ rfl
  have t0_12 : ∀ n, τ'.1 0 n 12 = τ.1 0 n 12 := fun n => f.2 _ _ _ rfl
  have t0_16 : ∀ n, τ'.1 0 n 16 = τ.1 0 n 16 := fun n => f.2 _ _ _ rfl
  have t1 : τ'.1 1 = τ.1 1 := by funext n j; exact f.2 _ _ _ rfl
  have t5 : τ'.1 5 = τ.1 5 := by funext n j; exact f.2 _ _ _ rfl
  have t6 : τ'.1 6 = τ.1 6 := by funext n j; exact f.2 _ _ _ rfl
  have t8 : τ'.1 8 = τ.1 8 := by funext n j; exact f.2 _ _ _ rfl
  have t9 : τ'.1 9 = τ.1 9 := by funext n j; exact f.2 _ _ _ rfl
  have t11 : τ'.1 11 = τ.1 11 := by funext n j; exact f.2 _ _ _ rfl
  have t13 : τ'.1 13 = τ.1 13 := by funext n j; exact f.2 _ _ _ rfl
  have t14 : τ'.1 14 = τ.1 14 := by funext n j; exact f.2 _ _ _ rfl
  have t15 : τ'.1 15 = τ.1 15 := by funext n j; exact f.2 _ _ _ rfl
  have t17 : τ'.1 17 = τ.1 17 := by funext n j; exact f.2 _ _ _ rfl
  have t18 : τ'.1 18 = τ.1 18 := by funext n j; exact f.2 _ _ _ rfl
  have t19 : τ'.1 19 = τ.1 19 := by funext n j; exact f.2 _ _ _ rfl
  have t20 : τ'.1 20 = τ.1 20 := by funext n j; exact f.2 _ _ _ rfl
  have t21 : τ'.1 21 = τ.1 21 := by funext n j; exact f.2 _ _ _ rfl
  have t22 : τ'.1 22 = τ.1 22 := by funext n j; exact f.2 _ _ _ rfl
  have t24 : τ'.1 24 = τ.1 24 := by funext n j; exact f.2 _ _ _ rfl
  obtain ⟨⟨w1, w2, w3, w4, w5, w6, w7, w8, w9, w10⟩, ⟨r1, r2, r3, r4, r5, r6, r7, r8, r9, r10⟩, rm⟩ := h
  refine ⟨⟨?_, ?_, ?_, ?_, ?_, ?_, ?_, ?_, ?_, ?_⟩, ⟨?_, ?_, ?_, ?_, ?_, ?_, ?_, ?_, ?_, ?_⟩, ?_⟩
  · exact h_W_cnt
  · simp only [W_row, t5] at w2 ⊢
    exact w2
  · simp only [W_text, t8, t9] at w3 ⊢
    exact w3
  · simp only [W_case, nC, cs, t0_10, t11] at w4 ⊢
    exact w4
  · simp only [W_mas, nM, t0_12, t13, t14, t15] at w5 ⊢
    exact w5
  · simp only [W_say, nC, nM, nS, sm, sc, sy, sa, t0_10, t0_12, t0_16, t13, t14, t17, t18, t19, t20, t21] at w6 ⊢
    exact w6
  · simp only [W_nine, nO, nS, sm, t0_16, t17] at w7 ⊢
    exact w7
  · simp only [W_pr, t24] at w8 ⊢
    exact w8
  · simp only [W_cp, nS, t0_16, t22] at w9 ⊢
    exact w9
  · exact h_W_mov
  · simp only [R_row, s18, s19, t5, t6] at r1 ⊢
    exact r1
  · simp only [R_text, s20_1, s21, t8, t9] at r2 ⊢
    exact r2
  · simp only [R_case, s3_3, s14, t0_10, t11] at r3 ⊢
    exact r3
  · have hl : leads τ' = leads τ := leads_congr t15
    simp only [R_mas, nM, hl, s3_5, s22_0, s22_1, s22_2, s22_3, t0_12, t13, t14, t15] at r4 ⊢
    exact r4
  · simp only [R_say, nS, s3_7, s26, s27, t0_16, t17, t18, t19, t20, t21, t22] at r5 ⊢
    exact r5
  · simp only [R_own, nO, nS, sm, s22_5, s23, t0_16, t17] at r6 ⊢
    exact r6
  · intro k hk
    have hk3 : k = 0 ∨ k = 1 ∨ k = 2 := by omega
    rw [t24]
    rcases hk3 with e | e | e <;> subst e
    · rw [s10_0]; exact r7 0 (by decide)
    · rw [s10_1]; exact r7 1 (by decide)
    · rw [s10_2]; exact r7 2 (by decide)
  · simp only [R_rul, s8, s9] at r8 ⊢
    exact r8
  · exact h_R_mov
  · simp only [R_misc, s0_6, s0_7, s6, t0_0, t0_2, t1, e.1, f.1] at r10 ⊢
    exact r10
  · refine RM_same s24 s25 ?_ ?_ ?_ ?_ ?_ rm
    · simp only [nM, t0_12]; exact Nat.le_refl _
    · funext s; simp only [sm, t17]
    · simp only [nS, t0_16]
    · intro s _ r; simp only [co, pA, pS, sx, cs, sc, sa, t11, t18, t20, t21, t24]
    · simp only [pT, t24]
