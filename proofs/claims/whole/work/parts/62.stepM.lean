def pcflip (kd j : Nat) : Bool := kd == 26 && (j == 3)
def pmflip (kd j : Nat) : Bool := kd == 20
theorem WR_flip {σ σ' τ τ' : St} (w : WF τ) (c : RC σ τ) (e : Fr pcflip σ σ') (f : Fr pmflip τ τ') (h_W_say : W_say τ') (h_R_say : R_say σ' τ') : WF τ' ∧ RC σ' τ' := by
  have s0_6 : ∀ n, σ'.1 0 n 6 = σ.1 0 n 6 := fun n => e.2 _ _ _ rfl
  have s0_7 : ∀ n, σ'.1 0 n 7 = σ.1 0 n 7 := fun n => e.2 _ _ _ rfl
  have s3_3 : ∀ n, σ'.1 3 n 3 = σ.1 3 n 3 := fun n => e.2 _ _ _ rfl
  have s3_5 : ∀ n, σ'.1 3 n 5 = σ.1 3 n 5 := fun n => e.2 _ _ _ rfl
  have s4_1 : ∀ n, σ'.1 4 n 1 = σ.1 4 n 1 := fun n => e.2 _ _ _ rfl
  have s6 : σ'.1 6 = σ.1 6 := by funext n j; exact e.2 _ _ _ rfl
  have s8 : σ'.1 8 = σ.1 8 := by funext n j; exact e.2 _ _ _ rfl
  have s9 : σ'.1 9 = σ.1 9 := by funext n j; exact e.2 _ _ _ rfl
  have s10_0 : ∀ n, σ'.1 10 n 0 = σ.1 10 n 0 := fun n => e.2 _ _ _ rfl
  have s10_1 : ∀ n, σ'.1 10 n 1 = σ.1 10 n 1 := fun n => e.2 _ _ _ rfl
  have s10_2 : ∀ n, σ'.1 10 n 2 = σ.1 10 n 2 := fun n => e.2 _ _ _ rfl
  have s14 : σ'.1 14 = σ.1 14 := by funext n j; exact e.2 _ _ _ rfl
  have s18 : σ'.1 18 = σ.1 18 := by funext n j; exact e.2 _ _ _ rfl
  have s19 : σ'.1 19 = σ.1 19 := by funext n j; exact e.2 _ _ _ rfl
  have s20_1 : ∀ n, σ'.1 20 n 1 = σ.1 20 n 1 := fun n => e.2 _ _ _ rfl
  have s21 : σ'.1 21 = σ.1 21 := by funext n j; exact e.2 _ _ _ rfl
  have s22_0 : ∀ n, σ'.1 22 n 0 = σ.1 22 n 0 := fun n => e.2 _ _ _ rfl
  have s22_1 : ∀ n, σ'.1 22 n 1 = σ.1 22 n 1 := fun n => e.2 _ _ _ rfl
  have s22_2 : ∀ n, σ'.1 22 n 2 = σ.1 22 n 2 := fun n => e.2 _ _ _ rfl
  have s22_3 : ∀ n, σ'.1 22 n 3 = σ.1 22 n 3 := fun n => e.2 _ _ _ rfl
  have s22_5 : ∀ n, σ'.1 22 n 5 = σ.1 22 n 5 := fun n => e.2 _ _ _ rfl
  have s23 : σ'.1 23 = σ.1 23 := by funext n j; exact e.2 _ _ _ rfl
  have s28_0 : ∀ n, σ'.1 28 n 0 = σ.1 28 n 0 := fun n => e.2 _ _ _ rfl
  have s28_1 : ∀ n, σ'.1 28 n 1 = σ.1 28 n 1 := fun n => e.2 _ _ _ rfl
  have s28_2 : ∀ n, σ'.1 28 n 2 = σ.1 28 n 2 := fun n => e.2 _ _ _ rfl
  have t0_0 : ∀ n, τ'.1 0 n 0 = τ.1 0 n 0 := fun n => f.2 _ _ _ rfl
  have t0_2 : ∀ n, τ'.1 0 n 2 = τ.1 0 n 2 := fun n => f.2 _ _ _ rfl
  have t0_10 : ∀ n, τ'.1 0 n 10 = τ.1 0 n 10 := fun n => f.2 _ _ _ rfl
  have t0_12 : ∀ n, τ'.1 0 n 12 = τ.1 0 n 12 := fun n => f.2 _ _ _ rfl
  have t0_16 : ∀ n, τ'.1 0 n 16 = τ.1 0 n 16 := fun n => f.2 _ _ _ rfl
  have t0_33 : ∀ n, τ'.1 0 n 33 = τ.1 0 n 33 := fun n => f.2 _ _ _ rfl
  have t1 : τ'.1 1 = τ.1 1 := by funext n j; exact f.2 _ _ _ rfl
  have t5 : τ'.1 5 = τ.1 5 := by funext n j; exact f.2 _ _ _ rfl
  have t6 : τ'.1 6 = τ.1 6 := by funext n j; exact f.2 _ _ _ rfl
  have t8 : τ'.1 8 = τ.1 8 := by funext n j; exact f.2 _ _ _ rfl
  have t9 : τ'.1 9 = τ.1 9 := by funext n j; exact f.2 _ _ _ rfl
  have t11 : τ'.1 11 = τ.1 11 := by funext n j; exact f.2 _ _ _ rfl
  have t13 : τ'.1 13 = τ.1 13 := by funext n j; exact f.2 _ _ _ rfl
  have t14 : τ'.1 14 = τ.1 14 := by funext n j; exact f.2 _ _ _ rfl
  have t15 : τ'.1 15 = τ.1 15 := by funext n j; exact f.2 _ _ _ rfl
  have t17 : τ'.1 17 = τ.1 17 := by funext n j; exact f.2 _ _ _ rfl
  have t22 : τ'.1 22 = τ.1 22 := by funext n j; exact f.2 _ _ _ rfl
  have t24 : τ'.1 24 = τ.1 24 := by funext n j; exact f.2 _ _ _ rfl
  have t34 : τ'.1 34 = τ.1 34 := by funext n j; exact f.2 _ _ _ rfl
  have t35 : τ'.1 35 = τ.1 35 := by funext n j; exact f.2 _ _ _ rfl
  have t36 : τ'.1 36 = τ.1 36 := by funext n j; exact f.2 _ _ _ rfl
  obtain ⟨w1, w2, w3, w4, w5, w6, w7, w8, w9, w10⟩ := w
  obtain ⟨r1, r2, r3, r4, r5, r6, r7, r8, r9, r10⟩ := c
  refine ⟨⟨?_, ?_, ?_, ?_, ?_, ?_, ?_, ?_, ?_, ?_⟩, ⟨?_, ?_, ?_, ?_, ?_, ?_, ?_, ?_, ?_, ?_⟩⟩
  · simp only [W_cnt, nC, nM, nS, nV, t0_10, t0_12, t0_16, t0_33] at w1 ⊢
    exact w1
  · simp only [W_row, t5] at w2 ⊢
    exact w2
  · simp only [W_text, t8, t9] at w3 ⊢
    exact w3
  · simp only [W_case, nC, cs, t0_10, t11] at w4 ⊢
    exact w4
  · simp only [W_mas, nM, t0_12, t13, t14, t15] at w5 ⊢
    exact w5
  · exact h_W_say
  · simp only [W_nine, nO, nS, sm, t0_16, t17] at w7 ⊢
    exact w7
  · simp only [W_pr, t24] at w8 ⊢
    exact w8
  · simp only [W_cp, nS, t0_16, t22] at w9 ⊢
    exact w9
  · simp only [W_mov, okMv, nV, nS, nM, t0_12, t0_16, t0_33, t34, t35, t36] at w10 ⊢
    exact w10
  · simp only [R_row, s18, s19, t5, t6] at r1 ⊢
    exact r1
  · simp only [R_text, s20_1, s21, t8, t9] at r2 ⊢
    exact r2
  · simp only [R_case, s3_3, s14, t0_10, t11] at r3 ⊢
    exact r3
  · have hl : leads τ' = leads τ := leads_congr t15
    simp only [R_mas, nM, hl, s3_5, s22_0, s22_1, s22_2, s22_3, t0_12, t13, t14, t15] at r4 ⊢
    exact r4
  · exact h_R_say
  · simp only [R_own, nO, nS, sm, s22_5, s23, t0_16, t17] at r6 ⊢
    exact r6
  · intro k hk
    have hk3 : k = 0 ∨ k = 1 ∨ k = 2 := by omega
    rw [t24]
    rcases hk3 with e | e | e <;> subst e
    · rw [s10_0]; exact r7 0 (by decide)
    · rw [s10_1]; exact r7 1 (by decide)
    · rw [s10_2]; exact r7 2 (by decide)
  · simp only [R_rul, s8, s9] at r8 ⊢
    exact r8
  · simp only [R_mov, nV, s4_1, s28_0, s28_1, s28_2, t0_33, t34, t35, t36] at r9 ⊢
    exact r9
  · simp only [R_misc, s0_6, s0_7, s6, t0_0, t0_2, t1, e.1, f.1] at r10 ⊢
    exact r10
/-! ===== runs ===== -/
theorem flip_ok {σ τ : St} (w : WF τ) (c : RC σ τ) {y a : Nat} (hy : y < nS τ) (ha : a < 2) : WF (sX τ 20 0 y (nI a)) ∧ RC (sX σ 26 y 3 (nI a)) (sX τ 20 0 y (nI a)) := by
  refine WR_flip w c ((Fr.rf _ _).st _ _ _ _ rfl) ((Fr.rf _ _).st _ _ _ _ rfl) ?_ ?_
  · have q := w.say
    have hS := w.nS24
    intro s hs
    have vS : nS (sX τ 20 0 y (nI a)) = nS τ := by unfold nS; rw [sX_o (by omega)]
    rw [vS] at hs
    obtain ⟨q1, q2, q3, q4, q5⟩ := q s hs
    have vM : nM (sX τ 20 0 y (nI a)) = nM τ := by unfold nM; rw [sX_o (by omega)]
    have vC : nC (sX τ 20 0 y (nI a)) = nC τ := by unfold nC; rw [sX_o (by omega)]
    have e1 : sm (sX τ 20 0 y (nI a)) s = sm τ s := by unfold sm; rw [sX_o (by omega)]
    have e2 : sc (sX τ 20 0 y (nI a)) s = sc τ s := by unfold sc; rw [sX_o (by omega)]
    have e3 : sy (sX τ 20 0 y (nI a)) s = sy τ s := by unfold sy; rw [sX_o (by omega)]
    rw [vM, vC, e1, e2, e3]
    refine ⟨?_, ?_, ?_, ?_, ?_⟩
    · rw [sX_o (by omega)]; exact q1
    · rw [sX_o (by omega)]; exact q2
    · rw [sX_o (by omega), sX_o (by omega), sX_o (by omega)]; exact q3
    · unfold sa
      by_cases e : s = y
      · subst e
        rw [sX_s, tn_nI (by omega)]
        exact ⟨rfl, ha⟩
      · rw [sX_o (by omega)]; exact q4
    · rw [sX_o (by omega)]; exact q5
  · have q := c.say
    have vS : nS (sX τ 20 0 y (nI a)) = nS τ := by unfold nS; rw [sX_o (by omega)]
    unfold R_say
    rw [vS]
    refine ⟨?_, ?_, ?_, ?_⟩
    · rw [sX_o (by omega), sX_o (by omega)]; exact q.1
    · intro s hs
      obtain ⟨q1, q2, q3, q4, q5⟩ := q.2.1 s hs
      refine ⟨?_, ?_, ?_, ?_, ?_⟩
      · rw [sX_o (by omega), sX_o (by omega)]; exact q1
      · rw [sX_o (by omega), sX_o (by omega)]; exact q2
      · rw [sX_o (by omega), sX_o (by omega)]; exact q3
      · by_cases e : s = y
        · subst e; rw [sX_s, sX_s]
        · rw [sX_o (by omega), sX_o (by omega)]; exact q4
      · rw [sX_o (by omega), sX_o (by omega)]; exact q5
    · intro s hs k hk
      rw [sX_o (by omega), sX_o (by omega)]; exact q.2.2.1 s hs k hk
    · intro s h1 h2 k hk
      rw [sX_o (by omega)]; exact q.2.2.2 s h1 h2 k hk
theorem iabs_nI {p q : Nat} (hp : p < 2000) (hq : q < 2000) : iabs (nI p - nI q) = nI (if q ≤ p then p - q else q - p) := by
  unfold iabs
  have e := pk_sub_toInt (a := p) (b := q) (by omega) (by omega)
  by_cases c : q ≤ p
  · rw [if_pos c, if_pos, pk_sub c]
    rw [Int32.le_iff_toInt_le, e, show (0 : Int32).toInt = 0 from by decide]
    omega
  · rw [if_neg c, if_neg]
    · apply Int32.toInt_inj.mp
      rw [Int32.toInt_sub, e, nI_toInt (by omega), show (0 : Int32).toInt = 0 from by decide]
      rw [Int.bmod_eq_of_le (by omega) (by omega)]
      omega
    · rw [Int32.le_iff_toInt_le, e, show (0 : Int32).toInt = 0 from by decide]
      omega
/-- the two sums of a saying: if it were 0, if it were 1 -/
theorem runs_ref {τ : St} (w : WF τ) {y : Nat} (hy : y < nS τ) (w0 : WF (sX τ 20 0 y 0)) (w1 : WF (sX τ 20 0 y 1)) : ∃ u5 u8 v0 l0 g0 v1 l1 g1, M_settles (nI (sm τ y)) (sX τ 20 0 y 0) = some u5 ∧ M_settles (nI (sm τ y)) (sX u5 20 0 y 1) = some u8 ∧ u5.1 17 0 y = τ.1 17 0 y ∧ u5.1 0 0 27 = nI v0 ∧ u8.1 0 0 27 = nI v1 ∧ Stl (sX τ 20 0 y 0) (sm τ y) v0 l0 g0 ∧ Stl (sX τ 20 0 y 1) (sm τ y) v1 l1 g1 ∧ Fr pScr τ (sX u8 20 0 y (τ.1 20 0 y)) := by
  have hM := w.nM8
  have hsm := (w.say y hy).1.2
  obtain ⟨u5, v0, l0, g0, a1, a2, a3, a4, a5, a6⟩ := M_settles_eq w0 (m := sm τ y) (by omega)
  have hf1 : Fr pScr (sX τ 20 0 y 1) (sX u5 20 0 y 1) := by
    refine ⟨a2.1, fun kd n j hp => ?_⟩
    have := (a2.wk pSt_scr).2 kd n j hp
    rw [sX_at, sX_at]
    rw [sX_at] at this
    by_cases e : kd = 20 ∧ n = 0 ∧ j = y
    · rw [if_pos e, if_pos e]
    · rw [if_neg e] at this
      rw [if_neg e, if_neg e]; exact this
  obtain ⟨u8, v1, l1, g1, b1, b2, b3, b4, b5, b6⟩ := M_settles_eq (WF_eq hf1.eqm w1) (m := sm τ y) (by omega)
  refine ⟨u5, u8, v0, l0, g0, v1, l1, g1, a1, b1, ?_, a4, b4, a3, Stl_eqm hf1.eqm b3, ?_⟩
  · rw [a2.2 17 0 y rfl, sX_o (by omega)]
  · refine ⟨b2.1.trans a2.1, fun kd n j hp => ?_⟩
    have h1 := (b2.wk pSt_scr).2 kd n j hp
    have h2 := (a2.wk pSt_scr).2 kd n j hp
    rw [sX_at]
    rw [sX_at] at h1 h2
    by_cases e : kd = 20 ∧ n = 0 ∧ j = y
    · rw [if_pos e, e.1, e.2.1, e.2.2]
    · rw [if_neg e] at h1 h2
      rw [if_neg e, h1, h2]
theorem other_eq {s τ : St} (w : WF τ) (c : RC s τ) {y a : Nat} (hy : y < nS τ) (ha : sa τ y = a) (ha2 : a < 2) : ∃ s' v l g, Bk_sumIfOtherwise (nI y) s = some (nI v, s') ∧ Stl (sX τ 20 0 y (nI (1 - a))) (sm τ y) v l g ∧ Fr pCs s s' ∧ s'.1 26 y 3 = nI a := by
  have hS := w.nS24
  have hM := w.nM8
  have hsm := (w.say y hy).1
  obtain ⟨t1, t2, t3, t4, t5, t6, t7, t8⟩ := c.tr w hy
  have e1 : (1 : Int32) - nI a = nI (1 - a) := by
    have : a = 0 ∨ a = 1 := by omega
    rcases this with e | e <;> subst e <;> rfl
  have e2 : (1 : Int32) - nI (1 - a) = nI a := by
    have : a = 0 ∨ a = 1 := by omega
    rcases this with e | e <;> subst e <;> rfl
  obtain ⟨w', c'⟩ := flip_ok w c hy (show 1 - a < 2 by omega)
  have esm : sm (sX τ 20 0 y (nI (1 - a))) y = sm τ y := by unfold sm; rw [sX_o (by omega)]
  obtain ⟨r3, x1, x2⟩ := Bn_weigh_eq w' c' (m := sm τ y) (by omega)
  obtain ⟨r4, v, l, g, y1, y2, y3, y4, y5, y6⟩ := Bn_two_eq w' c' x2
  have hf : Fr pCs (sX s 26 y 3 (nI (1 - a))) r4 := (x2.1.wk pWg_cs).tr (y2.wk pT2_cs)
  have e3 : r4.1 26 y 3 = nI (1 - a) := by rw [hf.2 26 y 3 rfl, sX_s]
  have e0 : s.1 26 y 0 = nI (sm τ y) := (c.say.2.1 y hy).1.trans hsm.1
  refine ⟨sX r4 26 y 3 (nI a), v, l, g, ?_, y3, ?_, sX_s⟩
  · unfold Bk_sumIfOtherwise
    rw [if_pos (inb_nI (by omega) (by decide)), nI_clamp (n := y) (by omega), t5, ha, e1, sX_o (by omega), e0, if_pos (inb_nI (by omega) (by decide)), nI_clamp (n := sm τ y) (by omega), x1, Option.bind_some, y1, Option.bind_some, e3, e2, sX_o (by omega), y4]
  · refine ⟨hf.1, fun kd n j hp => ?_⟩
    have h1 := hf.2 kd n j hp
    rw [sX_at]
    rw [sX_at] at h1
    by_cases e : kd = 26 ∧ n = y ∧ j = 3
    · rw [if_pos e, e.1, e.2.1, e.2.2, t5, ha]
    · rw [if_neg e] at h1
      rw [if_neg e, h1]
theorem step_35 : Stp_35 Inv := by
  intro a1 σ τ h
  unfold Q_runs M_runs
  by_cases hx : ∃ j, j < nS τ ∧ a1 = nI j
  · obtain ⟨y, hy, rfl⟩ := hx
    have hS := h.w.nS24
    have hM := h.w.nM8
    have hi : inb (nI y) 24 = true := inb_nI (by omega) (by decide)
    have hc : (nI y).toNatClampNeg = y := nI_clamp (by omega)
    have hsm := (h.w.say y hy).1
    have hsa := (h.w.say y hy).2.2.2.1
    obtain ⟨s, s1, s2, s3, s4⟩ := settled_eq h
    have w0 : WF (sX τ 20 0 y 0) := (flip_ok h.w h.c hy (a := 0) (by decide)).1
    have w1 : WF (sX τ 20 0 y 1) := (flip_ok h.w h.c hy (a := 1) (by decide)).1
    obtain ⟨u5, u8, v0, l0, g0, v1, l1, g1, p1, p2, p3, p4, p5, p6, p7, p8⟩ := runs_ref h.w hy w0 w1
    obtain ⟨s', vo, lo, go, o1, o2, o3, o4⟩ := other_eq s2.w s2.c hy rfl hsa.2
    obtain ⟨⟨va, la, ga, k1, k2, k3, k4⟩, -⟩ := s4 _ hsm.2
    have e0 : s.1 26 y 0 = nI (sm τ y) := (s2.c.say.2.1 y hy).1.trans hsm.1
    have b0 := (Stl_b w0 p6).1
    have b1 := (Stl_b w1 p7).1
    have q1 := nI_eq (a := v0) (b := v1) (by omega) (by omega)
    have q1' := nI_eq (a := v1) (b := v0) (by omega) (by omega)
    have q2 := nI_leI (a := v1) (b := v0) (by omega) (by omega)
    have q3 := nI_leI (a := v0) (b := v1) (by omega) (by omega)
    have f17 : (sX τ 20 0 y 0).1 17 0 y = nI (sm τ y) := by rw [sX_o (by omega)]; exact hsm.1
    have f17' : (sX u5 20 0 y 1).1 17 0 y = nI (sm τ y) := by rw [sX_o (by omega), p3]; exact hsm.1
    have hFin : Inv s' (sX u8 20 0 y (τ.1 20 0 y)) := Inv_ms (Inv_fr o3 s2) p8
    rw [if_neg (hasS_in h hy).1, if_neg (hasS_in h hy).2, if_pos hi, s1, Option.bind_some, hc, e0, if_pos (inb_nI (by omega) (by decide)), nI_clamp (n := sm τ y) (by omega), o1, Option.bind_some, k2, if_pos hi, if_pos hi, if_pos hi, f17, p1, Option.bind_some, if_pos hi, if_pos hi, f17', p2, Option.bind_some, if_pos hi, p4, p5, o4]
    have h01 : sa τ y = 0 ∨ sa τ y = 1 := by omega
    rcases h01 with e | e
    · -- as said: 0
      have ev : va = v0 := by
        have hE : Eqm τ (sX τ 20 0 y 0) := by
          have : sX τ 20 0 y 0 = τ := by
            refine Prod.ext ?_ rfl
            funext a b c
            rw [sX_at]
            by_cases z : a = 20 ∧ b = 0 ∧ c = y
            · rw [if_pos z, z.1, z.2.1, z.2.2, hsa.1, e]; rfl
            · rw [if_neg z]
          rw [this]; exact Eqm.rf τ
        exact (Stl_uniq k1 (Stl_eqm hE p6)).1
      have eo : vo = v1 := by
        rw [e] at o2
        exact (Stl_uniq o2 p7).1
      subst ev; subst eo
      rw [e]
      by_cases c1 : va = vo
      · rw [if_pos (q1.mpr c1), if_pos (q2.mpr (by omega)), if_pos (q1.mpr c1), c1, pk_sub (Nat.le_refl _), Nat.sub_self]
        exact ⟨_, _, _, rfl, rfl, Inv_tell hFin _⟩
      · rw [if_neg (fun z => c1 (q1.mp z)), if_neg (show ¬ nI va = nI vo from fun z => c1 (q1.mp z)), iabs_nI (by omega) (by omega)]
        by_cases c2 : vo ≤ va
        · rw [if_pos (q2.mpr c2), if_pos (q2.mpr c2), if_pos (q2.mpr c2), if_pos c2, pk_sub c2]
          exact ⟨_, _, _, rfl, rfl, Inv_tell hFin _⟩
        · rw [if_neg (fun z => c2 (q2.mp z)), if_neg (show ¬ nI vo ≤ nI va from fun z => c2 (q2.mp z)), if_neg (show ¬ nI vo ≤ nI va from fun z => c2 (q2.mp z)), if_neg c2, pk_sub (show va ≤ vo by omega)]
          exact ⟨_, _, _, rfl, rfl, Inv_tell hFin _⟩
    · have ev : va = v1 := by
        have hE : Eqm τ (sX τ 20 0 y 1) := by
          have : sX τ 20 0 y 1 = τ := by
            refine Prod.ext ?_ rfl
            funext a b c
            rw [sX_at]
            by_cases z : a = 20 ∧ b = 0 ∧ c = y
            · rw [if_pos z, z.1, z.2.1, z.2.2, hsa.1, e]; rfl
            · rw [if_neg z]
          rw [this]; exact Eqm.rf τ
        exact (Stl_uniq k1 (Stl_eqm hE p7)).1
      have eo : vo = v0 := by
        rw [e] at o2
        exact (Stl_uniq o2 p6).1
      subst ev; subst eo
      rw [e]
      by_cases c1 : vo = va
      · rw [if_pos (q1'.mpr c1.symm), if_pos (q2.mpr (by omega)), if_pos (q1.mpr c1), c1, pk_sub (Nat.le_refl _), Nat.sub_self]
        exact ⟨_, _, _, rfl, rfl, Inv_tell hFin _⟩
      · rw [if_neg (show ¬ nI va = nI vo from fun z => c1 (q1'.mp z).symm), if_neg (show ¬ nI vo = nI va from fun z => c1 (q1.mp z)), iabs_nI (by omega) (by omega)]
        by_cases c2 : vo ≤ va
        · rw [if_pos c2, if_pos (q3.mpr c2)]
          have n1 : ¬ va ≤ vo := by omega
          rw [if_neg (show ¬ nI va ≤ nI vo from fun z => n1 (q2.mp z)), if_neg (show ¬ nI va ≤ nI vo from fun z => n1 (q2.mp z)), pk_sub c2]
          exact ⟨_, _, _, rfl, rfl, Inv_tell hFin _⟩
        · have n1 : va ≤ vo := by omega
          rw [if_neg c2, if_neg (show ¬ nI vo ≤ nI va from fun z => c2 (q3.mp z)), if_pos (q2.mpr n1), if_pos (q2.mpr n1), pk_sub n1]
          exact ⟨_, _, _, rfl, rfl, Inv_tell hFin _⟩
  · rw [if_pos (hasS_out h hx).1, if_pos (hasS_out h hx).2]
    exact ⟨_, _, _, rfl, rfl, h⟩
