/-! ===== the steps: move, met, life, count, parts, can, reading (the seven cases by mk53.py) ===== -/
theorem mv_ok {σ τ : St} (h : Inv σ τ) {s kd : Nat} (hs : s < nS τ) (hk : kd < 7) (v3 : Int32) : (Pg_takes (nI s) (nI kd) v3 σ = 0 ∧ M_isMove (nI s) (nI kd) v3 τ = 0) ∨ (¬ Pg_takes (nI s) (nI kd) v3 σ = 0 ∧ ¬ M_isMove (nI s) (nI kd) v3 τ = 0 ∧ ∃ v, (if nI kd = 0 then 0 else (if nI kd = 6 then 0 else v3) : Int32) = nI v ∧ ((kd = 0 ∨ kd = 6) ∧ v = 0 ∨ kd = 1 ∧ v < nS τ ∧ v ≠ s ∨ (kd = 2 ∨ kd = 4) ∧ v < 5 ∨ kd = 3 ∧ v < nM τ ∨ kd = 5 ∧ v < 1000)) := by
  have h7 : kd = 0 ∨ kd = 1 ∨ kd = 2 ∨ kd = 3 ∨ kd = 4 ∨ kd = 5 ∨ kd = 6 := by omega
  have hS := h.w.nS24
  unfold Pg_takes M_isMove M_isTrait
  rcases h7 with e | e | e | e | e | e | e <;> subst e
  · simp only [if_pos (show nI 0 = 0 from rfl), if_neg (show ¬ nI 0 = 1 from by decide), if_neg (show ¬ nI 0 = 2 from by decide), if_neg (show ¬ nI 0 = 3 from by decide), if_neg (show ¬ nI 0 = 4 from by decide), if_neg (show ¬ nI 0 = 5 from by decide), if_neg (show ¬ nI 0 = 6 from by decide)]
    exact Or.inr ⟨by decide, by decide, 0, rfl, Or.inl ⟨Or.inl (by trivial), by trivial⟩⟩
  · simp only [if_neg (show ¬ nI 1 = 0 from by decide), if_pos (show nI 1 = 1 from rfl), if_neg (show ¬ nI 1 = 2 from by decide), if_neg (show ¬ nI 1 = 3 from by decide), if_neg (show ¬ nI 1 = 4 from by decide), if_neg (show ¬ nI 1 = 5 from by decide), if_neg (show ¬ nI 1 = 6 from by decide)]
    by_cases hy : ∃ j, j < nS τ ∧ v3 = nI j
    · obtain ⟨j, hj, rfl⟩ := hy
      simp only [if_neg (hasS_in h hj).1, if_neg (hasS_in h hj).2]
      by_cases e : nI j = nI s
      · simp only [if_pos e]; exact Or.inl ⟨trivial, trivial⟩
      · simp only [if_neg e]
        exact Or.inr ⟨by decide, by decide, j, rfl, Or.inr (Or.inl ⟨by trivial, hj, fun x => e (by rw [x])⟩)⟩
    · simp only [if_pos (hasS_out h hy).1, if_pos (hasS_out h hy).2]
      exact Or.inl ⟨trivial, trivial⟩
  · simp only [if_neg (show ¬ nI 2 = 0 from by decide), if_neg (show ¬ nI 2 = 1 from by decide), if_pos (show nI 2 = 2 from rfl), if_neg (show ¬ nI 2 = 3 from by decide), if_neg (show ¬ nI 2 = 4 from by decide), if_neg (show ¬ nI 2 = 5 from by decide), if_neg (show ¬ nI 2 = 6 from by decide)]
    by_cases hy : ∃ j, j < 5 ∧ v3 = nI j
    · obtain ⟨j, hj, rfl⟩ := hy
      exact Or.inr ⟨wi5 hj, mi5 hj, j, rfl, Or.inr (Or.inr (Or.inl ⟨Or.inl (by trivial), hj⟩))⟩
    · exact Or.inl ⟨wo5 hy, mo5 hy⟩
  · simp only [if_neg (show ¬ nI 3 = 0 from by decide), if_neg (show ¬ nI 3 = 1 from by decide), if_neg (show ¬ nI 3 = 2 from by decide), if_pos (show nI 3 = 3 from rfl), if_neg (show ¬ nI 3 = 4 from by decide), if_neg (show ¬ nI 3 = 5 from by decide), if_neg (show ¬ nI 3 = 6 from by decide)]
    by_cases hy : ∃ j, j < nM τ ∧ v3 = nI j
    · obtain ⟨j, hj, rfl⟩ := hy
      exact Or.inr ⟨(hasM_in h hj).1, (hasM_in h hj).2, j, rfl, Or.inr (Or.inr (Or.inr (Or.inl ⟨by trivial, hj⟩)))⟩
    · exact Or.inl ⟨(hasM_out h hy).1, (hasM_out h hy).2⟩
  · simp only [if_neg (show ¬ nI 4 = 0 from by decide), if_neg (show ¬ nI 4 = 1 from by decide), if_neg (show ¬ nI 4 = 2 from by decide), if_neg (show ¬ nI 4 = 3 from by decide), if_pos (show nI 4 = 4 from rfl), if_neg (show ¬ nI 4 = 5 from by decide), if_neg (show ¬ nI 4 = 6 from by decide)]
    by_cases hy : ∃ j, j < 5 ∧ v3 = nI j
    · obtain ⟨j, hj, rfl⟩ := hy
      exact Or.inr ⟨wi5 hj, mi5 hj, j, rfl, Or.inr (Or.inr (Or.inl ⟨Or.inr (by trivial), hj⟩))⟩
    · exact Or.inl ⟨wo5 hy, mo5 hy⟩
  · simp only [if_neg (show ¬ nI 5 = 0 from by decide), if_neg (show ¬ nI 5 = 1 from by decide), if_neg (show ¬ nI 5 = 2 from by decide), if_neg (show ¬ nI 5 = 3 from by decide), if_neg (show ¬ nI 5 = 4 from by decide), if_pos (show nI 5 = 5 from rfl), if_neg (show ¬ nI 5 = 6 from by decide)]
    by_cases hy : ∃ j, j < 1000 ∧ v3 = nI j
    · obtain ⟨j, hj, rfl⟩ := hy
      exact Or.inr ⟨wi1000 hj, mi1000 hj, j, rfl, Or.inr (Or.inr (Or.inr (Or.inr ⟨by trivial, hj⟩)))⟩
    · exact Or.inl ⟨wo1000 hy, mo1000 hy⟩
  · simp only [if_neg (show ¬ nI 6 = 0 from by decide), if_neg (show ¬ nI 6 = 1 from by decide), if_neg (show ¬ nI 6 = 2 from by decide), if_neg (show ¬ nI 6 = 3 from by decide), if_neg (show ¬ nI 6 = 4 from by decide), if_neg (show ¬ nI 6 = 5 from by decide), if_pos (show nI 6 = 6 from rfl)]
    exact Or.inr ⟨by decide, by decide, 0, rfl, Or.inl ⟨Or.inr (by trivial), by trivial⟩⟩
theorem step_36 : Stp_36 Inv := by
  intro a1 a2 a3 σ τ h
  unfold Q_move M_move
  by_cases hx : ∃ j, j < nS τ ∧ a1 = nI j
  · obtain ⟨s, hs, rfl⟩ := hx
    rw [if_neg (hasS_in h hs).1, if_neg (hasS_in h hs).2]
    by_cases hy : ∃ j, j < 7 ∧ a2 = nI j
    · obtain ⟨kd, hk, rfl⟩ := hy
      rw [if_neg (wi7 hk)]
      rcases mv_ok h hs hk a3 with ⟨g1, g2⟩ | ⟨g1, g2, v, g3, g4⟩
      · rw [if_pos g1, if_pos g2]; exact ⟨_, _, _, rfl, rfl, h⟩
      · have e1 := (mvN h).1
        have e2 := (mvN h).2
        have hV := h.w.nV40
        rw [if_neg g1, if_neg g2, e1, e2]
        by_cases h40 : nV τ = 40
        · have e : nI (nV τ) = 40 := by rw [h40]; rfl
          rw [if_pos e, if_pos e]; exact ⟨_, _, _, rfl, rfl, h⟩
        · have e : ¬ nI (nV τ) = 40 := fun y => h40 ((nI_eq (a := nV τ) (b := 40) (by omega) (by decide)).mp y)
          have hi : inb (nI (nV τ)) 40 = true := inb_nI (by omega) (by decide)
          have hcl : (nI (nV τ)).toNatClampNeg = nV τ := nI_clamp (by omega)
          have m1 : (sX τ 34 0 (nV τ) (nI kd)).1 0 0 33 = nI (nV τ) := by rw [sX_o (by omega)]; exact e1
          have m2 : (sX (sX τ 34 0 (nV τ) (nI kd)) 35 0 (nV τ) (nI s)).1 0 0 33 = nI (nV τ) := by rw [sX_o (by omega)]; exact m1
          have m3 : ∀ z, (sX (sX (sX τ 34 0 (nV τ) (nI kd)) 35 0 (nV τ) (nI s)) 36 0 (nV τ) z).1 0 0 33 = nI (nV τ) := fun z => by rw [sX_o (by omega)]; exact m2
          have q : Pg_addMove (nI s) (nI kd) a3 σ = some (nI (nV τ), sX (sX (sX (sX σ 28 (nV τ) 0 (nI kd)) 28 (nV τ) 1 (nI s)) 28 (nV τ) 2 (nI v)) 4 0 1 (nI (nV τ + 1))) := by
            unfold Pg_addMove
            have n1 : ∀ z, (sX (sX (sX σ 28 (nV τ) 0 (nI kd)) 28 (nV τ) 1 (nI s)) 28 (nV τ) 2 z).1 4 0 1 = nI (nV τ) := fun z => by rw [sX_o (by omega), sX_o (by omega), sX_o (by omega)]; exact e2
            rw [e2, if_pos hi, hcl, g3, n1, nI_1, sX_s, nI_pred]
          rw [if_neg e, if_neg e, q, Option.bind_some, if_pos hi, hcl, m1, if_pos hi, hcl, m2, if_pos hi, hcl, g3, m3, nI_1, sX_s, nI_pred]
          refine ⟨_, _, _, rfl, rfl, ?_⟩
          have ee : Fr pcmov σ (sX (sX (sX (sX σ 28 (nV τ) 0 (nI kd)) 28 (nV τ) 1 (nI s)) 28 (nV τ) 2 (nI v)) 4 0 1 (nI (nV τ + 1))) := ((((Fr.rf _ _).st _ _ _ _ rfl).st _ _ _ _ rfl).st _ _ _ _ rfl).st _ _ _ _ rfl
          have ef : Fr pmmov τ (sX (sX (sX (sX τ 34 0 (nV τ) (nI kd)) 35 0 (nV τ) (nI s)) 36 0 (nV τ) (nI v)) 0 0 33 (nI (nV τ + 1))) := ((((Fr.rf _ _).st _ _ _ _ rfl).st _ _ _ _ rfl).st _ _ _ _ rfl).st _ _ _ _ rfl
          have s4 : (sX (sX (sX (sX σ 28 (nV τ) 0 (nI kd)) 28 (nV τ) 1 (nI s)) 28 (nV τ) 2 (nI v)) 4 0 1 (nI (nV τ + 1))).1 4 0 1 = nI (nV τ + 1) := sX_s
          have t33 : (sX (sX (sX (sX τ 34 0 (nV τ) (nI kd)) 35 0 (nV τ) (nI s)) 36 0 (nV τ) (nI v)) 0 0 33 (nI (nV τ + 1))).1 0 0 33 = nI (nV τ + 1) := sX_s
          have t34 : ∀ k, (sX (sX (sX (sX τ 34 0 (nV τ) (nI kd)) 35 0 (nV τ) (nI s)) 36 0 (nV τ) (nI v)) 0 0 33 (nI (nV τ + 1))).1 34 0 k = if k = nV τ then nI kd else τ.1 34 0 k := by
            intro k
            rw [sX_o (by omega), sX_o (by omega), sX_o (by omega), sX_at]
            by_cases c : k = nV τ <;> simp [c]
          have t35 : ∀ k, (sX (sX (sX (sX τ 34 0 (nV τ) (nI kd)) 35 0 (nV τ) (nI s)) 36 0 (nV τ) (nI v)) 0 0 33 (nI (nV τ + 1))).1 35 0 k = if k = nV τ then nI s else τ.1 35 0 k := by
            intro k
            rw [sX_o (by omega), sX_o (by omega), sX_at, sX_o (by omega)]
            by_cases c : k = nV τ <;> simp [c]
          have t36 : ∀ k, (sX (sX (sX (sX τ 34 0 (nV τ) (nI kd)) 35 0 (nV τ) (nI s)) 36 0 (nV τ) (nI v)) 0 0 33 (nI (nV τ + 1))).1 36 0 k = if k = nV τ then nI v else τ.1 36 0 k := by
            intro k
            rw [sX_o (by omega), sX_at, sX_o (by omega), sX_o (by omega)]
            by_cases c : k = nV τ <;> simp [c]
          have s28 : ∀ k, k < nV τ → ∀ j, (sX (sX (sX (sX σ 28 (nV τ) 0 (nI kd)) 28 (nV τ) 1 (nI s)) 28 (nV τ) 2 (nI v)) 4 0 1 (nI (nV τ + 1))).1 28 k j = σ.1 28 k j := by
            intro k hk j
            rw [sX_o (by omega), sX_o (by omega), sX_o (by omega), sX_o (by omega)]
          have s280 : (sX (sX (sX (sX σ 28 (nV τ) 0 (nI kd)) 28 (nV τ) 1 (nI s)) 28 (nV τ) 2 (nI v)) 4 0 1 (nI (nV τ + 1))).1 28 (nV τ) 0 = nI kd := by
            rw [sX_o (by omega), sX_o (by omega), sX_o (by omega), sX_s]
          have s281 : (sX (sX (sX (sX σ 28 (nV τ) 0 (nI kd)) 28 (nV τ) 1 (nI s)) 28 (nV τ) 2 (nI v)) 4 0 1 (nI (nV τ + 1))).1 28 (nV τ) 1 = nI s := by
            rw [sX_o (by omega), sX_o (by omega), sX_s]
          have s282 : (sX (sX (sX (sX σ 28 (nV τ) 0 (nI kd)) 28 (nV τ) 1 (nI s)) 28 (nV τ) 2 (nI v)) 4 0 1 (nI (nV τ + 1))).1 28 (nV τ) 2 = nI v := by
            rw [sX_o (by omega), sX_s]
          generalize sX (sX (sX (sX τ 34 0 (nV τ) (nI kd)) 35 0 (nV τ) (nI s)) 36 0 (nV τ) (nI v)) 0 0 33 (nI (nV τ + 1)) = τ' at *
          generalize sX (sX (sX (sX σ 28 (nV τ) 0 (nI kd)) 28 (nV τ) 1 (nI s)) 28 (nV τ) 2 (nI v)) 4 0 1 (nI (nV τ + 1)) = σ' at *
          have f10 : τ'.1 0 0 10 = τ.1 0 0 10 := ef.2 _ _ _ rfl
          have f12 : τ'.1 0 0 12 = τ.1 0 0 12 := ef.2 _ _ _ rfl
          have f16 : τ'.1 0 0 16 = τ.1 0 0 16 := ef.2 _ _ _ rfl
          have vV : nV τ' = nV τ + 1 := by
            have x : nV τ' = tn (nI (nV τ + 1)) := congrArg tn t33
            rw [x]; exact tn_nI (by omega)
          have vC : nC τ' = nC τ := by unfold nC; rw [f10]
          have vM : nM τ' = nM τ := by unfold nM; rw [f12]
          have vS : nS τ' = nS τ := by unfold nS; rw [f16]
          refine Inv_mov h ee ef ?_ ?_ ?_
          · refine ⟨⟨?_, ?_⟩, ⟨?_, ?_⟩, ⟨?_, ?_⟩, ?_, by omega⟩
            · rw [f10, vC]; exact h.w.1.1.1
            · rw [vC]; exact h.w.1.1.2
            · rw [f12, vM]; exact h.w.1.2.1.1
            · rw [vM]; exact h.w.1.2.1.2
            · rw [f16, vS]; exact h.w.1.2.2.1.1
            · rw [vS]; exact h.w.1.2.2.1.2
            · rw [t33, vV]
          · intro k hk'
            unfold okMv
            rw [t34, t35, t36, vS, vM]
            by_cases c : k = nV τ
            · rw [if_pos c, if_pos c, if_pos c]
              exact ⟨kd, s, v, by omega, hs, rfl, rfl, rfl, g4⟩
            · rw [if_neg c, if_neg c, if_neg c]
              exact h.w.2.2.2.2.2.2.2.2.2 k (by omega)
          · refine ⟨s4.trans t33.symm, ?_⟩
            intro k hk'
            rw [t34, t35, t36]
            by_cases c : k = nV τ
            · subst c
              rw [if_pos rfl, if_pos rfl, if_pos rfl]
              exact ⟨s280, s281, s282⟩
            · rw [if_neg c, if_neg c, if_neg c, s28 k (by omega), s28 k (by omega), s28 k (by omega)]
              exact h.c.movr.2 k (by omega)
    · rw [if_pos (wo7 hy)]
      have q : M_isMove (nI s) a2 a3 τ = 0 := by
        unfold M_isMove
        rw [if_neg (show ¬ a2 = 0 from fun e => hy ⟨0, by decide, e⟩), if_neg (show ¬ a2 = 1 from fun e => hy ⟨1, by decide, e⟩), if_neg (show ¬ a2 = 2 from fun e => hy ⟨2, by decide, e⟩), if_neg (show ¬ a2 = 3 from fun e => hy ⟨3, by decide, e⟩), if_neg (show ¬ a2 = 4 from fun e => hy ⟨4, by decide, e⟩), if_neg (show ¬ a2 = 5 from fun e => hy ⟨5, by decide, e⟩), if_neg (show ¬ a2 = 6 from fun e => hy ⟨6, by decide, e⟩)]
      rw [if_pos q]
      exact ⟨_, _, _, rfl, rfl, h⟩
  · rw [if_pos (hasS_out h hx).1, if_pos (hasS_out h hx).2]
    exact ⟨_, _, _, rfl, rfl, h⟩
theorem imax_nI {a b : Nat} (ha : a < 2 ^ 31) (hb : b < 2 ^ 31) : imax (nI a) (nI b) = nI (if a < b then b else a) := by
  unfold imax
  have := nI_ltI ha hb
  by_cases c : a < b
  · rw [if_pos c, if_pos (this.mpr c)]
  · rw [if_neg c, if_neg (fun x => c (this.mp x))]
theorem imin_nI {a b : Nat} (ha : a < 2 ^ 31) (hb : b < 2 ^ 31) : imin (nI a) (nI b) = nI (if b < a then b else a) := by
  unfold imin
  have := nI_ltI hb ha
  by_cases c : b < a
  · rw [if_pos c, if_pos (this.mpr c)]
  · rw [if_neg c, if_neg (fun x => c (this.mp x))]
theorem met_fin {B D : Nat} (hB : B < 3000) (hD : D < 3000) : imax 0 ((nI D - (nI B + 15)) + 1) = if nI B + 15 ≤ nI D then (nI D - (nI B + 15)) + 1 else 0 := by
  have e : nI B + 15 = nI (B + 15) := nI_add B 15
  rw [e]
  have hle := nI_leI (a := B + 15) (b := D) (by omega) (by omega)
  unfold imax
  by_cases c : B + 15 ≤ D
  · rw [if_pos (hle.mpr c), pk_sub c, nI_1, if_pos (show (0 : Int32) < nI (D - (B + 15) + 1) from nI_lt (a := 0) (by omega) (by omega))]
  · rw [if_neg (fun x => c (hle.mp x)), if_neg]
    have e2 : nI D - nI (B + 15) + 1 = nI (D + 1) - nI (B + 15) := by
      rw [← nI_1 D, Int32.sub_eq_add_neg, Int32.sub_eq_add_neg, Int32.add_assoc, Int32.add_comm (-(nI (B + 15))) 1, ← Int32.add_assoc]
    rw [e2, Int32.lt_iff_toInt_lt, pk_sub_toInt (by omega) (by omega), show (0 : Int32).toInt = 0 from by decide]
    omega
theorem life_at {σ τ : St} (h : Inv σ τ) {m : Nat} (hm : m < nM τ) : ∃ a b, a ≤ b ∧ b < 1000 ∧ τ.1 13 0 m = nI a ∧ τ.1 14 0 m = nI b ∧ σ.1 22 m 0 = nI a ∧ σ.1 22 m 1 = nI b := by
  obtain ⟨⟨a, b, h1, h2, h3, h4⟩, -⟩ := h.w.2.2.2.2.1 m hm
  obtain ⟨e1, e2, -⟩ := h.c.mas.2.1 m hm
  exact ⟨a, b, h1, h2, h3, h4, e1.trans h3, e2.trans h4⟩
theorem step_30 : Stp_30 Inv := by
  intro a1 a2 σ τ h
  unfold Q_met M_met
  have hM := h.w.nM8
  by_cases hx : ∃ j, j < nM τ ∧ a1 = nI j
  · obtain ⟨m, hm, rfl⟩ := hx
    rw [if_neg (hasM_in h hm).1, if_neg (hasM_in h hm).2]
    by_cases hy : ∃ j, j < nM τ ∧ a2 = nI j
    · obtain ⟨q, hq, rfl⟩ := hy
      have hi : inb (nI m) 8 = true := inb_nI (by omega) (by decide)
      have hj : inb (nI q) 8 = true := inb_nI (by omega) (by decide)
      obtain ⟨b1, d1, x1, x2, x3, x4, x5, x6⟩ := life_at h hm
      obtain ⟨b2, d2, y1, y2, y3, y4, y5, y6⟩ := life_at h hq
      rw [if_neg (hasM_in h hq).1, if_neg (hasM_in h hq).2, if_pos hi, if_pos hj, if_pos hi, if_pos hj, if_pos hj, if_pos hi]
      unfold M_met_J48 M_met_J82
      rw [if_pos hi, if_pos hi, if_pos hj, if_pos hj, if_pos hj, if_pos hj, if_pos hi, if_pos hi, nI_clamp (n := m) (by omega), nI_clamp (n := q) (by omega), x3, x4, x5, x6, y3, y4, y5, y6, imax_nI (by omega) (by omega), imin_nI (by omega) (by omega)]
      refine ⟨_, _, _, ⟨rfl, rfl⟩, ⟨?_, rfl⟩, h⟩
      rw [met_fin (by split <;> omega) (by split <;> omega)]
      have l1 := nI_leI (a := b1) (b := b2) (by omega) (by omega)
      have l2 := nI_leI (a := d2) (b := d1) (by omega) (by omega)
      by_cases c1 : b1 ≤ b2
      · rw [if_pos (l1.mpr c1)]
        have eB : (if b1 < b2 then b2 else b1) = b2 := by split <;> omega
        rw [eB]
        by_cases c2 : d2 ≤ d1
        · rw [if_pos (l2.mpr c2)]
          have eD : (if d2 < d1 then d2 else d1) = d2 := by split <;> omega
          rw [eD]
        · rw [if_neg (fun x => c2 (l2.mp x))]
          have eD : (if d2 < d1 then d2 else d1) = d1 := by split <;> omega
          rw [eD]
      · rw [if_neg (fun x => c1 (l1.mp x))]
        have eB : (if b1 < b2 then b2 else b1) = b1 := by split <;> omega
        rw [eB]
        by_cases c2 : d2 ≤ d1
        · rw [if_pos (l2.mpr c2)]
          have eD : (if d2 < d1 then d2 else d1) = d2 := by split <;> omega
          rw [eD]
        · rw [if_neg (fun x => c2 (l2.mp x))]
          have eD : (if d2 < d1 then d2 else d1) = d1 := by split <;> omega
          rw [eD]
    · rw [if_pos (hasM_out h hy).1, if_pos (hasM_out h hy).2]
      exact ⟨_, _, _, ⟨rfl, rfl⟩, ⟨rfl, rfl⟩, h⟩
  · rw [if_pos (hasM_out h hx).1, if_pos (hasM_out h hx).2]
    exact ⟨_, _, _, ⟨rfl, rfl⟩, ⟨rfl, rfl⟩, h⟩
/-! ===== life ===== -/
theorem sayingsOf_eq {τ : St} (w : WF τ) {m : Nat} (hm : m < 1000) : M_sayingsOf (nI m) τ = some (nI (kO τ m)) := by
  have hS := w.nS24
  have e16 : τ.1 0 0 16 = nI (nS τ) := w.1.2.2.1.1
  refine lpF (fun n s v => M_sayingsOf_L4 (nI m) τ n v (nI s)) (fun i => nI (nO τ m i)) _ (nS τ) ?_ ?_ (n := 1100) (by omega)
  · intro n
    show M_sayingsOf_L4 (nI m) τ (n + 1) _ (nI (nS τ)) = _
    rw [M_sayingsOf_L4, e16, if_pos (nI_le (Nat.le_refl _) (by omega))]
    rfl
  · intro s n hs
    show M_sayingsOf_L4 (nI m) τ (n + 1) (nI (nO τ m s)) (nI s) = M_sayingsOf_L4 (nI m) τ n (nI (nO τ m (s + 1))) (nI (s + 1))
    have h17 := (w.say s hs).1.1
    have hsm : sm τ s < 8 := Nat.lt_of_lt_of_le (w.say s hs).1.2 w.nM8
    rw [M_sayingsOf_L4, e16, if_neg (nI_ge hs (by omega)), if_pos (inb_nI (by omega) (by decide)), nI_clamp (n := s) (by omega), h17, nI_1, nO_s]
    have heq := nI_eq (a := sm τ s) (b := m) (by omega) (by omega)
    by_cases c : sm τ s = m
    · rw [if_pos (heq.mpr c), if_pos c, nI_1]
    · rw [if_neg (fun x => c (heq.mp x)), if_neg c, Int32.add_zero]; rfl
/-- how many he leads -/
def nP (τ : St) (m : Nat) : Nat := cnt (fun p => leads τ 9 (τ.1 15 0 p) m) (nM τ)
theorem bI_or (b c : Bool) : (if bI b = 0 then (if c = true then 1 else 0) else 1 : Int32) = bI (b || c) := by
  cases b <;> cases c <;> rfl
theorem chain_eq {τ : St} (w : WF τ) (K : Int32 → Option Int32) {m : Nat} (hm : m < 1000) (v2 v3 : Int32) : ∀ p, p < nM τ → ∀ n b, p < n → M_pupils_L23 K (nI m) v2 v3 τ n (bI b) (τ.1 15 0 p) = K (bI (b || leads τ 9 (τ.1 15 0 p) m)) := by
  intro p
  induction p using Nat.strongRecOn with
  | _ p ih =>
    intro hp n b hn
    obtain ⟨n, rfl⟩ : ∃ k, n = k + 1 := ⟨n - 1, by omega⟩
    have hM := w.nM8
    rcases (w.2.2.2.2.1 p hp).2 with e | ⟨t, ht, e⟩
    · rw [e, M_pupils_L23, if_pos rfl]
      rw [show leads τ 9 (-9) m = false from rfl, Bool.or_false]
    · rw [leads_step w hm hp ht e, e, M_pupils_L23, if_neg (neg9 (by omega)), if_pos (inb_nI (by omega) (by decide)), nI_clamp (n := t) (by omega)]
      have heq := nI_eq (a := t) (b := m) (by omega) (by omega)
      have hv : (if bI b = 0 then (if nI t = nI m then 1 else 0) else 1 : Int32) = bI (b || decide (t = m)) := by
        rw [← bI_or]
        simp only [heq, decide_eq_true_eq]
      rw [hv, ih t ht (by omega) n _ (by omega), Bool.or_assoc]
theorem M_pupils_eq {τ : St} (w : WF τ) {m : Nat} (hm : m < 1000) : M_pupils (nI m) τ = some (nI (nP τ m)) := by
  have hM := w.nM8
  have e12 : τ.1 0 0 12 = nI (nM τ) := w.1.2.1.1
  refine lpF (fun n p v => M_pupils_L4 (nI m) τ n v (nI p)) (fun i => nI (cnt (fun p => leads τ 9 (τ.1 15 0 p) m) i)) _ (nM τ) ?_ ?_ (n := 1100) (by omega)
  · intro n
    show M_pupils_L4 (nI m) τ (n + 1) _ (nI (nM τ)) = _
    rw [M_pupils_L4, e12, if_pos (nI_le (Nat.le_refl _) (by omega))]
    rfl
  · intro p n hp
    show M_pupils_L4 (nI m) τ (n + 1) _ (nI p) = M_pupils_L4 (nI m) τ n (nI (cnt (fun p => leads τ 9 (τ.1 15 0 p) m) (p + 1))) (nI (p + 1))
    rw [M_pupils_L4, e12, if_neg (nI_ge hp (by omega)), if_pos (inb_nI (by omega) (by decide)), nI_clamp (n := p) (by omega)]
    have hc := chain_eq w (fun (v4_17 : Int32) => (M_pupils_L4 (nI m) τ n) (nI (cnt (fun p => leads τ 9 (τ.1 15 0 p) m) p) + (if v4_17 = 0 then 0 else 1 : Int32)) (nI p + 1)) hm (nI (cnt (fun p => leads τ 9 (τ.1 15 0 p) m) p)) (nI p) p hp 1100 false (by omega)
    refine (show _ = _ from hc).trans ?_
    rw [Bool.false_or, nI_1]
    congr 1
    show _ = nI (cnt (fun p => leads τ 9 (τ.1 15 0 p) m) p + if leads τ 9 (τ.1 15 0 p) m = true then 1 else 0)
    cases leads τ 9 (τ.1 15 0 p) m
    · rw [if_pos (show bI false = 0 from rfl), if_neg (by decide)]; exact Int32.add_zero _
    · rw [if_neg (show ¬ bI true = 0 from by decide), if_pos rfl]; exact nI_1 _
theorem tb_nI {f k : Nat} (hf : f < 2 ^ 32) : tb (nI f) k = f.testBit k := by
  unfold tb
  rw [pk_tn hf]
theorem Bk_pupils_eq {σ τ : St} (h : Inv σ τ) {m : Nat} (hm : m < 8) : Bk_pupils (nI m) σ = some (nI (nP τ m)) := by
  have hM := h.w.nM8
  have e12 : τ.1 0 0 12 = nI (nM τ) := h.w.1.2.1.1
  have e5 : σ.1 3 0 5 = nI (nM τ) := h.c.mas.1.trans e12
  refine lpF (fun n p v => Bk_pupils_L4 (nI m) σ n v (nI p)) (fun i => nI (cnt (fun p => leads τ 9 (τ.1 15 0 p) m) i)) _ (nM τ) ?_ ?_ (n := 1100) (by omega)
  · intro n
    show Bk_pupils_L4 (nI m) σ (n + 1) _ (nI (nM τ)) = _
    rw [Bk_pupils_L4, e5, if_pos (nI_le (Nat.le_refl _) (by omega))]
    rfl
  · intro p n hp
    show Bk_pupils_L4 (nI m) σ (n + 1) _ (nI p) = Bk_pupils_L4 (nI m) σ n (nI (cnt (fun p => leads τ 9 (τ.1 15 0 p) m) p + if leads τ 9 (τ.1 15 0 p) m = true then 1 else 0)) (nI (p + 1))
    obtain ⟨f, f1, f2, f3⟩ := h.c.mas.2.2 p hp
    rw [Bk_pupils_L4, e5, if_neg (nI_ge hp (by omega)), if_pos (inb_nI (by omega) (by decide)), nI_clamp (n := p) (by omega), f2, ush_tb (by omega), tb_nI (by omega), f3 m hm]
    unfold Bk_pupils_J32
    cases leads τ 9 (τ.1 15 0 p) m
    · rw [if_neg (by decide), if_neg (by decide), Nat.add_zero, nI_1]
    · rw [if_pos (by decide), if_pos rfl, nI_1, nI_1]
theorem lf_eq {σ τ : St} (h : Inv σ τ) {m j : Nat} (hm : m < nM τ) (hj : j < 5) : ∃ v, Bk_lifeFigure (nI m) (nI j) σ = some v ∧ M_lifeTells (nI m) (nI j) τ = some v := by
  have hM := h.w.nM8
  have hi : inb (nI m) 8 = true := inb_nI (by omega) (by decide)
  have hc : (nI m).toNatClampNeg = m := nI_clamp (by omega)
  obtain ⟨e1, e2, e3⟩ := h.c.mas.2.1 m hm
  have e4 := h.c.many (m := m) (by omega)
  unfold Bk_lifeFigure M_lifeTells
  rw [sayingsOf_eq h.w (by omega), M_pupils_eq h.w (by omega), Bk_pupils_eq h (by omega), hc, e1, e2, e3, e4]
  simp only [hi, if_true, Option.bind_some]
  rcases lt5 hj with e | e | e | e | e <;> subst e
  · simp only [if_pos (show nI 0 = 0 from rfl), if_neg (show ¬ nI 0 = 1 from by decide), if_neg (show ¬ nI 0 = 2 from by decide), if_neg (show ¬ nI 0 = 3 from by decide)]
    exact ⟨_, rfl, rfl⟩
  · simp only [if_neg (show ¬ nI 1 = 0 from by decide), if_pos (show nI 1 = 1 from rfl), if_neg (show ¬ nI 1 = 2 from by decide), if_neg (show ¬ nI 1 = 3 from by decide)]
    exact ⟨_, rfl, rfl⟩
  · simp only [if_neg (show ¬ nI 2 = 0 from by decide), if_neg (show ¬ nI 2 = 1 from by decide), if_pos (show nI 2 = 2 from rfl), if_neg (show ¬ nI 2 = 3 from by decide)]
    exact ⟨_, rfl, rfl⟩
  · simp only [if_neg (show ¬ nI 3 = 0 from by decide), if_neg (show ¬ nI 3 = 1 from by decide), if_neg (show ¬ nI 3 = 2 from by decide), if_pos (show nI 3 = 3 from rfl)]
    exact ⟨_, rfl, rfl⟩
  · simp only [if_neg (show ¬ nI 4 = 0 from by decide), if_neg (show ¬ nI 4 = 1 from by decide), if_neg (show ¬ nI 4 = 2 from by decide), if_neg (show ¬ nI 4 = 3 from by decide)]
    exact ⟨_, rfl, rfl⟩
theorem step_13 : Stp_13 Inv := by
  intro a1 a2 σ τ h
  unfold Q_life M_life
  by_cases hx : ∃ j, j < nM τ ∧ a1 = nI j
  · obtain ⟨m, hm, rfl⟩ := hx
    rw [if_neg (hasM_in h hm).1, if_neg (hasM_in h hm).2]
    by_cases hy : ∃ j, j < 5 ∧ a2 = nI j
    · obtain ⟨j, hj, rfl⟩ := hy
      obtain ⟨v, v1, v2⟩ := lf_eq h hm hj
      rw [if_neg (wi5 hj), if_neg (mi5 hj), v1, v2, Option.bind_some, Option.bind_some]
      exact ⟨_, _, _, rfl, rfl, Inv_tell h _⟩
    · rw [if_pos (wo5 hy), if_pos (mo5 hy)]
      exact ⟨_, _, _, rfl, rfl, h⟩
  · rw [if_pos (hasM_out h hx).1, if_pos (hasM_out h hx).2]
    exact ⟨_, _, _, rfl, rfl, h⟩
/-! ===== count ===== -/
theorem obj_eq {σ τ : St} (h : Inv σ τ) : Pg_objections σ = some (nI (cnt (fun k => decide (τ.1 34 0 k = 1)) (nV τ))) ∧ M_counts_L62 τ 1100 0 0 = some (nI (cnt (fun k => decide (τ.1 34 0 k = 1)) (nV τ))) := by
  have hV := h.w.nV40
  have e1 := (mvN h).1
  have e2 := (mvN h).2
  refine ⟨?_, ?_⟩
  · refine lpF (fun n p v => Pg_objections_L4 σ n v (nI p)) (fun i => nI (cnt (fun k => decide (τ.1 34 0 k = 1)) i)) _ (nV τ) ?_ ?_ (n := 1100) (by omega)
    · intro n
      show Pg_objections_L4 σ (n + 1) _ (nI (nV τ)) = _
      rw [Pg_objections_L4, e2, if_pos (nI_le (Nat.le_refl _) (by omega))]
    · intro k n hk
      show Pg_objections_L4 σ (n + 1) _ (nI k) = Pg_objections_L4 σ n (nI (cnt (fun k => decide (τ.1 34 0 k = 1)) k + if decide (τ.1 34 0 k = 1) = true then 1 else 0)) (nI (k + 1))
      rw [Pg_objections_L4, e2, if_neg (nI_ge hk (by omega)), if_pos (inb_nI (by omega) (by decide)), nI_clamp (n := k) (by omega), (h.c.movr.2 k hk).1]
      unfold Pg_objections_J28
      by_cases c : τ.1 34 0 k = 1
      · rw [if_pos c, if_pos (decide_eq_true c), nI_1, nI_1]
      · rw [if_neg c, if_neg (fun x => c (of_decide_eq_true x)), Nat.add_zero, nI_1]
  · refine lpF (fun n p v => M_counts_L62 τ n v (nI p)) (fun i => nI (cnt (fun k => decide (τ.1 34 0 k = 1)) i)) _ (nV τ) ?_ ?_ (n := 1100) (by omega)
    · intro n
      show M_counts_L62 τ (n + 1) _ (nI (nV τ)) = _
      rw [M_counts_L62, e1, if_pos (nI_le (Nat.le_refl _) (by omega))]
    · intro k n hk
      show M_counts_L62 τ (n + 1) _ (nI k) = M_counts_L62 τ n (nI (cnt (fun k => decide (τ.1 34 0 k = 1)) k + if decide (τ.1 34 0 k = 1) = true then 1 else 0)) (nI (k + 1))
      rw [M_counts_L62, e1, if_neg (nI_ge hk (by omega)), if_pos (inb_nI (by omega) (by decide)), nI_clamp (n := k) (by omega), nI_1]
      by_cases c : τ.1 34 0 k = 1
      · rw [if_pos c, if_pos (decide_eq_true c), nI_1]
      · rw [if_neg c, if_neg (fun x => c (of_decide_eq_true x)), Int32.add_zero]; rfl
theorem rowsN_eq {σ τ : St} (h : Inv σ τ) : Q_rowsThere σ = some (nI (cnt (fun k => decide (¬ τ.1 5 0 k < 0)) 6)) ∧ M_counts_L98 τ 1100 0 0 = some (nI (cnt (fun k => decide (¬ τ.1 5 0 k < 0)) 6)) := by
  refine ⟨?_, ?_⟩
  · refine lpF (fun n p v => Q_rowsThere_L4 σ n v (nI p)) (fun i => nI (cnt (fun k => decide (¬ τ.1 5 0 k < 0)) i)) _ 6 ?_ ?_ (n := 1100) (by omega)
    · intro n
      show Q_rowsThere_L4 σ (n + 1) _ (nI 6) = _
      rw [Q_rowsThere_L4, if_pos (by decide)]
    · intro k n hk
      show Q_rowsThere_L4 σ (n + 1) _ (nI k) = Q_rowsThere_L4 σ n (nI (cnt (fun k => decide (¬ τ.1 5 0 k < 0)) k + if decide (¬ τ.1 5 0 k < 0) = true then 1 else 0)) (nI (k + 1))
      rw [Q_rowsThere_L4, if_neg (show ¬ (6 : Int32) ≤ nI k from nI_ge (b := 6) hk (by decide)), if_pos (inb_nI (by omega) (by decide)), nI_clamp (n := k) (by omega)]
      unfold Q_rowsThere_J26
      rcases row_sz h hk with ⟨x1, x2⟩ | ⟨m, hm, x1, x2⟩
      · rw [x1, x2, if_pos rfl, if_neg (by decide), Nat.add_zero, nI_1]
      · rw [x1, x2, if_neg (nIm1 hm), if_pos (decide_eq_true (nI_pos (by omega))), nI_1, nI_1]
  · refine lpF (fun n p v => M_counts_L98 τ n v (nI p)) (fun i => nI (cnt (fun k => decide (¬ τ.1 5 0 k < 0)) i)) _ 6 ?_ ?_ (n := 1100) (by omega)
    · intro n
      show M_counts_L98 τ (n + 1) _ (nI 6) = _
      rw [M_counts_L98, if_pos (by decide)]
    · intro k n hk
      show M_counts_L98 τ (n + 1) _ (nI k) = M_counts_L98 τ n (nI (cnt (fun k => decide (¬ τ.1 5 0 k < 0)) k + if decide (¬ τ.1 5 0 k < 0) = true then 1 else 0)) (nI (k + 1))
      rw [M_counts_L98, if_neg (show ¬ (6 : Int32) ≤ nI k from nI_ge (b := 6) hk (by decide)), if_pos (inb_nI (by omega) (by decide)), nI_clamp (n := k) (by omega), nI_1]
      rcases row_sz h hk with ⟨x1, x2⟩ | ⟨m, hm, x1, x2⟩
      · rw [x1, if_pos (show (-9 : Int32) < 0 by decide), if_neg (by decide), Int32.add_zero]; rfl
      · rw [x1, if_neg (nI_pos (by omega)), if_pos (decide_eq_true (nI_pos (by omega))), nI_1]
theorem textsN_eq {σ τ : St} (h : Inv σ τ) : Q_textsThere σ = some (nI (cnt (fun k => decide (¬ τ.1 8 0 k < 0)) 4)) ∧ M_counts_L131 τ 1100 0 0 = some (nI (cnt (fun k => decide (¬ τ.1 8 0 k < 0)) 4)) := by
  refine ⟨?_, ?_⟩
  · refine lpF (fun n p v => Q_textsThere_L4 σ n v (nI p)) (fun i => nI (cnt (fun k => decide (¬ τ.1 8 0 k < 0)) i)) _ 4 ?_ ?_ (n := 1100) (by omega)
    · intro n
      show Q_textsThere_L4 σ (n + 1) _ (nI 4) = _
      rw [Q_textsThere_L4, if_pos (by decide)]
    · intro k n hk
      show Q_textsThere_L4 σ (n + 1) _ (nI k) = Q_textsThere_L4 σ n (nI (cnt (fun k => decide (¬ τ.1 8 0 k < 0)) k + if decide (¬ τ.1 8 0 k < 0) = true then 1 else 0)) (nI (k + 1))
      rw [Q_textsThere_L4, if_neg (show ¬ (4 : Int32) ≤ nI k from nI_ge (b := 4) hk (by decide)), if_pos (inb_nI (by omega) (by decide)), nI_clamp (n := k) (by omega)]
      unfold Q_textsThere_J25
      rcases text_sz h hk with ⟨x1, x2⟩ | ⟨m, hm, x1, x2⟩
      · rw [x1, x2, if_pos rfl, if_neg (by decide), Nat.add_zero, nI_1]
      · rw [x1, x2, if_neg (nIm1 hm), if_pos (decide_eq_true (nI_pos (by omega))), nI_1, nI_1]
  · refine lpF (fun n p v => M_counts_L131 τ n v (nI p)) (fun i => nI (cnt (fun k => decide (¬ τ.1 8 0 k < 0)) i)) _ 4 ?_ ?_ (n := 1100) (by omega)
    · intro n
      show M_counts_L131 τ (n + 1) _ (nI 4) = _
      rw [M_counts_L131, if_pos (by decide)]
    · intro k n hk
      show M_counts_L131 τ (n + 1) _ (nI k) = M_counts_L131 τ n (nI (cnt (fun k => decide (¬ τ.1 8 0 k < 0)) k + if decide (¬ τ.1 8 0 k < 0) = true then 1 else 0)) (nI (k + 1))
      rw [M_counts_L131, if_neg (show ¬ (4 : Int32) ≤ nI k from nI_ge (b := 4) hk (by decide)), if_pos (inb_nI (by omega) (by decide)), nI_clamp (n := k) (by omega), nI_1]
      rcases text_sz h hk with ⟨x1, x2⟩ | ⟨m, hm, x1, x2⟩
      · rw [x1, if_pos (show (-9 : Int32) < 0 by decide), if_neg (by decide), Int32.add_zero]; rfl
      · rw [x1, if_neg (nI_pos (by omega)), if_pos (decide_eq_true (nI_pos (by omega))), nI_1]
theorem amount_eq {σ τ : St} (h : Inv σ τ) {j : Nat} (hj : j < 7) : ∃ v, Q_amount (nI j) σ = some v ∧ M_counts (nI j) τ = some v := by
  have h7 : j = 0 ∨ j = 1 ∨ j = 2 ∨ j = 3 ∨ j = 4 ∨ j = 5 ∨ j = 6 := by omega
  unfold Q_amount M_counts
  rw [(obj_eq h).1, (obj_eq h).2, (rowsN_eq h).1, (rowsN_eq h).2, (textsN_eq h).1, (textsN_eq h).2, h.c.case.1, h.c.mas.1, h.c.say.1, h.c.movr.1]
  simp only [Option.bind_some]
  rcases h7 with e | e | e | e | e | e | e <;> subst e
  · simp only [if_pos (show nI 0 = 0 from rfl), if_neg (show ¬ nI 0 = 1 from by decide), if_neg (show ¬ nI 0 = 2 from by decide), if_neg (show ¬ nI 0 = 3 from by decide), if_neg (show ¬ nI 0 = 4 from by decide), if_neg (show ¬ nI 0 = 5 from by decide)]
    exact ⟨_, rfl, rfl⟩
  · simp only [if_neg (show ¬ nI 1 = 0 from by decide), if_pos (show nI 1 = 1 from rfl), if_neg (show ¬ nI 1 = 2 from by decide), if_neg (show ¬ nI 1 = 3 from by decide), if_neg (show ¬ nI 1 = 4 from by decide), if_neg (show ¬ nI 1 = 5 from by decide)]
    exact ⟨_, rfl, rfl⟩
  · simp only [if_neg (show ¬ nI 2 = 0 from by decide), if_neg (show ¬ nI 2 = 1 from by decide), if_pos (show nI 2 = 2 from rfl), if_neg (show ¬ nI 2 = 3 from by decide), if_neg (show ¬ nI 2 = 4 from by decide), if_neg (show ¬ nI 2 = 5 from by decide)]
    exact ⟨_, rfl, rfl⟩
  · simp only [if_neg (show ¬ nI 3 = 0 from by decide), if_neg (show ¬ nI 3 = 1 from by decide), if_neg (show ¬ nI 3 = 2 from by decide), if_pos (show nI 3 = 3 from rfl), if_neg (show ¬ nI 3 = 4 from by decide), if_neg (show ¬ nI 3 = 5 from by decide)]
    exact ⟨_, rfl, rfl⟩
  · simp only [if_neg (show ¬ nI 4 = 0 from by decide), if_neg (show ¬ nI 4 = 1 from by decide), if_neg (show ¬ nI 4 = 2 from by decide), if_neg (show ¬ nI 4 = 3 from by decide), if_pos (show nI 4 = 4 from rfl), if_neg (show ¬ nI 4 = 5 from by decide)]
    exact ⟨_, rfl, rfl⟩
  · simp only [if_neg (show ¬ nI 5 = 0 from by decide), if_neg (show ¬ nI 5 = 1 from by decide), if_neg (show ¬ nI 5 = 2 from by decide), if_neg (show ¬ nI 5 = 3 from by decide), if_neg (show ¬ nI 5 = 4 from by decide), if_pos (show nI 5 = 5 from rfl)]
    exact ⟨_, rfl, rfl⟩
  · simp only [if_neg (show ¬ nI 6 = 0 from by decide), if_neg (show ¬ nI 6 = 1 from by decide), if_neg (show ¬ nI 6 = 2 from by decide), if_neg (show ¬ nI 6 = 3 from by decide), if_neg (show ¬ nI 6 = 4 from by decide), if_neg (show ¬ nI 6 = 5 from by decide)]
    exact ⟨_, rfl, rfl⟩
theorem step_47 : Stp_47 Inv := by
  intro a1 σ τ h
  unfold Q_count M_count
  by_cases hx : ∃ j, j < 7 ∧ a1 = nI j
  · obtain ⟨j, hj, rfl⟩ := hx
    obtain ⟨v, v1, v2⟩ := amount_eq h hj
    rw [if_neg (wi7 hj), if_neg (mi7 hj), v1, v2]
    exact ⟨_, _, _, ⟨rfl, rfl⟩, ⟨rfl, rfl⟩, h⟩
  · rw [if_pos (wo7 hx), if_pos (mo7 hx)]
    exact ⟨_, _, _, ⟨rfl, rfl⟩, ⟨rfl, rfl⟩, h⟩
