/-! ===== the steps: rows ===== -/
theorem wi2 {j : Nat} (h : j < 2) : ¬ Q_within (nI j) 2 = 0 := by
  have e : Q_within (nI j) 2 = 1 := w_in (n := 2) h (by decide)
  rw [e]; decide
theorem wo2 {v : Int32} (h : ¬ ∃ j, j < 2 ∧ v = nI j) : Q_within v 2 = 0 := w_out (n := 2) (by decide) h
theorem mi2 {j : Nat} (h : j < 2) : ¬ M_in (nI j) 0 1 = 0 := by
  have e : M_in (nI j) 0 1 = 1 := m_in (n := 2) h (by decide)
  rw [e]; decide
theorem mo2 {v : Int32} (h : ¬ ∃ j, j < 2 ∧ v = nI j) : M_in v 0 1 = 0 := m_out (n := 2) (by decide) h
theorem wi3 {j : Nat} (h : j < 3) : ¬ Q_within (nI j) 3 = 0 := by
  have e : Q_within (nI j) 3 = 1 := w_in (n := 3) h (by decide)
  rw [e]; decide
theorem wo3 {v : Int32} (h : ¬ ∃ j, j < 3 ∧ v = nI j) : Q_within v 3 = 0 := w_out (n := 3) (by decide) h
theorem mi3 {j : Nat} (h : j < 3) : ¬ M_in (nI j) 0 2 = 0 := by
  have e : M_in (nI j) 0 2 = 1 := m_in (n := 3) h (by decide)
  rw [e]; decide
theorem mo3 {v : Int32} (h : ¬ ∃ j, j < 3 ∧ v = nI j) : M_in v 0 2 = 0 := m_out (n := 3) (by decide) h
theorem wi4 {j : Nat} (h : j < 4) : ¬ Q_within (nI j) 4 = 0 := by
  have e : Q_within (nI j) 4 = 1 := w_in (n := 4) h (by decide)
  rw [e]; decide
theorem wo4 {v : Int32} (h : ¬ ∃ j, j < 4 ∧ v = nI j) : Q_within v 4 = 0 := w_out (n := 4) (by decide) h
theorem mi4 {j : Nat} (h : j < 4) : ¬ M_in (nI j) 0 3 = 0 := by
  have e : M_in (nI j) 0 3 = 1 := m_in (n := 4) h (by decide)
  rw [e]; decide
theorem mo4 {v : Int32} (h : ¬ ∃ j, j < 4 ∧ v = nI j) : M_in v 0 3 = 0 := m_out (n := 4) (by decide) h
theorem wi5 {j : Nat} (h : j < 5) : ¬ Q_within (nI j) 5 = 0 := by
  have e : Q_within (nI j) 5 = 1 := w_in (n := 5) h (by decide)
  rw [e]; decide
theorem wo5 {v : Int32} (h : ¬ ∃ j, j < 5 ∧ v = nI j) : Q_within v 5 = 0 := w_out (n := 5) (by decide) h
theorem mi5 {j : Nat} (h : j < 5) : ¬ M_in (nI j) 0 4 = 0 := by
  have e : M_in (nI j) 0 4 = 1 := m_in (n := 5) h (by decide)
  rw [e]; decide
theorem mo5 {v : Int32} (h : ¬ ∃ j, j < 5 ∧ v = nI j) : M_in v 0 4 = 0 := m_out (n := 5) (by decide) h
theorem wi6 {j : Nat} (h : j < 6) : ¬ Q_within (nI j) 6 = 0 := by
  have e : Q_within (nI j) 6 = 1 := w_in (n := 6) h (by decide)
  rw [e]; decide
theorem wo6 {v : Int32} (h : ¬ ∃ j, j < 6 ∧ v = nI j) : Q_within v 6 = 0 := w_out (n := 6) (by decide) h
theorem mi6 {j : Nat} (h : j < 6) : ¬ M_in (nI j) 0 5 = 0 := by
  have e : M_in (nI j) 0 5 = 1 := m_in (n := 6) h (by decide)
  rw [e]; decide
theorem mo6 {v : Int32} (h : ¬ ∃ j, j < 6 ∧ v = nI j) : M_in v 0 5 = 0 := m_out (n := 6) (by decide) h
theorem wi7 {j : Nat} (h : j < 7) : ¬ Q_within (nI j) 7 = 0 := by
  have e : Q_within (nI j) 7 = 1 := w_in (n := 7) h (by decide)
  rw [e]; decide
theorem wo7 {v : Int32} (h : ¬ ∃ j, j < 7 ∧ v = nI j) : Q_within v 7 = 0 := w_out (n := 7) (by decide) h
theorem mi7 {j : Nat} (h : j < 7) : ¬ M_in (nI j) 0 6 = 0 := by
  have e : M_in (nI j) 0 6 = 1 := m_in (n := 7) h (by decide)
  rw [e]; decide
theorem mo7 {v : Int32} (h : ¬ ∃ j, j < 7 ∧ v = nI j) : M_in v 0 6 = 0 := m_out (n := 7) (by decide) h
theorem wi32 {j : Nat} (h : j < 32) : ¬ Q_within (nI j) 32 = 0 := by
  have e : Q_within (nI j) 32 = 1 := w_in (n := 32) h (by decide)
  rw [e]; decide
theorem wo32 {v : Int32} (h : ¬ ∃ j, j < 32 ∧ v = nI j) : Q_within v 32 = 0 := w_out (n := 32) (by decide) h
theorem mi32 {j : Nat} (h : j < 32) : ¬ M_in (nI j) 0 31 = 0 := by
  have e : M_in (nI j) 0 31 = 1 := m_in (n := 32) h (by decide)
  rw [e]; decide
theorem mo32 {v : Int32} (h : ¬ ∃ j, j < 32 ∧ v = nI j) : M_in v 0 31 = 0 := m_out (n := 32) (by decide) h
theorem wi100 {j : Nat} (h : j < 100) : ¬ Q_within (nI j) 100 = 0 := by
  have e : Q_within (nI j) 100 = 1 := w_in (n := 100) h (by decide)
  rw [e]; decide
theorem wo100 {v : Int32} (h : ¬ ∃ j, j < 100 ∧ v = nI j) : Q_within v 100 = 0 := w_out (n := 100) (by decide) h
theorem mi100 {j : Nat} (h : j < 100) : ¬ M_in (nI j) 0 99 = 0 := by
  have e : M_in (nI j) 0 99 = 1 := m_in (n := 100) h (by decide)
  rw [e]; decide
theorem mo100 {v : Int32} (h : ¬ ∃ j, j < 100 ∧ v = nI j) : M_in v 0 99 = 0 := m_out (n := 100) (by decide) h
theorem wi244 {j : Nat} (h : j < 244) : ¬ Q_within (nI j) 244 = 0 := by
  have e : Q_within (nI j) 244 = 1 := w_in (n := 244) h (by decide)
  rw [e]; decide
theorem wo244 {v : Int32} (h : ¬ ∃ j, j < 244 ∧ v = nI j) : Q_within v 244 = 0 := w_out (n := 244) (by decide) h
theorem mi244 {j : Nat} (h : j < 244) : ¬ M_in (nI j) 0 243 = 0 := by
  have e : M_in (nI j) 0 243 = 1 := m_in (n := 244) h (by decide)
  rw [e]; decide
theorem mo244 {v : Int32} (h : ¬ ∃ j, j < 244 ∧ v = nI j) : M_in v 0 243 = 0 := m_out (n := 244) (by decide) h
theorem wi1000 {j : Nat} (h : j < 1000) : ¬ Q_within (nI j) 1000 = 0 := by
  have e : Q_within (nI j) 1000 = 1 := w_in (n := 1000) h (by decide)
  rw [e]; decide
theorem wo1000 {v : Int32} (h : ¬ ∃ j, j < 1000 ∧ v = nI j) : Q_within v 1000 = 0 := w_out (n := 1000) (by decide) h
theorem mi1000 {j : Nat} (h : j < 1000) : ¬ M_in (nI j) 0 999 = 0 := by
  have e : M_in (nI j) 0 999 = 1 := m_in (n := 1000) h (by decide)
  rw [e]; decide
theorem mo1000 {v : Int32} (h : ¬ ∃ j, j < 1000 ∧ v = nI j) : M_in v 0 999 = 0 := m_out (n := 1000) (by decide) h
theorem wiv {j n : Nat} (h : j < n) (hn : n < 1073741824) : ¬ Q_within (nI j) (nI n) = 0 := by
  rw [w_in h (by omega)]; decide
theorem wov {v : Int32} {n : Nat} (hn : n < 1073741824) (h : ¬ ∃ j, j < n ∧ v = nI j) : Q_within v (nI n) = 0 := w_out (by omega) h
theorem miv {j n : Nat} (h : j < n) (hn : n < 1073741824) : ¬ M_in (nI j) 0 (nI n - 1) = 0 := by
  rw [m_in h hn]; decide
theorem mov {v : Int32} {n : Nat} (hn : n < 1073741824) (h : ¬ ∃ j, j < n ∧ v = nI j) : M_in v 0 (nI n - 1) = 0 := m_out hn h
theorem ix40 {r k : Nat} : (40 : Int32) * nI r + nI k = nI (40 * r + k) := by
  rw [show (40 : Int32) = nI 40 from rfl, pk_mul, nI_add]
theorem ix5 {r k : Nat} : (5 : Int32) * nI r + nI k = nI (5 * r + k) := by
  rw [show (5 : Int32) = nI 5 from rfl, pk_mul, nI_add]
theorem g40 {i : Nat} (hi : i < 40) : ¬ (40 : Int32) ≤ nI i := nI_ge (b := 40) hi (by decide)
theorem fill_at (σ : St) (kd n N : Nat) (v : Int32) (a b c : Nat) : (fillR σ kd n N v).1 a b c = if a = kd ∧ b = n ∧ c < N then v else σ.1 a b c := by
  unfold fillR sR
  dsimp only
  by_cases h : a = kd ∧ b = n
  · obtain ⟨rfl, rfl⟩ := h
    by_cases hc : c < N <;> simp [hc]
  · rw [if_neg h, if_neg (fun x => h ⟨x.1, x.2.1⟩)]
theorem Inv_tell {σ τ : St} (h : Inv σ τ) (v : Int32) : Inv (sX σ 0 0 7 v) (sX τ 0 0 2 v) := by
  refine Inv_misc h ((Fr.rf _ _).st _ _ _ _ rfl) ((Fr.rf _ _).st _ _ _ _ rfl) ?_
  obtain ⟨a1, a2, a3, a4, a5⟩ := h.c.2.2.2.2.2.2.2.2.2
  refine ⟨?_, ?_, ?_, a4, a5⟩
  · rw [sX_o (by omega), sX_o (by omega)]; exact a1
  · intro f hf
    rw [sX_o (by omega), sX_o (by omega)]; exact a2 f hf
  · rw [sX_s, sX_s]
theorem refuse_eq {σ τ : St} (h : Inv σ τ) {f : Nat} (hf : f < 6) : ∃ σ' τ', Q_refuse (nI f) σ = some (-3, σ') ∧ M_meets (nI f) τ = some (-3, τ') ∧ Inv σ' τ' := by
  have hi : inb (nI f) 6 = true := inb_nI hf (by decide)
  obtain ⟨a1, a2, a3, a4, a5⟩ := h.c.2.2.2.2.2.2.2.2.2
  have hq : Q_refuse (nI f) σ = some (-3, sX (sX σ 0 0 6 (nI f)) 6 0 f (σ.1 6 0 f + 1)) := by
    unfold Q_refuse
    rw [if_pos hi, if_pos hi, nI_clamp (n := f) (by omega), sX_o (a := 6) (by omega)]
  have hm : M_meets (nI f) τ = some (-3, sX (sX τ 0 0 0 (nI f)) 1 0 f (τ.1 1 0 f + 1)) := by
    unfold M_meets
    rw [if_pos hi, if_pos hi, nI_clamp (n := f) (by omega), sX_o (a := 1) (by omega)]
  refine ⟨_, _, hq, hm, ?_⟩
  refine Inv_misc h (((Fr.rf _ _).st _ _ _ _ rfl).st _ _ _ _ rfl) (((Fr.rf _ _).st _ _ _ _ rfl).st _ _ _ _ rfl) ?_
  refine ⟨?_, ?_, ?_, a4, a5⟩
  · rw [sX_o (by omega), sX_s, sX_o (by omega), sX_s]
  · intro g hg
    by_cases e : g = f
    · subst e; rw [sX_s, sX_s, a2 g hg]
    · rw [sX_o (by omega), sX_o (by omega), sX_o (by omega), sX_o (by omega)]; exact a2 g hg
  · rw [sX_o (by omega), sX_o (by omega), sX_o (by omega), sX_o (by omega)]; exact a3
theorem cSz_n {n : Nat} (h : n ≤ 40) : cSz (nI n) = nI n := by
  unfold cSz
  rw [if_neg (nI_pos (by omega))]
theorem row_sz {σ τ : St} (h : Inv σ τ) {r : Nat} (hr : r < 6) : (τ.1 5 0 r = -9 ∧ σ.1 18 r 1 = -1) ∨ ∃ n, n ≤ 40 ∧ τ.1 5 0 r = nI n ∧ σ.1 18 r 1 = nI n := by
  have h1 := h.w.2.1 r hr
  have h2 := h.c.1.1 r hr
  rcases h1 with e | ⟨n, hn, e⟩
  · left
    rw [e] at h2
    exact ⟨e, h2.trans (by decide)⟩
  · right
    rw [e, cSz_n hn] at h2
    exact ⟨n, hn, e, h2⟩
theorem text_sz {σ τ : St} (h : Inv σ τ) {r : Nat} (hr : r < 4) : (τ.1 8 0 r = -9 ∧ σ.1 20 r 1 = -1) ∨ ∃ n, n ≤ 40 ∧ τ.1 8 0 r = nI n ∧ σ.1 20 r 1 = nI n := by
  have h1 := h.w.2.2.1.1 r hr
  have h2 := h.c.2.1.1 r hr
  rcases h1 with e | ⟨n, hn, e⟩
  · left
    rw [e] at h2
    exact ⟨e, h2.trans (by decide)⟩
  · right
    rw [e, cSz_n hn] at h2
    exact ⟨n, hn, e, h2⟩
theorem row_lp {r : Nat} (hr : r < 6) (v : Int32) (t : St) : ∃ u, M_row_L34 (nI r) v 1100 0 t = some (v, u) ∧ u.2 = t.2 ∧ ∀ kd n j, u.1 kd n j = if kd = 6 ∧ n = 0 ∧ 40 * r ≤ j ∧ j < 40 * r + 40 then 0 else t.1 kd n j := by
  refine lpU (fun n k u => M_row_L34 (nI r) v n (nI k) u) (fun k u => u.2 = t.2 ∧ ∀ kd n j, u.1 kd n j = if kd = 6 ∧ n = 0 ∧ 40 * r ≤ j ∧ j < 40 * r + k then 0 else t.1 kd n j) (fun u => some (v, u)) 40 ?_ ?_ (n := 1100) (s := t) (by decide) ⟨rfl, fun kd n j => by rw [if_neg (by omega)]⟩
  · intro n u hp
    show M_row_L34 (nI r) v (n + 1) (nI 40) u = some (v, u)
    rw [M_row_L34, if_pos (by decide)]
  · intro k n u hk hp
    refine ⟨sX u 6 0 (40 * r + k) 0, ?_, hp.1, ?_⟩
    · show M_row_L34 (nI r) v (n + 1) (nI k) u = M_row_L34 (nI r) v n (nI (k + 1)) _
      rw [M_row_L34, if_neg (g40 hk), ix40, if_pos (inb_nI (by omega) (by decide)), nI_clamp (by omega), nI_1]
    · intro kd m j
      rw [sX_at, hp.2]
      by_cases c : kd = 6 ∧ m = 0 ∧ j = 40 * r + k
      · rw [if_pos c, if_pos (by omega)]
      · rw [if_neg c]
        by_cases d : kd = 6 ∧ m = 0 ∧ 40 * r ≤ j ∧ j < 40 * r + k
        · rw [if_pos d, if_pos (by omega)]
        · rw [if_neg d, if_neg (by omega)]
theorem step_0 : Stp_0 Inv := by
  intro a1 a2 σ τ h
  by_cases hx : ∃ j, j < 6 ∧ a1 = nI j
  · obtain ⟨r, hr, rfl⟩ := hx
    have hq : ¬ Q_within (nI r) 6 = 0 := wi6 hr
    have hm : ¬ M_isRow (nI r) = 0 := mi6 hr
    unfold Q_row M_row
    rw [if_neg hq, if_neg hm]
    by_cases h40 : a2 ≤ 40
    · rw [if_pos h40, if_pos h40]
      by_cases h0 : 0 ≤ a2
      · rw [if_pos h0, if_pos h0, if_pos (inb_nI hr (by decide)), if_pos (inb_nI hr (by decide)), nI_clamp (n := r) (by omega)]
        obtain ⟨n, hn, rfl⟩ := nI_of2 (M := 40) (n := 40) (by decide) (Int32.not_lt.mpr h0) h40
        obtain ⟨u, u1, u2, u3⟩ := row_lp hr (nI n) (sX τ 5 0 r (nI n))
        refine ⟨nI n, sX (fillR σ 19 r 40 0) 18 r 1 (nI n), u, rfl, u1, ?_⟩
        refine Inv_row h ⟨rfl, ?_⟩ ⟨u2, ?_⟩ ?_ ?_
        · intro kd m j hp
          unfold pcrow at hp
          simp only [Bool.or_eq_false_iff, beq_eq_false_iff_ne] at hp
          rw [sX_o (by omega), fill_at, if_neg (by omega)]
        · intro kd m j hp
          unfold pmrow at hp
          simp only [Bool.or_eq_false_iff, beq_eq_false_iff_ne] at hp
          rw [u3, if_neg (by omega), sX_o (by omega)]
        · intro r' hr'
          rw [u3, if_neg (by omega)]
          by_cases e : r' = r
          · subst e; rw [sX_s]; exact Or.inr ⟨n, hn, rfl⟩
          · rw [sX_o (by omega)]; exact h.w.2.1 r' hr'
        · refine ⟨?_, ?_⟩
          · intro r' hr'
            rw [u3, if_neg (by omega)]
            by_cases e : r' = r
            · subst e; rw [sX_s, sX_s, cSz_n hn]
            · rw [sX_o (by omega), sX_o (by omega), fill_at, if_neg (by omega)]; exact h.c.1.1 r' hr'
          · intro r' hr' i hi
            rw [sX_o (by omega), fill_at, u3]
            by_cases e : r' = r
            · subst e; rw [if_pos (by omega), if_pos (by omega)]
            · rw [if_neg (by omega), if_neg (by omega), sX_o (by omega)]; exact h.c.1.2 r' hr' i hi
      · rw [if_neg h0, if_neg h0]
        obtain ⟨σ', τ', (h1 : Q_refuse 5 σ = _), (h2 : M_meets 5 τ = _), h3⟩ := refuse_eq h (f := 5) (by decide)
        rw [h1, h2]
        exact ⟨_, _, _, rfl, rfl, h3⟩
    · rw [if_neg h40, if_neg h40]
      exact ⟨_, _, _, rfl, rfl, h⟩
  · unfold Q_row M_row M_isRow
    rw [if_pos (wo6 hx), if_pos (mo6 hx)]
    exact ⟨_, _, _, rfl, rfl, h⟩
theorem askedRow_out {a : Int32} (τ : St) (hx : ¬ ∃ j, j < 6 ∧ a = nI j) : M_askedRow a τ = some (-1, τ) := by
  unfold M_askedRow M_isRow
  rw [if_pos (mo6 hx)]
theorem askedRow_no {r : Nat} {τ : St} (hr : r < 6) (e : τ.1 5 0 r = -9) : M_askedRow (nI r) τ = M_meets 1 τ := by
  unfold M_askedRow M_isRow
  rw [if_neg (mi6 hr), if_pos (inb_nI hr (by decide)), nI_clamp (n := r) (by omega), e, if_neg (by decide)]
  cases M_meets 1 τ <;> rfl
theorem askedRow_yes {r n : Nat} {τ : St} (hr : r < 6) (hn : n ≤ 40) (e : τ.1 5 0 r = nI n) : M_askedRow (nI r) τ = some (0, τ) := by
  unfold M_askedRow M_isRow
  rw [if_neg (mi6 hr), if_pos (inb_nI hr (by decide)), nI_clamp (n := r) (by omega), e, if_pos (nI_pos' (by omega))]
theorem rowAt_eq {r k : Nat} (τ : St) (hr : r < 6) (hk : k < 40) : M_rowAt (nI r) (nI k) τ = some (τ.1 6 0 (40 * r + k)) := by
  unfold M_rowAt
  rw [ix40, if_pos (inb_nI (by omega) (by decide)), nI_clamp (by omega)]
theorem nIm1 {n : Nat} (hn : n ≤ 40) : ¬ nI n = -1 := by
  have h : ∀ n, n < 41 → ¬ nI n = -1 := by decide +kernel
  exact h n (by omega)
theorem step_1 : Stp_1 Inv := by
  intro a1 a2 a3 σ τ h
  by_cases hx : ∃ j, j < 6 ∧ a1 = nI j
  · obtain ⟨r, hr, rfl⟩ := hx
    have hq : ¬ Q_within (nI r) 6 = 0 := wi6 hr
    unfold Q_lay M_lay
    rw [if_neg hq, if_pos (inb_nI hr (by decide)), nI_clamp (n := r) (by omega)]
    rcases row_sz h hr with ⟨e1, e2⟩ | ⟨n, hn, e1, e2⟩
    · obtain ⟨σ', τ', (h1 : Q_refuse 1 σ = _), (h2 : M_meets 1 τ = _), h3⟩ := refuse_eq h (f := 1) (by decide)
      rw [askedRow_no hr e1, e2, if_pos rfl, h1, h2]
      exact ⟨_, _, _, rfl, rfl, h3⟩
    · rw [askedRow_yes hr hn e1, e2, if_neg (nIm1 hn), Option.bind_some]
      dsimp only
      rw [if_pos (show (0 : Int32) ≤ 0 from by decide), if_pos (inb_nI hr (by decide)), e1]
      by_cases hy : ∃ j, j < n ∧ a2 = nI j
      · obtain ⟨i, hi, rfl⟩ := hy
        rw [if_neg (wiv hi (by omega)), if_neg (miv hi (by omega)), if_pos (inb_nI (by omega) (by decide)), if_pos (inb_nI (by omega) (by decide)), nI_clamp (n := i) (by omega), rowAt_eq _ hr (by omega), Option.bind_some, ix40, if_pos (inb_nI (by omega) (by decide)), nI_clamp (n := 40 * r + i) (by omega)]
        have e3 : σ.1 19 r i = τ.1 6 0 (40 * r + i) := h.c.1.2 r hr i (by omega)
        refine ⟨1, sX (sX σ 19 r i a3) 0 0 7 (σ.1 19 r i), sX (sX τ 0 0 2 (τ.1 6 0 (40 * r + i))) 6 0 (40 * r + i) a3, rfl, rfl, ?_⟩
        have h1 := Inv_tell h (σ.1 19 r i)
        refine Inv_row h1 ⟨rfl, ?_⟩ ⟨rfl, ?_⟩ ?_ ?_
        · intro kd m j hp
          unfold pcrow at hp
          simp only [Bool.or_eq_false_iff, beq_eq_false_iff_ne] at hp
          rw [sX_at, sX_at, sX_at]
          by_cases c : kd = 0 ∧ m = 0 ∧ j = 7
          · rw [if_pos c, if_pos c]
          · rw [if_neg c, if_neg c, if_neg (by omega)]
        · intro kd m j hp
          unfold pmrow at hp
          simp only [Bool.or_eq_false_iff, beq_eq_false_iff_ne] at hp
          rw [sX_o (by omega), e3]
        · intro r' hr'
          rw [sX_o (by omega), sX_o (by omega)]; exact h.w.2.1 r' hr'
        · refine ⟨?_, ?_⟩
          · intro r' hr'
            rw [sX_o (by omega), sX_o (by omega), sX_o (by omega), sX_o (by omega)]; exact h.c.1.1 r' hr'
          · intro r' hr' i' hi'
            rw [sX_o (by omega), sX_at, sX_at, sX_o (by omega)]
            by_cases c : r' = r ∧ i' = i
            · rw [if_pos ⟨rfl, c.1, c.2⟩, if_pos (by omega)]
            · rw [if_neg (by omega), if_neg (by omega)]; exact h.c.1.2 r' hr' i' hi'
      · obtain ⟨σ', τ', (h1 : Q_refuse 2 σ = _), (h2 : M_meets 2 τ = _), h3⟩ := refuse_eq h (f := 2) (by decide)
        rw [if_pos (wov (by omega) hy), if_pos (mov (by omega) hy), h1, h2]
        exact ⟨_, _, _, rfl, rfl, h3⟩
  · unfold Q_lay M_lay
    rw [if_pos (wo6 hx), askedRow_out τ hx]
    exact ⟨_, _, _, rfl, rfl, h⟩
theorem step_2 : Stp_2 Inv := by
  intro a1 σ τ h
  by_cases hx : ∃ j, j < 6 ∧ a1 = nI j
  · obtain ⟨r, hr, rfl⟩ := hx
    have hq : ¬ Q_within (nI r) 6 = 0 := wi6 hr
    unfold Q_tear M_tear
    rw [if_neg hq, if_pos (inb_nI hr (by decide)), nI_clamp (n := r) (by omega)]
    rcases row_sz h hr with ⟨e1, e2⟩ | ⟨n, hn, e1, e2⟩
    · obtain ⟨σ', τ', (h1 : Q_refuse 1 σ = _), (h2 : M_meets 1 τ = _), h3⟩ := refuse_eq h (f := 1) (by decide)
      rw [askedRow_no hr e1, e2, if_pos rfl, h1, h2]
      exact ⟨_, _, _, rfl, rfl, h3⟩
    · rw [askedRow_yes hr hn e1, e2, if_neg (nIm1 hn), Option.bind_some]
      dsimp only
      rw [if_pos (show (0 : Int32) ≤ 0 from by decide), if_pos (inb_nI hr (by decide)), if_pos (inb_nI hr (by decide))]
      refine ⟨_, _, _, rfl, rfl, ?_⟩
      refine Inv_row h ((Fr.rf _ _).st _ _ _ _ rfl) ((Fr.rf _ _).st _ _ _ _ rfl) ?_ ?_
      · intro r' hr'
        by_cases e : r' = r
        · subst e; rw [sX_s]; exact Or.inl rfl
        · rw [sX_o (by omega)]; exact h.w.2.1 r' hr'
      · refine ⟨?_, ?_⟩
        · intro r' hr'
          by_cases e : r' = r
          · subst e; rw [sX_s, sX_s]; decide
          · rw [sX_o (by omega), sX_o (by omega)]; exact h.c.1.1 r' hr'
        · intro r' hr' i hi
          rw [sX_o (by omega), sX_o (by omega)]; exact h.c.1.2 r' hr' i hi
  · unfold Q_tear M_tear
    rw [if_pos (wo6 hx), askedRow_out τ hx]
    exact ⟨_, _, _, rfl, rfl, h⟩
/-- a sum of longs -/
def sL (g : Nat → Int32) : Nat → Int64
  | 0 => 0
  | n + 1 => sL g n + (g n).toInt64
theorem sL_congr {f g : Nat → Int32} {n : Nat} (h : ∀ i, i < n → f i = g i) : sL f n = sL g n := by
  induction n with
  | zero => rfl
  | succ n ih =>
    unfold sL
    rw [ih (fun i hi => h i (by omega)), h n (by omega)]
theorem Rw_sum_eq {σ : St} {r n : Nat} (hn : n ≤ 40) (e : σ.1 18 r 1 = nI n) : Rw_sum r σ = some (sL (σ.1 19 r) n) := by
  refine lpF (fun k i v => Rw_sum_L4 r σ k v (nI i)) (sL (σ.1 19 r)) _ n ?_ ?_ (n := 1100) (by omega)
  · intro k
    show Rw_sum_L4 r σ (k + 1) _ (nI n) = _
    rw [Rw_sum_L4, e, if_pos (nI_le (Nat.le_refl _) (by omega))]
  · intro i k hi
    show Rw_sum_L4 r σ (k + 1) _ (nI i) = Rw_sum_L4 r σ k _ (nI (i + 1))
    rw [Rw_sum_L4, e, if_neg (nI_ge hi (by omega)), if_pos (inb_nI (by omega) (by decide)), nI_clamp (by omega), nI_1]
    rfl
theorem mean_lp {τ : St} {r n : Nat} (hr : r < 6) (hn : n ≤ 40) (e : τ.1 5 0 r = nI n) (K : Int64 → St → Option (Int32 × St)) : M_mean_L17 K (nI r) 1100 0 0 τ = K (sL (fun i => τ.1 6 0 (40 * r + i)) n) τ := by
  refine lpF (fun k i v => M_mean_L17 K (nI r) k v (nI i) τ) (sL (fun i => τ.1 6 0 (40 * r + i))) _ n ?_ ?_ (n := 1100) (by omega)
  · intro k
    show M_mean_L17 K (nI r) (k + 1) _ (nI n) τ = _
    rw [M_mean_L17, if_pos (inb_nI hr (by decide)), nI_clamp (n := r) (by omega), e, if_pos (nI_le (Nat.le_refl _) (by omega))]
  · intro i k hi
    show M_mean_L17 K (nI r) (k + 1) _ (nI i) τ = M_mean_L17 K (nI r) k _ (nI (i + 1)) τ
    rw [M_mean_L17, if_pos (inb_nI hr (by decide)), nI_clamp (n := r) (by omega), e, if_neg (nI_ge hi (by omega)), rowAt_eq _ hr (by omega), Option.bind_some, nI_1]
    rfl
theorem step_4 : Stp_4 Inv := by
  intro a1 σ τ h
  by_cases hx : ∃ j, j < 6 ∧ a1 = nI j
  · obtain ⟨r, hr, rfl⟩ := hx
    have hq : ¬ Q_within (nI r) 6 = 0 := wi6 hr
    unfold Q_mean M_mean
    rw [if_neg hq, if_pos (inb_nI hr (by decide)), nI_clamp (n := r) (by omega)]
    rcases row_sz h hr with ⟨e1, e2⟩ | ⟨n, hn, e1, e2⟩
    · obtain ⟨σ', τ', (h1 : Q_refuse 1 σ = _), (h2 : M_meets 1 τ = _), h3⟩ := refuse_eq h (f := 1) (by decide)
      rw [askedRow_no hr e1, e2, if_pos rfl, h1, h2]
      exact ⟨_, _, _, rfl, rfl, h3⟩
    · rw [askedRow_yes hr hn e1, Option.bind_some]
      dsimp only
      rw [if_pos (show (0 : Int32) ≤ 0 from by decide), mean_lp hr hn e1]
      rw [if_pos (inb_nI hr (by decide)), e1, e2, if_neg (nIm1 hn)]
      by_cases e0 : n = 0
      · subst e0
        obtain ⟨σ', τ', (h1 : Q_refuse 4 σ = _), (h2 : M_meets 4 τ = _), h3⟩ := refuse_eq h (f := 4) (by decide)
        rw [if_pos (show nI 0 = 0 from rfl), if_pos (show nI 0 = 0 from rfl), h1, h2]
        exact ⟨_, _, _, rfl, rfl, h3⟩
      · have hz : ¬ (nI n).toInt64 = 0 := by
          rw [nI_l (by omega)]
          intro x
          have := (lN_eq (a := n) (b := 0) (by omega) (by omega)).mp x
          omega
        rw [if_neg (nI_ne0 (by omega) (by omega)), if_neg (nI_ne0 (by omega) (by omega)), if_pos (inb_nI hr (by decide)), Rw_sum_eq hn e2, Option.bind_some, if_pos hz, if_pos hz]
        have es : sL (σ.1 19 r) n = sL (fun i => τ.1 6 0 (40 * r + i)) n := sL_congr (fun i hi => h.c.1.2 r hr i (by omega))
        rw [es]
        exact ⟨_, _, _, rfl, rfl, Inv_tell h _⟩
  · unfold Q_mean M_mean
    rw [if_pos (wo6 hx), askedRow_out τ hx]
    exact ⟨_, _, _, rfl, rfl, h⟩
