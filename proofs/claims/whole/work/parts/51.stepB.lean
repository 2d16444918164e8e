/-! ===== the steps: copies of rows, texts, cases, what is told ===== -/
theorem hasS_in {σ τ : St} (h : Inv σ τ) {s : Nat} (hs : s < nS τ) : ¬ Bk_hasSaying (nI s) σ = 0 ∧ ¬ M_isSaying (nI s) τ = 0 := by
  have h1 := h.w.nS24
  have e1 : τ.1 0 0 16 = nI (nS τ) := h.w.1.2.2.1.1
  have e2 : σ.1 3 0 7 = nI (nS τ) := h.c.say.1.trans e1
  unfold Bk_hasSaying M_isSaying
  rw [e1, e2]
  exact ⟨wiv hs (by omega), miv hs (by omega)⟩
theorem hasS_out {σ τ : St} (h : Inv σ τ) {v : Int32} (hx : ¬ ∃ j, j < nS τ ∧ v = nI j) : Bk_hasSaying v σ = 0 ∧ M_isSaying v τ = 0 := by
  have h1 := h.w.nS24
  have e1 : τ.1 0 0 16 = nI (nS τ) := h.w.1.2.2.1.1
  have e2 : σ.1 3 0 7 = nI (nS τ) := h.c.say.1.trans e1
  unfold Bk_hasSaying M_isSaying
  rw [e1, e2]
  exact ⟨wov (by omega) hx, mov (by omega) hx⟩
theorem WF.nC12 {τ : St} (w : WF τ) : nC τ ≤ 12 := w.1.1.2
theorem WF.nV40 {τ : St} (w : WF τ) : nV τ ≤ 40 := w.1.2.2.2.2
theorem hasC_in {σ τ : St} (h : Inv σ τ) {s : Nat} (hs : s < nC τ) : ¬ Bk_hasCase (nI s) σ = 0 ∧ ¬ M_isCase (nI s) τ = 0 := by
  have h1 := h.w.nC12
  have e1 : τ.1 0 0 10 = nI (nC τ) := h.w.1.1.1
  have e2 : σ.1 3 0 3 = nI (nC τ) := h.c.case.1.trans e1
  unfold Bk_hasCase M_isCase
  rw [e1, e2]
  exact ⟨wiv hs (by omega), miv hs (by omega)⟩
theorem hasC_out {σ τ : St} (h : Inv σ τ) {v : Int32} (hx : ¬ ∃ j, j < nC τ ∧ v = nI j) : Bk_hasCase v σ = 0 ∧ M_isCase v τ = 0 := by
  have h1 := h.w.nC12
  have e1 : τ.1 0 0 10 = nI (nC τ) := h.w.1.1.1
  have e2 : σ.1 3 0 3 = nI (nC τ) := h.c.case.1.trans e1
  unfold Bk_hasCase M_isCase
  rw [e1, e2]
  exact ⟨wov (by omega) hx, mov (by omega) hx⟩
theorem hasM_in {σ τ : St} (h : Inv σ τ) {s : Nat} (hs : s < nM τ) : ¬ Bk_hasMaster (nI s) σ = 0 ∧ ¬ M_isMaster (nI s) τ = 0 := by
  have h1 := h.w.nM8
  have e1 : τ.1 0 0 12 = nI (nM τ) := h.w.1.2.1.1
  have e2 : σ.1 3 0 5 = nI (nM τ) := h.c.mas.1.trans e1
  unfold Bk_hasMaster M_isMaster
  rw [e1, e2]
  exact ⟨wiv hs (by omega), miv hs (by omega)⟩
theorem hasM_out {σ τ : St} (h : Inv σ τ) {v : Int32} (hx : ¬ ∃ j, j < nM τ ∧ v = nI j) : Bk_hasMaster v σ = 0 ∧ M_isMaster v τ = 0 := by
  have h1 := h.w.nM8
  have e1 : τ.1 0 0 12 = nI (nM τ) := h.w.1.2.1.1
  have e2 : σ.1 3 0 5 = nI (nM τ) := h.c.mas.1.trans e1
  unfold Bk_hasMaster M_isMaster
  rw [e1, e2]
  exact ⟨wov (by omega) hx, mov (by omega) hx⟩
theorem sub_lt {a k i : Nat} (ha : a ≤ 40) (hk : k < 2 ^ 31) (hi : i < 2 ^ 31) : (nI a - nI k < nI i) ↔ a < i + k := by
  rw [Int32.lt_iff_toInt_lt, Int32.toInt_sub, nI_toInt (n := a) (by omega), nI_toInt (n := k) hk, nI_toInt (n := i) hi, Int.bmod_eq_of_le (by omega) (by omega)]
  omega
theorem lg_gt {x a : Nat} (hx : x < 2 ^ 33) (ha : a ≤ 40) : (0 < lg_cmp (lN x) (lN a)) ↔ a < x := by
  unfold lg_cmp
  have h1 := pk_lLT (a := a) (b := x) (by omega) (by omega)
  by_cases c : a < x
  · rw [if_pos (show lN x > lN a from h1.mpr c)]
    exact ⟨fun _ => c, fun _ => by decide⟩
  · rw [if_neg (show ¬ lN x > lN a from fun y => c (h1.mp y))]
    refine ⟨fun y => ?_, fun y => absurd y c⟩
    split at y <;> exact absurd y (by decide)
theorem lg_le {x a : Nat} (hx : x < 2 ^ 33) (ha : a ≤ 40) : (lg_cmp (lN x) (lN a) ≤ 0) ↔ ¬ a < x := by
  rw [← lg_gt hx ha]
  exact Int32.not_lt.symm
theorem copy_a {r i k : Nat} (hr : r < 6) (hk : i + k ≤ 40) (v3 v4 : Int32) (t : St) (K : St → Option (Int32 × St)) : ∃ u, M_copy_L104 K (nI r) (nI i) v3 v4 (nI k) 1100 0 t = K u ∧ u.2 = t.2 ∧ ∀ kd n j, u.1 kd n j = if kd = 7 ∧ n = 0 ∧ j < k then t.1 6 0 (40 * r + i + j) else t.1 kd n j := by
  refine lpU (fun n l u => M_copy_L104 K (nI r) (nI i) v3 v4 (nI k) n (nI l) u) (fun l u => u.2 = t.2 ∧ ∀ kd n j, u.1 kd n j = if kd = 7 ∧ n = 0 ∧ j < l then t.1 6 0 (40 * r + i + j) else t.1 kd n j) K k ?_ ?_ (n := 1100) (s := t) (by omega) ⟨rfl, fun kd n j => by rw [if_neg (by omega)]⟩
  · intro n u hp
    show M_copy_L104 K (nI r) (nI i) v3 v4 (nI k) (n + 1) (nI k) u = K u
    rw [M_copy_L104, if_pos (nI_le (Nat.le_refl _) (by omega))]
  · intro l n u hl hp
    have e6 : u.1 6 0 (40 * r + (i + l)) = t.1 6 0 (40 * r + i + l) := by
      rw [hp.2, if_neg (by omega), Nat.add_assoc]
    refine ⟨sX u 7 0 l (t.1 6 0 (40 * r + i + l)), ?_, hp.1, ?_⟩
    · show M_copy_L104 K (nI r) (nI i) v3 v4 (nI k) (n + 1) (nI l) u = M_copy_L104 K (nI r) (nI i) v3 v4 (nI k) n (nI (l + 1)) _
      rw [M_copy_L104, if_neg (nI_ge hl (by omega)), nI_add, rowAt_eq _ hr (by omega), Option.bind_some, if_pos (inb_nI (by omega) (by decide)), nI_clamp (n := l) (by omega), nI_1, e6]
    · intro kd m j
      rw [sX_at, hp.2]
      by_cases c : kd = 7 ∧ m = 0 ∧ j = l
      · rw [if_pos c, if_pos (by omega), c.2.2]
      · rw [if_neg c]
        by_cases d : kd = 7 ∧ m = 0 ∧ j < l
        · rw [if_pos d, if_pos (by omega)]
        · rw [if_neg d, if_neg (by omega)]
theorem copy_b {r i k : Nat} (hr : r < 6) (hk : i + k ≤ 40) (t : St) : ∃ u, M_copy_L136 (nI r) (nI i) (nI k) 1100 0 t = some (1, u) ∧ u.2 = t.2 ∧ ∀ kd n j, u.1 kd n j = if kd = 6 ∧ n = 0 ∧ 40 * r + i ≤ j ∧ j < 40 * r + i + k then t.1 7 0 (j - (40 * r + i)) else t.1 kd n j := by
  refine lpU (fun n l u => M_copy_L136 (nI r) (nI i) (nI k) n (nI l) u) (fun l u => u.2 = t.2 ∧ ∀ kd n j, u.1 kd n j = if kd = 6 ∧ n = 0 ∧ 40 * r + i ≤ j ∧ j < 40 * r + i + l then t.1 7 0 (j - (40 * r + i)) else t.1 kd n j) (fun u => some (1, u)) k ?_ ?_ (n := 1100) (s := t) (by omega) ⟨rfl, fun kd n j => by rw [if_neg (by omega)]⟩
  · intro n u hp
    show M_copy_L136 (nI r) (nI i) (nI k) (n + 1) (nI k) u = some (1, u)
    rw [M_copy_L136, if_pos (nI_le (Nat.le_refl _) (by omega))]
  · intro l n u hl hp
    have e7 : u.1 7 0 l = t.1 7 0 l := by
      rw [hp.2, if_neg (by omega)]
    refine ⟨sX u 6 0 (40 * r + i + l) (t.1 7 0 l), ?_, hp.1, ?_⟩
    · show M_copy_L136 (nI r) (nI i) (nI k) (n + 1) (nI l) u = M_copy_L136 (nI r) (nI i) (nI k) n (nI (l + 1)) _
      rw [M_copy_L136, if_neg (nI_ge hl (by omega)), if_pos (inb_nI (by omega) (by decide)), ix40, nI_add, if_pos (inb_nI (by omega) (by decide)), nI_clamp (n := l) (by omega), nI_clamp (n := 40 * r + i + l) (by omega), nI_1, e7]
    · intro kd m j
      rw [sX_at, hp.2]
      by_cases c : kd = 6 ∧ m = 0 ∧ j = 40 * r + i + l
      · rw [if_pos c, if_pos (by omega), c.2.2, Nat.add_sub_cancel_left]
      · rw [if_neg c]
        by_cases d : kd = 6 ∧ m = 0 ∧ 40 * r + i ≤ j ∧ j < 40 * r + i + l
        · rw [if_pos d, if_pos (by omega)]
        · rw [if_neg d, if_neg (by omega)]
theorem sR_at (σ : St) (kd n : Nat) (f : Nat → Int32) (a b c : Nat) : (sR σ kd n f).1 a b c = if a = kd ∧ b = n then f c else σ.1 a b c := by
  unfold sR
  dsimp only
  split <;> rfl
theorem step_3 : Stp_3 Inv := by
  intro a1 a2 a3 a4 a5 σ τ h
  unfold Q_copy M_copy M_isRow
  by_cases hx : ∃ j, j < 6 ∧ a1 = nI j
  · obtain ⟨r, hr, rfl⟩ := hx
    rw [if_neg (wi6 hr), if_neg (mi6 hr)]
    by_cases hy : ∃ j, j < 6 ∧ a3 = nI j
    · obtain ⟨q, hq, rfl⟩ := hy
      rw [if_neg (wi6 hq), if_neg (mi6 hq)]
      by_cases h5 : 0 ≤ a5
      · obtain ⟨k, hk, rfl⟩ := nI_of (Int32.not_lt.mpr h5)
        obtain ⟨x1, y1, (c1 : Q_refuse 1 σ = _), (d1 : M_meets 1 τ = _), i1⟩ := refuse_eq h (f := 1) (by decide)
        obtain ⟨x2, y2, (c2 : Q_refuse 2 σ = _), (d2 : M_meets 2 τ = _), i2⟩ := refuse_eq h (f := 2) (by decide)
        have j1 : Q_copy_J65 σ = some (-3, x1) := by unfold Q_copy_J65; rw [c1]; rfl
        have j2 : Q_copy_J94 σ = some (-3, x2) := by unfold Q_copy_J94; rw [c2]; rfl
        have k1 : M_copy_J45 τ = some (-3, y1) := by unfold M_copy_J45; rw [d1]; rfl
        have k2 : M_copy_J95 τ = some (-3, y2) := by unfold M_copy_J95; rw [d2]; rfl
        rw [if_pos h5, if_pos h5, if_pos (inb_nI hr (by decide)), if_pos (inb_nI hq (by decide)), if_pos (inb_nI hr (by decide)), nI_clamp (n := r) (by omega), nI_clamp (n := q) (by omega), j1, j2, k1, k2]
        rcases row_sz h hr with ⟨e1, e2⟩ | ⟨n, hn, e1, e2⟩
        · rw [e1, e2, if_pos rfl, if_pos (show (-9 : Int32) < 0 by decide)]
          exact ⟨_, _, _, rfl, rfl, i1⟩
        · rw [e1, e2, if_neg (nIm1 hn), if_neg (nI_pos (by omega)), if_pos (inb_nI hq (by decide))]
          rcases row_sz h hq with ⟨f1, f2⟩ | ⟨m, hm, f1, f2⟩
          · rw [f1, f2, if_pos rfl, if_neg (show ¬ (0 : Int32) ≤ -9 by decide)]
            exact ⟨_, _, _, rfl, rfl, i1⟩
          · rw [f1, f2, if_neg (nIm1 hm), if_pos (nI_pos' (by omega))]
            by_cases g2 : a2 < 0
            · have : Rw_hasPlaces r a2 (nI k) σ = 0 := by unfold Rw_hasPlaces; rw [if_pos g2]
              rw [if_pos this, if_pos g2]
              exact ⟨_, _, _, rfl, rfl, i2⟩
            · obtain ⟨i, hi, rfl⟩ := nI_of g2
              rw [if_neg g2]
              have hs := sub_lt hn hk hi
              by_cases g4 : a4 < 0
              · have p2 : Rw_hasPlaces q a4 (nI k) σ = 0 := by unfold Rw_hasPlaces; rw [if_pos g4]
                rw [if_pos p2, if_pos g4]
                refine ⟨_, _, _, ?_, rfl, i2⟩
                split <;> rfl
              · obtain ⟨j, hj, rfl⟩ := nI_of g4
                have hs' := sub_lt hm hk hj
                rw [if_neg g4, if_pos (inb_nI hr (by decide)), if_pos (inb_nI hq (by decide)), nI_l hi, nI_l hj, nI_l hk, lN_add, lN_add, nI_l (n := n) (by omega), nI_l (n := m) (by omega)]
                have l1 := lg_gt (x := i + k) (a := n) (by omega) hn
                have l2 := lg_le (x := j + k) (a := m) (by omega) hm
                by_cases o1 : n < i + k
                · have : Rw_hasPlaces r (nI i) (nI k) σ = 0 := by unfold Rw_hasPlaces; rw [if_neg g2, e2, if_pos (hs.mpr o1)]
                  rw [if_pos this, if_pos (l1.mpr o1)]
                  exact ⟨_, _, _, rfl, rfl, i2⟩
                · have p1 : Rw_hasPlaces r (nI i) (nI k) σ = 1 := by unfold Rw_hasPlaces; rw [if_neg g2, e2, if_neg (fun z => o1 (hs.mp z))]
                  rw [p1, if_neg (show ¬ (1 : Int32) = 0 by decide), if_neg (fun z => o1 (l1.mp z))]
                  by_cases o2 : m < j + k
                  · have : Rw_hasPlaces q (nI j) (nI k) σ = 0 := by unfold Rw_hasPlaces; rw [if_neg g4, f2, if_pos (hs'.mpr o2)]
                    rw [if_pos this, if_neg (fun z => l2.mp z o2)]
                    exact ⟨_, _, _, rfl, rfl, i2⟩
                  · have p2 : Rw_hasPlaces q (nI j) (nI k) σ = 1 := by unfold Rw_hasPlaces; rw [if_neg g4, f2, if_neg (fun z => o2 (hs'.mp z))]
                    rw [p2, if_neg (show ¬ (1 : Int32) = 0 by decide), if_pos (l2.mpr o2), nI_clamp hi, nI_clamp hj, nI_clamp hk, if_pos ⟨g2, g4, Int32.not_lt.mpr h5, by omega, by omega⟩]
                    obtain ⟨u, u1, u2, u3⟩ := copy_a hr (show i + k ≤ 40 by omega) (nI q) (nI j) τ (fun (s_29 : St) => M_copy_L136 (nI q) (nI j) (nI k) 1100 0 s_29)
                    obtain ⟨v, v1, v2, v3⟩ := copy_b hq (show j + k ≤ 40 by omega) u
                    refine ⟨_, _, v, rfl, u1.trans v1, ?_⟩
                    refine Inv_row h ⟨rfl, ?_⟩ ⟨v2.trans u2, ?_⟩ ?_ ?_
                    · intro kd m j hp
                      unfold pcrow at hp
                      simp only [Bool.or_eq_false_iff, beq_eq_false_iff_ne] at hp
                      rw [sR_at, if_neg (by omega)]
                    · intro kd m j hp
                      unfold pmrow at hp
                      simp only [Bool.or_eq_false_iff, beq_eq_false_iff_ne] at hp
                      rw [v3, if_neg (by omega), u3, if_neg (by omega)]
                    · intro r' hr'
                      rw [v3, if_neg (by omega), u3, if_neg (by omega)]; exact h.w.2.1 r' hr'
                    · refine ⟨?_, ?_⟩
                      · intro r' hr'
                        rw [v3, if_neg (by omega), u3, if_neg (by omega), sR_at, if_neg (by omega)]; exact h.c.1.1 r' hr'
                      · intro r' hr' c hc
                        rw [sR_at, v3]
                        by_cases er : r' = q
                        · subst er
                          rw [if_pos ⟨rfl, rfl⟩]
                          unfold va_cpy
                          by_cases ec : j ≤ c ∧ c < j + k
                          · rw [if_pos ec, if_pos (by omega), u3, if_pos (by omega), h.c.1.2 r hr _ (by omega)]
                            exact congrArg (τ.1 6 0) (by omega)
                          · rw [if_neg ec, if_neg (by omega), u3, if_neg (by omega)]; exact h.c.1.2 r' hr' c hc
                        · rw [if_neg (by omega), if_neg (by omega), u3, if_neg (by omega)]; exact h.c.1.2 r' hr' c hc
      · obtain ⟨σ', τ', (h1 : Q_refuse 5 σ = _), (h2 : M_meets 5 τ = _), h3⟩ := refuse_eq h (f := 5) (by decide)
        rw [if_neg h5, if_neg h5, h1, h2]
        exact ⟨_, _, _, rfl, rfl, h3⟩
    · rw [if_pos (wo6 hy), if_pos (mo6 hy)]
      exact ⟨_, _, _, rfl, rfl, h⟩
  · rw [if_pos (wo6 hx), if_pos (mo6 hx)]
    exact ⟨_, _, _, rfl, rfl, h⟩
theorem text_lp {r : Nat} (hr : r < 4) (v : Int32) (t : St) : ∃ u, M_text_L34 (nI r) v 1100 0 t = some (v, u) ∧ u.2 = t.2 ∧ ∀ kd n j, u.1 kd n j = if kd = 9 ∧ n = 0 ∧ 40 * r ≤ j ∧ j < 40 * r + 40 then 32 else t.1 kd n j := by
  refine lpU (fun n k u => M_text_L34 (nI r) v n (nI k) u) (fun k u => u.2 = t.2 ∧ ∀ kd n j, u.1 kd n j = if kd = 9 ∧ n = 0 ∧ 40 * r ≤ j ∧ j < 40 * r + k then 32 else t.1 kd n j) (fun u => some (v, u)) 40 ?_ ?_ (n := 1100) (s := t) (by decide) ⟨rfl, fun kd n j => by rw [if_neg (by omega)]⟩
  · intro n u hp
    show M_text_L34 (nI r) v (n + 1) (nI 40) u = some (v, u)
    rw [M_text_L34, if_pos (by decide)]
  · intro k n u hk hp
    refine ⟨sX u 9 0 (40 * r + k) 32, ?_, hp.1, ?_⟩
    · show M_text_L34 (nI r) v (n + 1) (nI k) u = M_text_L34 (nI r) v n (nI (k + 1)) _
      rw [M_text_L34, if_neg (g40 hk), ix40, if_pos (inb_nI (by omega) (by decide)), nI_clamp (by omega), nI_1]
    · intro kd m j
      rw [sX_at, hp.2]
      by_cases c : kd = 9 ∧ m = 0 ∧ j = 40 * r + k
      · rw [if_pos c, if_pos (by omega)]
      · rw [if_neg c]
        by_cases d : kd = 9 ∧ m = 0 ∧ 40 * r ≤ j ∧ j < 40 * r + k
        · rw [if_pos d, if_pos (by omega)]
        · rw [if_neg d, if_neg (by omega)]
theorem step_5 : Stp_5 Inv := by
  intro a1 a2 σ τ h
  unfold Q_text M_text M_isText
  by_cases hx : ∃ j, j < 4 ∧ a1 = nI j
  · obtain ⟨r, hr, rfl⟩ := hx
    rw [if_neg (wi4 hr), if_neg (mi4 hr)]
    by_cases h40 : a2 ≤ 40
    · rw [if_pos h40, if_pos h40]
      by_cases h0 : 0 ≤ a2
      · rw [if_pos h0, if_pos h0, if_pos (inb_nI hr (by decide)), if_pos (inb_nI hr (by decide)), nI_clamp (n := r) (by omega)]
        obtain ⟨n, hn, rfl⟩ := nI_of2 (M := 40) (n := 40) (by decide) (Int32.not_lt.mpr h0) h40
        obtain ⟨u, u1, u2, u3⟩ := text_lp hr (nI n) (sX τ 8 0 r (nI n))
        refine ⟨nI n, sX (fillR σ 21 r 40 (vp_nar .byte 32)) 20 r 1 (nI n), u, rfl, u1, ?_⟩
        have e32 : vp_nar .byte 32 = 32 := rfl
        refine Inv_text h ⟨rfl, ?_⟩ ⟨u2, ?_⟩ ⟨?_, ?_⟩ ?_
        · intro kd m j hp
          unfold pctext at hp
          simp only [Bool.or_eq_false_iff, beq_eq_false_iff_ne] at hp
          rw [sX_o (by omega), fill_at, if_neg (by omega)]
        · intro kd m j hp
          unfold pmtext at hp
          simp only [Bool.or_eq_false_iff, beq_eq_false_iff_ne] at hp
          rw [u3, if_neg (by omega), sX_o (by omega)]
        · intro r' hr'
          rw [u3, if_neg (by omega)]
          by_cases e : r' = r
          · subst e; rw [sX_s]; exact Or.inr ⟨n, hn, rfl⟩
          · rw [sX_o (by omega)]; exact h.w.2.2.1.1 r' hr'
        · intro i hi
          rw [u3]
          by_cases e : 40 * r ≤ i ∧ i < 40 * r + 40
          · rw [if_pos ⟨rfl, rfl, e⟩]; rfl
          · rw [if_neg (by omega), sX_o (by omega)]; exact h.w.2.2.1.2 i hi
        · refine ⟨?_, ?_⟩
          · intro r' hr'
            rw [u3, if_neg (by omega)]
            by_cases e : r' = r
            · subst e; rw [sX_s, sX_s, cSz_n hn]
            · rw [sX_o (by omega), sX_o (by omega), fill_at, if_neg (by omega)]; exact h.c.2.1.1 r' hr'
          · intro r' hr' i hi
            rw [sX_o (by omega), fill_at, u3, e32]
            by_cases e : r' = r
            · subst e; rw [if_pos (by omega), if_pos (by omega)]
            · rw [if_neg (by omega), if_neg (by omega), sX_o (by omega)]; exact h.c.2.1.2 r' hr' i hi
      · rw [if_neg h0, if_neg h0]
        obtain ⟨σ', τ', (h1 : Q_refuse 5 σ = _), (h2 : M_meets 5 τ = _), h3⟩ := refuse_eq h (f := 5) (by decide)
        rw [h1, h2]
        exact ⟨_, _, _, rfl, rfl, h3⟩
    · rw [if_neg h40, if_neg h40]
      exact ⟨_, _, _, rfl, rfl, h⟩
  · rw [if_pos (wo4 hx), if_pos (mo4 hx)]
    exact ⟨_, _, _, rfl, rfl, h⟩
theorem askedText_out {a : Int32} (τ : St) (hx : ¬ ∃ j, j < 4 ∧ a = nI j) : M_askedText a τ = some (-1, τ) := by
  unfold M_askedText M_isText
  rw [if_pos (mo4 hx)]
theorem askedText_no {r : Nat} {τ : St} (hr : r < 4) (e : τ.1 8 0 r = -9) : M_askedText (nI r) τ = M_meets 1 τ := by
  unfold M_askedText M_isText
  rw [if_neg (mi4 hr), if_pos (inb_nI hr (by decide)), nI_clamp (n := r) (by omega), e, if_neg (by decide)]
  cases M_meets 1 τ <;> rfl
theorem askedText_yes {r n : Nat} {τ : St} (hr : r < 4) (hn : n ≤ 40) (e : τ.1 8 0 r = nI n) : M_askedText (nI r) τ = some (0, τ) := by
  unfold M_askedText M_isText
  rw [if_neg (mi4 hr), if_pos (inb_nI hr (by decide)), nI_clamp (n := r) (by omega), e, if_pos (nI_pos' (by omega))]
theorem byte_id (z : Int32) : z.toInt8.toInt32.toInt8.toInt32 = z.toInt8.toInt32 := by
  have h := pk_vb z
  rw [vp_nar_byte] at h
  exact h
theorem step_6 : Stp_6 Inv := by
  intro a1 a2 a3 σ τ h
  unfold Q_put M_put
  by_cases hx : ∃ j, j < 4 ∧ a1 = nI j
  · obtain ⟨r, hr, rfl⟩ := hx
    rw [if_neg (wi4 hr), if_pos (inb_nI hr (by decide)), nI_clamp (n := r) (by omega)]
    rcases text_sz h hr with ⟨e1, e2⟩ | ⟨n, hn, e1, e2⟩
    · obtain ⟨σ', τ', (h1 : Q_refuse 1 σ = _), (h2 : M_meets 1 τ = _), h3⟩ := refuse_eq h (f := 1) (by decide)
      rw [askedText_no hr e1, e2, if_pos rfl, h1, h2]
      exact ⟨_, _, _, rfl, rfl, h3⟩
    · rw [askedText_yes hr hn e1, e2, if_neg (nIm1 hn), Option.bind_some]
      dsimp only
      rw [if_pos (show (0 : Int32) ≤ 0 from by decide), if_pos (inb_nI hr (by decide)), e1]
      by_cases hy : ∃ j, j < n ∧ a2 = nI j
      · obtain ⟨i, hi, rfl⟩ := hy
        rw [if_neg (wiv hi (by omega)), if_neg (miv hi (by omega)), if_pos (inb_nI (by omega) (by decide)), if_pos (inb_nI (by omega) (by decide)), nI_clamp (n := i) (by omega), ix40, if_pos (inb_nI (by omega) (by decide)), if_pos (inb_nI (by omega) (by decide)), nI_clamp (n := 40 * r + i) (by omega), pk_vb]
        have e3 : σ.1 21 r i = τ.1 9 0 (40 * r + i) := h.c.2.1.2 r hr i (by omega)
        rw [e3]
        refine ⟨_, _, _, rfl, rfl, ?_⟩
        refine Inv_text h ((Fr.rf _ _).st _ _ _ _ rfl) ((Fr.rf _ _).st _ _ _ _ rfl) ⟨?_, ?_⟩ ?_
        · intro r' hr'
          rw [sX_o (by omega)]; exact h.w.2.2.1.1 r' hr'
        · intro i' hi'
          by_cases c : i' = 40 * r + i
          · subst c; rw [sX_s]; exact byte_id a3
          · rw [sX_o (by omega)]; exact h.w.2.2.1.2 i' hi'
        · refine ⟨?_, ?_⟩
          · intro r' hr'
            rw [sX_o (by omega), sX_o (by omega)]; exact h.c.2.1.1 r' hr'
          · intro r' hr' i' hi'
            rw [sX_at, sX_at]
            by_cases c : r' = r ∧ i' = i
            · rw [if_pos ⟨rfl, c.1, c.2⟩, if_pos (by omega)]
            · rw [if_neg (by omega), if_neg (by omega)]; exact h.c.2.1.2 r' hr' i' hi'
      · obtain ⟨σ', τ', (h1 : Q_refuse 2 σ = _), (h2 : M_meets 2 τ = _), h3⟩ := refuse_eq h (f := 2) (by decide)
        rw [if_pos (wov (by omega) hy), if_pos (mov (by omega) hy), h1, h2]
        exact ⟨_, _, _, rfl, rfl, h3⟩
  · rw [if_pos (wo4 hx), askedText_out τ hx]
    exact ⟨_, _, _, rfl, rfl, h⟩
theorem step_12 : Stp_12 Inv := by
  intro a1 σ τ h
  unfold Q_traits M_traits
  by_cases hx : ∃ j, j < nC τ ∧ a1 = nI j
  · obtain ⟨c, hc, rfl⟩ := hx
    have h1 := h.w.nC12
    have hi : inb (nI c) 12 = true := inb_nI (by omega) (by decide)
    rw [if_neg (hasC_in h hc).1, if_neg (hasC_in h hc).2, if_pos hi, if_pos hi, nI_clamp (n := c) (by omega), h.c.case.2 c (by omega)]
    exact ⟨_, _, _, ⟨rfl, rfl⟩, ⟨rfl, rfl⟩, h⟩
  · rw [if_pos (hasC_out h hx).1, if_pos (hasC_out h hx).2]
    exact ⟨_, _, _, ⟨rfl, rfl⟩, ⟨rfl, rfl⟩, h⟩
theorem RC.misc {σ τ : St} (c : RC σ τ) : R_misc σ τ := c.2.2.2.2.2.2.2.2.2
theorem step_44 : Stp_44 Inv := fun σ τ h => ⟨_, σ, τ, ⟨rfl, rfl⟩, ⟨h.c.misc.2.2.1.symm, rfl⟩, h⟩
theorem step_45 : Stp_45 Inv := fun σ τ h => ⟨_, σ, τ, ⟨rfl, rfl⟩, ⟨h.c.misc.2.2.2.1.symm, rfl⟩, h⟩
theorem step_46 : Stp_46 Inv := fun σ τ h => ⟨_, σ, τ, ⟨rfl, rfl⟩, ⟨h.c.misc.2.2.2.2.symm, rfl⟩, h⟩
theorem step_48 : Stp_48 Inv := fun σ τ h => ⟨_, σ, τ, ⟨rfl, rfl⟩, ⟨h.c.misc.1.symm, rfl⟩, h⟩
theorem step_49 : Stp_49 Inv := by
  intro a1 σ τ h
  unfold Q_findings M_findings M_in
  by_cases h1 : a1 < 1
  · rw [if_pos h1, if_pos h1, if_pos rfl]
    exact ⟨_, _, _, ⟨rfl, rfl⟩, ⟨rfl, rfl⟩, h⟩
  · rw [if_neg h1, if_neg h1]
    by_cases h5 : 5 < a1
    · rw [if_pos h5, if_pos h5, if_pos rfl]
      exact ⟨_, _, _, ⟨rfl, rfl⟩, ⟨rfl, rfl⟩, h⟩
    · rw [if_neg h5, if_neg h5, if_neg (show ¬ (1 : Int32) = 0 by decide)]
      obtain ⟨f, hf, rfl⟩ := nI_of2 (M := 5) (n := 5) (by decide) (fun x => h1 (Int32.lt_trans x (by decide))) (Int32.not_lt.mp h5)
      have hi : inb (nI f) 6 = true := inb_nI (by omega) (by decide)
      rw [if_pos hi, if_pos hi, nI_clamp (n := f) (by omega), h.c.misc.2.1 f (by omega)]
      exact ⟨_, _, _, ⟨rfl, rfl⟩, ⟨rfl, rfl⟩, h⟩
theorem lt5 {j : Nat} (h : j < 5) : j = 0 ∨ j = 1 ∨ j = 2 ∨ j = 3 ∨ j = 4 := by omega
theorem told_eq {σ τ : St} (h : Inv σ τ) {s j : Nat} (hs : s < nS τ) (hj : j < 5) : M_sayingTells (nI s) (nI j) τ = some (Sy_figure s (nI j) σ) := by
  obtain ⟨e0, e1, e2, e3, e4⟩ := h.c.say.2.1 s hs
  have hS := h.w.nS24
  have hi : inb (nI s) 24 = true := inb_nI (by omega) (by decide)
  have hc : (nI s).toNatClampNeg = s := nI_clamp (by omega)
  unfold M_sayingTells Sy_figure
  rw [hc, e0, e1, e2, e3, e4]
  rcases lt5 hj with e | e | e | e | e <;> subst e
  · simp only [hi, if_true, if_pos (show nI 0 = 0 from rfl)]
  · simp only [hi, if_true, if_neg (show ¬ nI 1 = 0 from by decide), if_pos (show nI 1 = 1 from rfl)]
  · simp only [hi, if_true, if_neg (show ¬ nI 2 = 0 from by decide), if_neg (show ¬ nI 2 = 1 from by decide), if_pos (show nI 2 = 2 from rfl)]
  · simp only [hi, if_true, if_neg (show ¬ nI 3 = 0 from by decide), if_neg (show ¬ nI 3 = 1 from by decide), if_neg (show ¬ nI 3 = 2 from by decide), if_pos (show nI 3 = 3 from rfl)]
  · simp only [hi, if_true, if_neg (show ¬ nI 4 = 0 from by decide), if_neg (show ¬ nI 4 = 1 from by decide), if_neg (show ¬ nI 4 = 2 from by decide), if_neg (show ¬ nI 4 = 3 from by decide)]
theorem step_11 : Stp_11 Inv := by
  intro a1 a2 σ τ h
  unfold Q_told M_told
  by_cases hx : ∃ j, j < nS τ ∧ a1 = nI j
  · obtain ⟨s, hs, rfl⟩ := hx
    have hS := h.w.nS24
    rw [if_neg (hasS_in h hs).1, if_neg (hasS_in h hs).2]
    by_cases hy : ∃ j, j < 5 ∧ a2 = nI j
    · obtain ⟨j, hj, rfl⟩ := hy
      rw [if_neg (wi5 hj), if_neg (mi5 hj), told_eq h hs hj, if_pos (inb_nI (by omega) (by decide)), nI_clamp (n := s) (by omega), Option.bind_some]
      exact ⟨_, _, _, rfl, rfl, Inv_tell h _⟩
    · rw [if_pos (wo5 hy), if_pos (mo5 hy)]
      exact ⟨_, _, _, rfl, rfl, h⟩
  · rw [if_pos (hasS_out h hx).1, if_pos (hasS_out h hx).2]
    exact ⟨_, _, _, rfl, rfl, h⟩
theorem RC.movr {σ τ : St} (c : RC σ τ) : R_mov σ τ := c.2.2.2.2.2.2.2.2.1
theorem moved_eq {σ τ : St} (h : Inv σ τ) {m j : Nat} (hm : m < nV τ) (hj : j < 3) : M_moveTells (nI m) (nI j) τ = some (Mv_figure m (nI j) σ) := by
  obtain ⟨e0, e1, e2⟩ := h.c.movr.2 m hm
  have hS := h.w.nV40
  have hi : inb (nI m) 40 = true := inb_nI (by omega) (by decide)
  have hc : (nI m).toNatClampNeg = m := nI_clamp (by omega)
  unfold M_moveTells Mv_figure
  rw [hc, e0, e1, e2]
  have h3 : j = 0 ∨ j = 1 ∨ j = 2 := by omega
  rcases h3 with e | e | e <;> subst e
  · simp only [hi, if_true, if_pos (show nI 0 = 0 from rfl)]
  · simp only [hi, if_true, if_neg (show ¬ nI 1 = 0 from by decide), if_pos (show nI 1 = 1 from rfl)]
  · simp only [hi, if_true, if_neg (show ¬ nI 2 = 0 from by decide), if_neg (show ¬ nI 2 = 1 from by decide)]
theorem mvN {σ τ : St} (h : Inv σ τ) : τ.1 0 0 33 = nI (nV τ) ∧ σ.1 4 0 1 = nI (nV τ) := by
  have e1 : τ.1 0 0 33 = nI (nV τ) := h.w.1.2.2.2.1
  exact ⟨e1, h.c.movr.1.trans e1⟩
theorem step_37 : Stp_37 Inv := by
  intro a1 a2 σ τ h
  unfold Q_moved M_moved
  have hV := h.w.nV40
  rw [(mvN h).1, (mvN h).2]
  by_cases hx : ∃ j, j < nV τ ∧ a1 = nI j
  · obtain ⟨m, hm, rfl⟩ := hx
    rw [if_neg (wiv hm (by omega)), if_neg (miv hm (by omega))]
    by_cases hy : ∃ j, j < 3 ∧ a2 = nI j
    · obtain ⟨j, hj, rfl⟩ := hy
      rw [if_neg (wi3 hj), if_neg (mi3 hj), moved_eq h hm hj, if_pos (inb_nI (by omega) (by decide)), nI_clamp (n := m) (by omega), Option.bind_some]
      exact ⟨_, _, _, rfl, rfl, Inv_tell h _⟩
    · rw [if_pos (wo3 hy), if_pos (mo3 hy)]
      exact ⟨_, _, _, rfl, rfl, h⟩
  · rw [if_pos (wov (by omega) hx), if_pos (mov (by omega) hx)]
    exact ⟨_, _, _, rfl, rfl, h⟩
theorem step_16 : Stp_16 Inv := by
  intro a1 a2 σ τ h
  unfold Q_answers M_answers M_isRule M_isSet
  by_cases hx : ∃ j, j < 244 ∧ a1 = nI j
  · obtain ⟨r, hr, rfl⟩ := hx
    rw [if_neg (wi244 hr), if_neg (mi244 hr)]
    by_cases hy : ∃ j, j < 32 ∧ a2 = nI j
    · obtain ⟨x, hxx, rfl⟩ := hy
      rw [if_neg (wi32 hxx), if_neg (mi32 hxx), Ru_verdict_eq h.c.rul.1 hr hxx, M_answer_eq hr hxx]
      exact ⟨_, _, _, ⟨rfl, rfl⟩, ⟨rfl, rfl⟩, h⟩
    · rw [if_pos (wo32 hy), if_pos (mo32 hy)]
      exact ⟨_, _, _, ⟨rfl, rfl⟩, ⟨rfl, rfl⟩, h⟩
  · rw [if_pos (wo244 hx), if_pos (mo244 hx)]
    exact ⟨_, _, _, ⟨rfl, rfl⟩, ⟨rfl, rfl⟩, h⟩
theorem caseTr_eq {σ τ : St} (w : WF τ) (c : RC σ τ) {s : Nat} (hs : s < nS τ) : Bk_caseTraits (nI s) σ = some (nI (sx τ s)) := by
  obtain ⟨t1, t2, t3, t4, t5, t6, t7, t8⟩ := c.tr w hs
  have hS := w.nS24
  unfold Bk_caseTraits
  rw [if_pos (inb_nI (by omega) (by decide)), nI_clamp (n := s) (by omega), t1, if_pos (inb_nI t2 (by decide)), nI_clamp (n := sc τ s) (by omega), t3]
theorem strainOf_eq {σ τ : St} (w : WF τ) (c : RC σ τ) {s r : Nat} (hs : s < nS τ) (hr : r < 244) : Bk_strainOf (nI s) (nI r) σ = some (stv (sl r (sx τ s) (sa τ s) (τ.1 21 0 s))) := by
  obtain ⟨t1, t2, t3, t4, t5, t6, t7, t8⟩ := c.tr w hs
  have hS := w.nS24
  unfold Bk_strainOf
  rw [if_pos (inb_nI (by omega) (by decide)), caseTr_eq w c hs, Option.bind_some, nI_clamp (n := s) (by omega), t5, t7, Ru_strain_eq c.rul.1 c.rul.2 hr t4 t6 t8, Option.bind_some]
theorem step_17 : Stp_17 Inv := by
  intro a1 a2 σ τ h
  unfold Q_fits M_fits M_isRule M_fits_J15
  by_cases hx : ∃ j, j < nS τ ∧ a1 = nI j
  · obtain ⟨s, hs, rfl⟩ := hx
    have hS := h.w.nS24
    obtain ⟨o1, ⟨o2, o3⟩, ⟨o4, o5⟩, ⟨o6, o7⟩, o8⟩ := wfS h.w hs
    rw [if_neg (hasS_in h hs).1, if_neg (hasS_in h hs).2]
    by_cases hy : ∃ j, j < 244 ∧ a2 = nI j
    · obtain ⟨r, hr, rfl⟩ := hy
      rw [if_neg (wi244 hr), if_neg (mi244 hr), strainOf_eq h.w h.c hs hr, if_pos (inb_nI (by omega) (by decide)), nI_clamp (n := s) (by omega), o2, if_pos (inb_nI o3 (by decide)), nI_clamp (n := sc τ s) (by omega), o4, M_fits_eq o1 hr o5 o6 o7 o8, Option.bind_some, Option.bind_some]
      refine ⟨_, _, _, ⟨rfl, rfl⟩, ⟨?_, rfl⟩, h⟩
      congr 1
      unfold sl stv
      cases hl : lk r (τ.1 21 0 s) with
      | false => simp
      | true =>
        by_cases hv : vd r (sx τ s) = sa τ s
        · simp [hv]
        · cases ha : am r (sx τ s) (sa τ s) <;> simp [hv]
    · rw [if_pos (wo244 hy), if_pos (mo244 hy)]
      exact ⟨_, _, _, ⟨rfl, rfl⟩, ⟨rfl, rfl⟩, h⟩
  · rw [if_pos (hasS_out h hx).1, if_pos (hasS_out h hx).2]
    exact ⟨_, _, _, ⟨rfl, rfl⟩, ⟨rfl, rfl⟩, h⟩
theorem stv_1 : ∀ c, c < 3 → stv c = nI 0 ||| (stv c <<< (nI 0 &&& 31)) := by decide +kernel
theorem sumOf_one {σ τ : St} (w : WF τ) (c : RC σ τ) (s r : Nat) : Bn_sumOf (stv (sl r (sx τ s) (sa τ s) (τ.1 21 0 s))) σ = nI (co τ s r) := by
  obtain ⟨a1, a2, a3, a4, a5, a6⟩ := c.prA w
  have hl := sl_le r (sx τ s) (sa τ s) (τ.1 21 0 s)
  obtain ⟨n, hn, hE⟩ := En_step (L := fun _ => sl r (sx τ s) (sa τ s) (τ.1 21 0 s)) (En_0 _) (by decide) hl
  rw [stv_1 _ (by omega), hn, sumOf_En a1 a3 a2 a4 (fun _ => hl) (by decide) hE]
  congr 1
  show 0 + _ = _
  rw [Nat.zero_add]
  rfl
theorem step_19 : Stp_19 Inv := by
  intro a1 a2 σ τ h
  unfold Q_costs M_costs M_isRule
  by_cases hx : ∃ j, j < nS τ ∧ a1 = nI j
  · obtain ⟨s, hs, rfl⟩ := hx
    rw [if_neg (hasS_in h hs).1, if_neg (hasS_in h hs).2]
    by_cases hy : ∃ j, j < 244 ∧ a2 = nI j
    · obtain ⟨r, hr, rfl⟩ := hy
      rw [if_neg (wi244 hr), if_neg (mi244 hr), strainOf_eq h.w h.c hs hr, M_costOf_eq (wfS h.w hs) (wfP h.w) hr, Option.bind_some, Option.bind_some, sumOf_one h.w h.c]
      exact ⟨_, _, _, ⟨rfl, rfl⟩, ⟨rfl, rfl⟩, h⟩
    · rw [if_pos (wo244 hy), if_pos (mo244 hy)]
      exact ⟨_, _, _, ⟨rfl, rfl⟩, ⟨rfl, rfl⟩, h⟩
  · rw [if_pos (hasS_out h hx).1, if_pos (hasS_out h hx).2]
    exact ⟨_, _, _, ⟨rfl, rfl⟩, ⟨rfl, rfl⟩, h⟩
