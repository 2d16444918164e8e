/-! ===== a new saying ===== -/
theorem newS_lp {n : Nat} (hn : n < 24) (t : St) (K : St → Option (Int32 × St)) : ∃ u, M_newSaying_L51 K (nI n) 1100 0 t = K u ∧ u.2 = t.2 ∧ ∀ kd q j, u.1 kd q j = if kd = 22 ∧ q = 0 ∧ 5 * n ≤ j ∧ j < 5 * n + 5 then -9 else t.1 kd q j := by
  refine lpU (fun f k u => M_newSaying_L51 K (nI n) f (nI k) u) (fun k u => u.2 = t.2 ∧ ∀ kd q j, u.1 kd q j = if kd = 22 ∧ q = 0 ∧ 5 * n ≤ j ∧ j < 5 * n + k then -9 else t.1 kd q j) K 5 ?_ ?_ (n := 1100) (s := t) (by decide) ⟨rfl, fun kd q j => by rw [if_neg (by omega)]⟩
  · intro f u hp
    show M_newSaying_L51 K (nI n) (f + 1) (nI 5) u = K u
    rw [M_newSaying_L51, if_pos (by decide)]
  · intro k f u hk hp
    refine ⟨sX u 22 0 (5 * n + k) (-9), ?_, hp.1, ?_⟩
    · show M_newSaying_L51 K (nI n) (f + 1) (nI k) u = M_newSaying_L51 K (nI n) f (nI (k + 1)) _
      rw [M_newSaying_L51, if_neg (g5 hk), ix5, if_pos (inb_nI (by omega) (by decide)), nI_clamp (by omega), nI_1]
    · intro kd m j
      rw [sX_at, hp.2]
      by_cases c : kd = 22 ∧ m = 0 ∧ j = 5 * n + k
      · rw [if_pos c, if_pos (by omega)]
      · rw [if_neg c]
        by_cases d : kd = 22 ∧ m = 0 ∧ 5 * n ≤ j ∧ j < 5 * n + k
        · rw [if_pos d, if_pos (by omega)]
        · rw [if_neg d, if_neg (by omega)]
theorem newS_eq {τ : St} {n : Nat} (hn : n < 24) (e16 : τ.1 0 0 16 = nI n) (v1 v2 v3 v4 v5 : Int32) : ∃ u, M_newSaying v1 v2 v3 v4 v5 τ = some (nI n, u) ∧ Fr pmsay τ u ∧ u.1 0 0 16 = nI (n + 1) ∧ (∀ s, u.1 17 0 s = if s = n then v1 else τ.1 17 0 s) ∧ (∀ s, u.1 18 0 s = if s = n then v2 else τ.1 18 0 s) ∧ (∀ s, u.1 19 0 s = if s = n then v3 else τ.1 19 0 s) ∧ (∀ s, u.1 20 0 s = if s = n then v4 else τ.1 20 0 s) ∧ (∀ s, u.1 21 0 s = if s = n then v5 else τ.1 21 0 s) ∧ ∀ j, u.1 22 0 j = if 5 * n ≤ j ∧ j < 5 * n + 5 then -9 else τ.1 22 0 j := by
  have hi : inb (nI n) 24 = true := inb_nI hn (by decide)
  obtain ⟨u, u1, u2, u3⟩ := newS_lp hn (sX (sX (sX (sX (sX τ 17 0 n v1) 18 0 n v2) 19 0 n v3) 20 0 n v4) 21 0 n v5) (fun (s_12 : St) => some (nI n, sX s_12 0 0 16 ((s_12.1 0 0 16) + 1)))
  have e16' : u.1 0 0 16 = nI n := by
    rw [u3, if_neg (by omega), sX_o (by omega), sX_o (by omega), sX_o (by omega), sX_o (by omega), sX_o (by omega)]; exact e16
  refine ⟨sX u 0 0 16 (nI (n + 1)), ?_, ⟨u2, ?_⟩, sX_s, ?_, ?_, ?_, ?_, ?_, ?_⟩
  · unfold M_newSaying
    rw [e16, if_pos hi, if_pos hi, if_pos hi, if_pos hi, if_pos hi, nI_clamp (n := n) (by omega), u1, e16', nI_1]
  · intro kd q j hp
    unfold pmsay at hp
    simp only [Bool.or_eq_false_iff, Bool.and_eq_false_iff, beq_eq_false_iff_ne] at hp
    rw [sX_o (by omega), u3, if_neg (by omega), sX_o (by omega), sX_o (by omega), sX_o (by omega), sX_o (by omega), sX_o (by omega)]
  · intro s
    rw [sX_o (by omega), u3, if_neg (by omega), sX_o (by omega), sX_o (by omega), sX_o (by omega), sX_o (by omega), sX_at]
    by_cases c : s = n <;> simp [c]
  · intro s
    rw [sX_o (by omega), u3, if_neg (by omega), sX_o (by omega), sX_o (by omega), sX_o (by omega), sX_at, sX_o (by omega)]
    by_cases c : s = n <;> simp [c]
  · intro s
    rw [sX_o (by omega), u3, if_neg (by omega), sX_o (by omega), sX_o (by omega), sX_at, sX_o (by omega), sX_o (by omega)]
    by_cases c : s = n <;> simp [c]
  · intro s
    rw [sX_o (by omega), u3, if_neg (by omega), sX_o (by omega), sX_at, sX_o (by omega), sX_o (by omega), sX_o (by omega)]
    by_cases c : s = n <;> simp [c]
  · intro s
    rw [sX_o (by omega), u3, if_neg (by omega), sX_at, sX_o (by omega), sX_o (by omega), sX_o (by omega), sX_o (by omega)]
    by_cases c : s = n <;> simp [c]
  · intro j
    rw [sX_o (by omega), u3]
    by_cases c : 5 * n ≤ j ∧ j < 5 * n + 5
    · rw [if_pos ⟨rfl, rfl, c⟩, if_pos c]
    · rw [if_neg (fun x => c x.2.2), if_neg c, sX_o (by omega), sX_o (by omega), sX_o (by omega), sX_o (by omega), sX_o (by omega)]
theorem addS_eq {σ : St} {n m k : Nat} (hn : n < 24) (hm : m < 8) (hk : k < 9) (e7 : σ.1 3 0 7 = nI n) (e5 : σ.1 22 m 5 = nI k) (v2 v3 v4 v5 : Int32) : ∃ t, Bk_addSaying (nI m) v2 v3 v4 v5 σ = some (nI n, t) ∧ Fr pcsay σ t ∧ t.1 3 0 7 = nI (n + 1) ∧ (∀ s j, t.1 26 s j = if s = n ∧ j = 0 then nI m else if s = n ∧ j = 1 then v2 else if s = n ∧ j = 2 then v3 else if s = n ∧ j = 3 then v4 else if s = n ∧ j = 4 then v5 else σ.1 26 s j) ∧ (∀ q j, t.1 23 q j = if q = m ∧ j = k then nI n else σ.1 23 q j) ∧ (∀ q, t.1 22 q 5 = if q = m then nI (k + 1) else σ.1 22 q 5) ∧ ∀ q, t.1 24 q 0 = if q = m then 0 else σ.1 24 q 0 := by
  have hi : inb (nI n) 24 = true := inb_nI hn (by decide)
  have hj : inb (nI m) 8 = true := inb_nI hm (by decide)
  have hl : inb (nI k) 9 = true := inb_nI hk (by decide)
  have hcn : (nI n).toNatClampNeg = n := nI_clamp (by omega)
  have hcm : (nI m).toNatClampNeg = m := nI_clamp (by omega)
  have hck : (nI k).toNatClampNeg = k := nI_clamp (by omega)
  refine ⟨sX (sX (sX (sX (sX (sX (sX (sX (sX σ 26 n 0 (nI m)) 26 n 1 v2) 26 n 2 v3) 26 n 3 v4) 26 n 4 v5) 23 m k (nI n)) 22 m 5 (nI (k + 1))) 24 m 0 0) 3 0 7 (nI (n + 1)), ?_, ?_, sX_s, ?_, ?_, ?_, ?_⟩
  · unfold Bk_addSaying
    rw [e7, if_pos hi, if_pos hj, hcn, hcm]
    have k5 : (sX (sX (sX (sX (sX σ 26 n 0 (nI m)) 26 n 1 v2) 26 n 2 v3) 26 n 3 v4) 26 n 4 v5).1 22 m 5 = nI k := by
      rw [sX_o (by omega), sX_o (by omega), sX_o (by omega), sX_o (by omega), sX_o (by omega)]; exact e5
    have k7 : (sX (sX (sX (sX (sX σ 26 n 0 (nI m)) 26 n 1 v2) 26 n 2 v3) 26 n 3 v4) 26 n 4 v5).1 3 0 7 = nI n := by
      rw [sX_o (by omega), sX_o (by omega), sX_o (by omega), sX_o (by omega), sX_o (by omega)]; exact e7
    generalize sX (sX (sX (sX (sX σ 26 n 0 (nI m)) 26 n 1 v2) 26 n 2 v3) 26 n 3 v4) 26 n 4 v5 = s5 at *
    rw [k5, if_pos hl, hck, k7]
    have l5 : (sX s5 23 m k (nI n)).1 22 m 5 = nI k := by rw [sX_o (by omega)]; exact k5
    rw [l5, nI_1]
    have l7 : (sX (sX (sX s5 23 m k (nI n)) 22 m 5 (nI (k + 1))) 24 m 0 0).1 3 0 7 = nI n := by
      rw [sX_o (by omega), sX_o (by omega), sX_o (by omega)]; exact k7
    rw [l7, nI_1, sX_s, nI_pred]
  · exact (((((((((Fr.rf _ _).st _ _ _ _ rfl).st _ _ _ _ rfl).st _ _ _ _ rfl).st _ _ _ _ rfl).st _ _ _ _ rfl).st _ _ _ _ rfl).st _ _ _ _ rfl).st _ _ _ _ rfl).st _ _ _ _ rfl
  · intro s j
    rw [sX_o (by omega), sX_o (by omega), sX_o (by omega), sX_o (by omega), sX_at, sX_at, sX_at, sX_at, sX_at]
    by_cases c : s = n
    · by_cases c0 : j = 0
      · simp [c, c0]
      · by_cases c1 : j = 1
        · simp [c, c1]
        · by_cases c2 : j = 2
          · simp [c, c2]
          · by_cases c3 : j = 3
            · simp [c, c3]
            · by_cases c4 : j = 4
              · simp [c, c4]
              · simp [c0, c1, c2, c3, c4]
    · simp [c]
  · intro q j
    rw [sX_o (by omega), sX_o (by omega), sX_o (by omega), sX_at, sX_o (by omega), sX_o (by omega), sX_o (by omega), sX_o (by omega), sX_o (by omega)]
    by_cases c : q = m ∧ j = k
    · rw [if_pos ⟨rfl, c.1, c.2⟩, if_pos c]
    · rw [if_neg (fun x => c x.2), if_neg c]
  · intro q
    rw [sX_o (by omega), sX_o (by omega), sX_at, sX_o (by omega), sX_o (by omega), sX_o (by omega), sX_o (by omega), sX_o (by omega), sX_o (by omega)]
    by_cases c : q = m
    · rw [if_pos ⟨rfl, c, rfl⟩, if_pos c]
    · rw [if_neg (fun x => c x.2.1), if_neg c]
  · intro q
    rw [sX_o (by omega), sX_at, sX_o (by omega), sX_o (by omega), sX_o (by omega), sX_o (by omega), sX_o (by omega), sX_o (by omega), sX_o (by omega)]
    by_cases c : q = m
    · rw [if_pos ⟨rfl, c, rfl⟩, if_pos c]
    · rw [if_neg (fun x => c x.2.1), if_neg c]
theorem new_say {σ τ : St} (h : Inv σ τ) {m c y a : Nat} {b : Int32} (hn : nS τ < 24) (hm : m < nM τ) (hk : kO τ m < 9) (hc : c < nC τ) (hy1 : tn (τ.1 13 0 m) ≤ y) (hy2 : y ≤ tn (τ.1 14 0 m)) (hyb : y < 1000) (ha : a < 2) (hb : okB b) : ∃ σ' τ', Bk_addSaying (nI m) (nI c) (nI y) (nI a) b σ = some (nI (nS τ), σ') ∧ M_newSaying (nI m) (nI c) (nI y) (nI a) b τ = some (nI (nS τ), τ') ∧ Inv σ' τ' ∧ Fr pcsay σ σ' ∧ Fr pmsay τ τ' ∧ nS τ' = nS τ + 1 ∧ kO τ' m = kO τ m + 1 := by
  have hM := h.w.nM8
  have hC := h.w.nC12
  have e16 : τ.1 0 0 16 = nI (nS τ) := h.w.1.2.2.1.1
  have e7 : σ.1 3 0 7 = nI (nS τ) := h.c.say.1.trans e16
  obtain ⟨τ', t0, ef, t16, t17, t18, t19, t20, t21, t22⟩ := newS_eq hn e16 (nI m) (nI c) (nI y) (nI a) b
  obtain ⟨σ', s0, ee, s7, s26, s23, s22, s24⟩ := addS_eq (m := m) hn (by omega) hk e7 (h.c.many (by omega)) (nI c) (nI y) (nI a) b
  have f10 : τ'.1 0 0 10 = τ.1 0 0 10 := ef.2 _ _ _ rfl
  have f12 : τ'.1 0 0 12 = τ.1 0 0 12 := ef.2 _ _ _ rfl
  have f33 : τ'.1 0 0 33 = τ.1 0 0 33 := ef.2 _ _ _ rfl
  have k11 : τ'.1 11 0 = τ.1 11 0 := ef.fn (fun j => rfl) 0
  have k13 : τ'.1 13 0 = τ.1 13 0 := ef.fn (fun j => rfl) 0
  have k14 : τ'.1 14 0 = τ.1 14 0 := ef.fn (fun j => rfl) 0
  have k24 : τ'.1 24 0 = τ.1 24 0 := ef.fn (fun j => rfl) 0
  have k34 : τ'.1 34 0 = τ.1 34 0 := ef.fn (fun j => rfl) 0
  have k35 : τ'.1 35 0 = τ.1 35 0 := ef.fn (fun j => rfl) 0
  have k36 : τ'.1 36 0 = τ.1 36 0 := ef.fn (fun j => rfl) 0
  have vS : nS τ' = nS τ + 1 := by
    have x : nS τ' = tn (nI (nS τ + 1)) := congrArg tn t16
    rw [x]; exact tn_nI (by omega)
  have vC : nC τ' = nC τ := by unfold nC; rw [f10]
  have vM : nM τ' = nM τ := by unfold nM; rw [f12]
  have vV : nV τ' = nV τ := by unfold nV; rw [f33]
  have wm : ∀ s, sm τ' s = if s = nS τ then m else sm τ s := by
    intro s
    unfold sm
    rw [t17]
    split
    · exact tn_nI (by omega)
    · rfl
  have wc : ∀ s, sc τ' s = if s = nS τ then c else sc τ s := by
    intro s
    unfold sc
    rw [t18]
    split
    · exact tn_nI (by omega)
    · rfl
  have wy : ∀ s, sy τ' s = if s = nS τ then y else sy τ s := by
    intro s
    unfold sy
    rw [t19]
    split
    · exact tn_nI (by omega)
    · rfl
  have wa : ∀ s, sa τ' s = if s = nS τ then a else sa τ s := by
    intro s
    unfold sa
    rw [t20]
    split
    · exact tn_nI (by omega)
    · rfl
  have wO : ∀ q s, s ≤ nS τ → nO τ' q s = nO τ q s := by
    intro q s hs
    unfold nO
    refine cnt_congr (fun i hi => ?_)
    rw [wm, if_neg (by omega)]
  have wk : ∀ q, kO τ' q = kO τ q + if m = q then 1 else 0 := by
    intro q
    unfold kO
    rw [vS, nO_s, wO q _ (Nat.le_refl _), wm, if_pos rfl]
  have wow : ∀ q i, i < kO τ q → ow τ' q i = ow τ q i := by
    intro q i hi
    obtain ⟨x1, x2, x3⟩ := ow_in hi
    have z1 : sm τ' (ow τ q i) = q := by rw [wm, if_neg (by omega)]; exact x2
    have z2 := ow_at (τ := τ') (m := q) (s := ow τ q i) (by omega) z1
    rw [wO q _ (by omega), x3] at z2
    exact z2
  refine ⟨σ', τ', s0, t0, ?_, ee, ef, vS, by rw [wk, if_pos rfl]⟩
  refine Inv_say h ee ef ?_ ?_ ?_ ?_ ?_ ?_ ?_ ?_
  · refine ⟨⟨?_, ?_⟩, ⟨?_, ?_⟩, ⟨?_, by omega⟩, ?_, ?_⟩
    · rw [f10, vC]; exact h.w.1.1.1
    · rw [vC]; exact h.w.1.1.2
    · rw [f12, vM]; exact h.w.1.2.1.1
    · rw [vM]; exact h.w.1.2.1.2
    · rw [t16, vS]
    · rw [f33, vV]; exact h.w.1.2.2.2.1
    · rw [vV]; exact h.w.1.2.2.2.2
  · intro s hs
    rw [vM, vC, wm, wc, wy, wa, t17, t18, t19, t20, t21, k13, k14]
    by_cases e : s = nS τ
    · simp only [if_pos e]
      exact ⟨⟨trivial, hm⟩, ⟨trivial, hc⟩, ⟨trivial, hy1, hy2⟩, ⟨trivial, ha⟩, hb⟩
    · simp only [if_neg e]
      exact h.w.say s (by omega)
  · intro q
    have : nO τ' q (nS τ') = kO τ' q := rfl
    rw [this, wk]
    have := h.w.k9 q
    split
    · rename_i e; subst e; omega
    · omega
  · intro i hi
    rw [t22]
    by_cases e : 5 * nS τ ≤ i ∧ i < 5 * nS τ + 5
    · rw [if_pos e]; exact Or.inl rfl
    · rw [if_neg e]; exact h.w.2.2.2.2.2.2.2.2.1 i (by omega)
  · have q := h.w.2.2.2.2.2.2.2.2.2
    simp only [W_mov, okMv, vV, vM, k34, k35, k36] at q ⊢
    intro k hk
    obtain ⟨kd, s, v, q1, q2, q3, q4, q5, q6⟩ := q k hk
    exact ⟨kd, s, v, q1, by omega, q3, q4, q5, by omega⟩
  · have q := h.c.say
    refine ⟨s7.trans t16.symm, ?_, ?_, ?_⟩
    · intro s hs
      rw [t17, t18, t19, t20, t21, s26, s26, s26, s26, s26]
      by_cases e : s = nS τ
      · simp [e]
      · simp only [e, false_and, if_false]
        exact q.2.1 s (by omega)
    · intro s hs k hk
      have e27 : σ'.1 27 s k = σ.1 27 s k := ee.2 _ _ _ rfl
      rw [e27, t22]
      by_cases e : s = nS τ
      · rw [if_pos (by omega)]; exact q.2.2.2 s (by omega) (by omega) k hk
      · rw [if_neg (by omega)]; exact q.2.2.1 s (by omega) k hk
    · intro s h1 h2 k hk
      have e27 : σ'.1 27 s k = σ.1 27 s k := ee.2 _ _ _ rfl
      rw [e27]; exact q.2.2.2 s (by omega) h2 k hk
  · have q := h.c.ownr
    refine ⟨?_, ?_⟩
    · intro p hp
      have e1 : nO τ' p (nS τ') = kO τ' p := rfl
      rw [s22, e1, wk]
      by_cases e : p = m
      · subst e; rw [if_pos rfl, if_pos rfl]
      · rw [if_neg e, if_neg (fun x => e x.symm), Nat.add_zero (kO τ p)]; exact q.1 p hp
    · intro s hs
      rw [s23, wm]
      by_cases e : s = nS τ
      · rw [if_pos e, if_pos]
        · rw [e]
        · refine ⟨rfl, ?_⟩
          rw [e]; exact wO m _ (Nat.le_refl _)
      · rw [if_neg e, wO _ _ (by omega), if_neg]
        · exact q.2 s (by omega)
        · rintro ⟨x1, x2⟩
          have := nO_lt τ (show s < nS τ by omega) (rfl : sm τ s = sm τ s)
          rw [x1] at this
          rw [x1] at x2
          unfold kO at x2
          omega
  · intro q hq
    by_cases e : q = m
    · left; rw [s24, if_pos e]
    · rcases h.2.2 q hq with x | ⟨x1, x2, x3⟩
      · left; rw [s24, if_neg e]; exact x
      · right
        have e24 : ∀ j, σ'.1 24 q j = σ.1 24 q j := by
          intro j
          by_cases ej : j = 0
          · subst ej; rw [s24, if_neg e]
          · refine ee.2 _ _ _ ?_
            unfold pcsay
            simp [ej]
        have e25 : σ'.1 25 q = σ.1 25 q := ee.fn (fun j => rfl) q
        refine ⟨by omega, by rw [e24]; exact x2, ?_⟩
        refine Mnd_s (σ := σ) (funext e24) e25 ?_
        have ekq : kO τ' q = kO τ q := by rw [wk, if_neg (fun z => e z.symm), Nat.add_zero (kO τ q)]
        refine Mnd_t ekq ?_ (by unfold pT; rw [k24]) x3
        intro i hi r
        have hs := (ow_in hi).1
        unfold cR
        rw [wow q i hi]
        have es : sx τ' (ow τ q i) = sx τ (ow τ q i) := by
          unfold sx cs
          rw [wc, if_neg (by omega), k11]
        unfold co pA pS
        rw [es, wa, if_neg (by omega), t21, if_neg (by omega), k24]
