/-! ===== parts ===== -/
def pFt (z : Nat) : Nat → Int32
  | 0 => -9
  | d + 1 => if M_has (nI z) (nI (5 - (d + 1))) = 0 then pFt z d else nI (5 - (d + 1))
theorem ft_eq : ∀ z, z < 32 → Q_firstTrait (nI z) = some (pFt z 5) := by decide +kernel
theorem parts_lp (K : Int32 → St → Option (Int32 × St)) (z : Nat) (τ : St) : M_parts_L39 K (nI z) 1100 (-9) 4 τ = K (pFt z 5) τ := by
  refine lpF (fun n d (v : Int32) => M_parts_L39 K (nI z) n v (nI (5 - d) - 1) τ) (pFt z) _ 5 ?_ ?_ (n := 1100) (by decide)
  · intro n
    show M_parts_L39 K (nI z) (n + 1) _ (nI (5 - 5) - 1) τ = _
    rw [M_parts_L39, if_pos (by decide)]
  · intro d n hd
    show M_parts_L39 K (nI z) (n + 1) (pFt z d) (nI (5 - d) - 1) τ = M_parts_L39 K (nI z) n (if M_has (nI z) (nI (5 - (d + 1))) = 0 then pFt z d else nI (5 - (d + 1))) (nI (5 - (d + 1)) - 1) τ
    obtain ⟨y, hy⟩ : ∃ y, 5 - d = y + 1 := ⟨5 - d - 1, by omega⟩
    have hy2 : 5 - (d + 1) = y := by omega
    have e1 : nI y + (-1) = nI y - 1 := by rw [Int32.sub_eq_add_neg]
    rw [hy, hy2, nI_pred, M_parts_L39, if_neg (nI_pos (by omega)), e1]
theorem step_29 : Stp_29 Inv := by
  intro a1 a2 σ τ h
  unfold Q_parts M_parts
  have hC := h.w.nC12
  by_cases hx : ∃ j, j < nC τ ∧ a1 = nI j
  · obtain ⟨c, hc, rfl⟩ := hx
    rw [if_neg (hasC_in h hc).1, if_neg (hasC_in h hc).2]
    by_cases hy : ∃ j, j < nC τ ∧ a2 = nI j
    · obtain ⟨d, hd, rfl⟩ := hy
      obtain ⟨w1, w2⟩ := h.w.2.2.2.1 c hc
      obtain ⟨w3, w4⟩ := h.w.2.2.2.1 d hd
      have hz : cs τ c ^^^ cs τ d < 32 := Nat.xor_lt_two_pow (n := 5) w2 w4
      have hi : inb (nI c) 12 = true := inb_nI (by omega) (by decide)
      have hj : inb (nI d) 12 = true := inb_nI (by omega) (by decide)
      rw [if_neg (hasC_in h hd).1, if_neg (hasC_in h hd).2, if_pos hi, if_pos hj, if_pos hi, if_pos hj, nI_clamp (n := c) (by omega), nI_clamp (n := d) (by omega), h.c.case.2 c (by omega), h.c.case.2 d (by omega), w1, w3, nI_xor (by omega) (by omega), ft_eq _ hz, parts_lp, bits_bc _ hz]
      exact ⟨_, _, _, rfl, rfl, Inv_tell h _⟩
    · rw [if_pos (hasC_out h hy).1, if_pos (hasC_out h hy).2]
      exact ⟨_, _, _, rfl, rfl, h⟩
  · rw [if_pos (hasC_out h hx).1, if_pos (hasC_out h hx).2]
    exact ⟨_, _, _, rfl, rfl, h⟩
/-! ===== reading ===== -/
theorem g5 {i : Nat} (hi : i < 5) : ¬ (5 : Int32) ≤ nI i := nI_ge (b := 5) hi (by decide)
theorem cpR {σ τ : St} (h : Inv σ τ) {s : Nat} (hs : s < nS τ) (v : Int32) : Sy_copiesReading s v σ = some (nI (cnt (fun c => decide (τ.1 22 0 (5 * s + c) = v)) 5)) := by
  refine lpF (fun n c (k : Int32) => Sy_copiesReading_L4 s v σ n k (nI c)) (fun i => nI (cnt (fun c => decide (τ.1 22 0 (5 * s + c) = v)) i)) _ 5 ?_ ?_ (n := 1100) (by decide)
  · intro n
    show Sy_copiesReading_L4 s v σ (n + 1) _ (nI 5) = _
    rw [Sy_copiesReading_L4, if_pos (by decide)]
  · intro c n hc
    show Sy_copiesReading_L4 s v σ (n + 1) _ (nI c) = Sy_copiesReading_L4 s v σ n (nI (cnt (fun c => decide (τ.1 22 0 (5 * s + c) = v)) c + if decide (τ.1 22 0 (5 * s + c) = v) = true then 1 else 0)) (nI (c + 1))
    rw [Sy_copiesReading_L4, if_neg (g5 hc), if_pos (inb_nI hc (by decide)), nI_clamp (n := c) (by omega), h.c.say.2.2.1 s hs c hc]
    unfold Sy_copiesReading_J22
    by_cases e : τ.1 22 0 (5 * s + c) = v
    · rw [if_pos e, if_pos (decide_eq_true e), nI_1, nI_1]
    · rw [if_neg e, if_neg (fun z => e (of_decide_eq_true z)), nI_1]; rfl
theorem rdg_lp {τ : St} {s : Nat} (hs : s < 24) (K : Int32 → Int32 → St → Option (Int32 × St)) : M_reading_L17 K (nI s) 1100 0 0 0 τ = K (nI (cnt (fun c => decide (¬ τ.1 22 0 (5 * s + c) < 0)) 5)) (nI (cnt (fun c => decide (τ.1 22 0 (5 * s + c) = 1)) 5)) τ := by
  refine lpF (fun n c (p : Int32 × Int32) => M_reading_L17 K (nI s) n p.1 p.2 (nI c) τ) (fun i => (nI (cnt (fun c => decide (¬ τ.1 22 0 (5 * s + c) < 0)) i), nI (cnt (fun c => decide (τ.1 22 0 (5 * s + c) = 1)) i))) _ 5 ?_ ?_ (n := 1100) (by decide)
  · intro n
    show M_reading_L17 K (nI s) (n + 1) _ _ (nI 5) τ = _
    rw [M_reading_L17, if_pos (by decide)]
  · intro c n hc
    show M_reading_L17 K (nI s) (n + 1) (nI (cnt (fun c => decide (¬ τ.1 22 0 (5 * s + c) < 0)) c)) (nI (cnt (fun c => decide (τ.1 22 0 (5 * s + c) = 1)) c)) (nI c) τ = M_reading_L17 K (nI s) n (nI (cnt (fun c => decide (¬ τ.1 22 0 (5 * s + c) < 0)) c + if decide (¬ τ.1 22 0 (5 * s + c) < 0) = true then 1 else 0)) (nI (cnt (fun c => decide (τ.1 22 0 (5 * s + c) = 1)) c + if decide (τ.1 22 0 (5 * s + c) = 1) = true then 1 else 0)) (nI (c + 1)) τ
    have hi : inb (nI (5 * s + c)) 120 = true := inb_nI (by omega) (by decide)
    rw [M_reading_L17, if_neg (g5 hc), ix5, if_pos hi, if_pos hi, nI_clamp (n := 5 * s + c) (by omega), nI_1]
    have e1 : nI (cnt (fun c => decide (¬ τ.1 22 0 (5 * s + c) < 0)) c) + (if τ.1 22 0 (5 * s + c) < 0 then 0 else 1 : Int32) = nI (cnt (fun c => decide (¬ τ.1 22 0 (5 * s + c) < 0)) c + if decide (¬ τ.1 22 0 (5 * s + c) < 0) = true then 1 else 0) := by
      by_cases e : τ.1 22 0 (5 * s + c) < 0
      · rw [if_pos e, if_neg (show ¬ decide (¬ τ.1 22 0 (5 * s + c) < 0) = true from fun z => of_decide_eq_true z e), Int32.add_zero]; rfl
      · rw [if_neg e, if_pos (decide_eq_true e), nI_1]
    have e2 : nI (cnt (fun c => decide (τ.1 22 0 (5 * s + c) = 1)) c) + (if τ.1 22 0 (5 * s + c) = 1 then 1 else 0 : Int32) = nI (cnt (fun c => decide (τ.1 22 0 (5 * s + c) = 1)) c + if decide (τ.1 22 0 (5 * s + c) = 1) = true then 1 else 0) := by
      by_cases e : τ.1 22 0 (5 * s + c) = 1
      · rw [if_pos e, if_pos (decide_eq_true e), nI_1]
      · rw [if_neg e, if_neg (fun z => e (of_decide_eq_true z)), Int32.add_zero]; rfl
    rw [e1, e2]
theorem cp_sum {τ : St} {s n : Nat} (h : ∀ c, c < n → τ.1 22 0 (5 * s + c) = -9 ∨ τ.1 22 0 (5 * s + c) = 0 ∨ τ.1 22 0 (5 * s + c) = 1) : cnt (fun c => decide (¬ τ.1 22 0 (5 * s + c) < 0)) n = cnt (fun c => decide (τ.1 22 0 (5 * s + c) = 1)) n + cnt (fun c => decide (τ.1 22 0 (5 * s + c) = 0)) n := by
  induction n with
  | zero => rfl
  | succ n ih =>
    have i1 := ih (fun c hc => h c (by omega))
    have h1 : cnt (fun c => decide (¬ τ.1 22 0 (5 * s + c) < 0)) (n + 1) = cnt (fun c => decide (¬ τ.1 22 0 (5 * s + c) < 0)) n + if decide (¬ τ.1 22 0 (5 * s + n) < 0) = true then 1 else 0 := rfl
    have h2 : cnt (fun c => decide (τ.1 22 0 (5 * s + c) = 1)) (n + 1) = cnt (fun c => decide (τ.1 22 0 (5 * s + c) = 1)) n + if decide (τ.1 22 0 (5 * s + n) = 1) = true then 1 else 0 := rfl
    have h3 : cnt (fun c => decide (τ.1 22 0 (5 * s + c) = 0)) (n + 1) = cnt (fun c => decide (τ.1 22 0 (5 * s + c) = 0)) n + if decide (τ.1 22 0 (5 * s + n) = 0) = true then 1 else 0 := rfl
    rw [h1, h2, h3]
    rcases h n (by omega) with e | e | e <;> rw [e]
    · rw [if_neg (by decide), if_neg (by decide), if_neg (by decide)]; omega
    · rw [if_pos (by decide), if_neg (by decide), if_pos (by decide)]; omega
    · rw [if_pos (by decide), if_pos (by decide), if_neg (by decide)]; omega
theorem step_33 : Stp_33 Inv := by
  intro a1 σ τ h
  unfold Q_reading M_reading
  by_cases hx : ∃ j, j < nS τ ∧ a1 = nI j
  · obtain ⟨s, hs, rfl⟩ := hx
    have hS := h.w.nS24
    have hi : inb (nI s) 24 = true := inb_nI (by omega) (by decide)
    have e3 := (h.c.say.2.1 s hs).2.2.2.1
    have hcp := cp_sum (τ := τ) (s := s) (n := 5) (fun c hc => h.w.2.2.2.2.2.2.2.2.1 _ (by omega))
    have b1 := cnt_le (fun c => decide (τ.1 22 0 (5 * s + c) = 1)) 5
    have b2 := cnt_le (fun c => decide (τ.1 22 0 (5 * s + c) = 0)) 5
    rw [if_neg (hasS_in h hs).1, if_neg (hasS_in h hs).2, if_pos hi, nI_clamp (n := s) (by omega), cpR h hs, Option.bind_some, cpR h hs, Option.bind_some, rdg_lp (by omega), e3, hcp]
    generalize cnt (fun c => decide (τ.1 22 0 (5 * s + c) = 1)) 5 = o at *
    generalize cnt (fun c => decide (τ.1 22 0 (5 * s + c) = 0)) 5 = z at *
    have e2 : (2 : Int32) * nI o = nI (2 * o) := pk_mul 2 o
    have q1 := nI_eq (a := 2 * o) (b := o + z) (by omega) (by omega)
    have q2 := nI_leI (a := 2 * o) (b := o + z) (by omega) (by omega)
    have q3 := nI_eq (a := o) (b := z) (by omega) (by omega)
    have q4 := nI_leI (a := o) (b := z) (by omega) (by omega)
    rw [e2, nI_add]
    by_cases c1 : o = z
    · rw [if_pos (q1.mpr (by omega)), if_pos (q3.mpr c1), if_pos hi]
      exact ⟨_, _, _, rfl, rfl, Inv_tell h _⟩
    · rw [if_neg (show ¬ nI (2 * o) = nI (o + z) from fun x => c1 (by have := q1.mp x; omega)), if_neg (show ¬ nI o = nI z from fun x => c1 (q3.mp x))]
      by_cases c2 : o ≤ z
      · rw [if_pos (q2.mpr (by omega)), if_pos (q4.mpr c2)]
        exact ⟨_, _, _, rfl, rfl, Inv_tell h _⟩
      · rw [if_neg (show ¬ nI (2 * o) ≤ nI (o + z) from fun x => c2 (by have := q2.mp x; omega)), if_neg (show ¬ nI o ≤ nI z from fun x => c2 (q4.mp x))]
        exact ⟨_, _, _, rfl, rfl, Inv_tell h _⟩
  · rw [if_pos (hasS_out h hx).1, if_pos (hasS_out h hx).2]
    exact ⟨_, _, _, rfl, rfl, h⟩
/-! ===== can ===== -/
def yrs (τ : St) (M : Nat) : Nat → Option (Nat × Nat)
  | 0 => none
  | s + 1 => if M.testBit (sm τ s) = true then (match yrs τ M s with
    | none => some (sy τ s, sy τ s)
    | some p => some (if sy τ s < p.1 then sy τ s else p.1, if p.2 < sy τ s then sy τ s else p.2)) else yrs τ M s
def yC : Option (Nat × Nat) → Int32 × Int32
  | none => (1000, -1)
  | some p => (nI p.1, nI p.2)
def yR : Option (Nat × Nat) → Int32 × Int32
  | none => (1000000, -9)
  | some p => (nI p.1, nI p.2)
theorem yrs_b {σ τ : St} (h : Inv σ τ) (M : Nat) : ∀ n p, n ≤ nS τ → yrs τ M n = some p → p.1 ≤ p.2 ∧ p.2 < 1000 := by
  intro n
  induction n with
  | zero => intro p _ hp; exact absurd hp (by simp [yrs])
  | succ n ih =>
    intro p hn hp
    have hb := (sy_b h (show n < nS τ by omega)).2
    unfold yrs at hp
    by_cases c : M.testBit (sm τ n) = true
    · rw [if_pos c] at hp
      cases e : yrs τ M n with
      | none =>
        rw [e] at hp
        simp at hp
        rw [← hp]
        exact ⟨Nat.le_refl _, hb⟩
      | some q =>
        rw [e] at hp
        simp at hp
        obtain ⟨i1, i2⟩ := ih q (by omega) e
        rw [← hp]
        dsimp only
        constructor
        · split <;> split <;> omega
        · split <;> omega
    · rw [if_neg c] at hp
      exact ih p (by omega) hp
theorem bit8 : ∀ M, M < 256 → ∀ m, m < 8 → (ush (nI M) (nI m)) &&& 1 = bI (M.testBit m) ∧ M_has (nI M) (nI m) = bI (M.testBit m) := by decide +kernel
theorem apart_eq {σ τ : St} (h : Inv σ τ) {M : Nat} (hM : M < 256) : Bk_yearsApart (nI M) σ = some (imax 0 ((yC (yrs τ M (nS τ))).2 - (yC (yrs τ M (nS τ))).1)) := by
  have hS := h.w.nS24
  have e7 : σ.1 3 0 7 = nI (nS τ) := h.c.say.1.trans h.w.1.2.2.1.1
  refine lpF (fun n s (p : Int32 × Int32) => Bk_yearsApart_L9 (nI M) σ n p.1 p.2 (nI s)) (fun i => yC (yrs τ M i)) _ (nS τ) ?_ ?_ (n := 1100) (by omega)
  · intro n
    show Bk_yearsApart_L9 (nI M) σ (n + 1) _ _ (nI (nS τ)) = _
    rw [Bk_yearsApart_L9, e7, if_pos (nI_le (Nat.le_refl _) (by omega))]
  · intro s n hs
    show Bk_yearsApart_L9 (nI M) σ (n + 1) (yC (yrs τ M s)).1 (yC (yrs τ M s)).2 (nI s) = Bk_yearsApart_L9 (nI M) σ n (yC (yrs τ M (s + 1))).1 (yC (yrs τ M (s + 1))).2 (nI (s + 1))
    obtain ⟨b1, b2⟩ := sy_b h hs
    have e0 : σ.1 26 s 0 = nI (sm τ s) := (h.c.say.2.1 s hs).1.trans (h.w.say s hs).1.1
    have e2 : σ.1 26 s 2 = nI (sy τ s) := (h.c.say.2.1 s hs).2.2.1.trans (h.w.say s hs).2.2.1.1
    have hi : inb (nI s) 24 = true := inb_nI (by omega) (by decide)
    have hy : yrs τ M (s + 1) = if M.testBit (sm τ s) = true then (match yrs τ M s with
      | none => some (sy τ s, sy τ s)
      | some p => some (if sy τ s < p.1 then sy τ s else p.1, if p.2 < sy τ s then sy τ s else p.2)) else yrs τ M s := rfl
    rw [Bk_yearsApart_L9, e7, if_neg (nI_ge hs (by omega)), if_pos hi, nI_clamp (n := s) (by omega), e0, (bit8 M hM _ b1).1, if_pos hi, if_pos hi, e2]
    unfold Bk_yearsApart_J68
    rw [nI_1, hy]
    cases hb : M.testBit (sm τ s)
    · rw [if_pos (show bI false = 0 from rfl), if_neg (by decide)]
    · rw [if_neg (show ¬ bI true = 0 by decide), if_pos rfl]
      cases e : yrs τ M s with
      | none =>
        have a1 : imin 1000 (nI (sy τ s)) = nI (sy τ s) := by
          have := imin_nI (a := 1000) (b := sy τ s) (by decide) (by omega)
          rw [if_pos b2] at this
          exact this
        have a2 : imax (-1) (nI (sy τ s)) = nI (sy τ s) := by
          unfold imax
          rw [if_pos]
          rw [Int32.lt_iff_toInt_lt, nI_toInt (by omega), show (-1 : Int32).toInt = -1 from by decide]
          omega
        show Bk_yearsApart_L9 (nI M) σ n (imin 1000 (nI (sy τ s))) (imax (-1) (nI (sy τ s))) (nI (s + 1)) = Bk_yearsApart_L9 (nI M) σ n (nI (sy τ s)) (nI (sy τ s)) (nI (s + 1))
        rw [a1, a2]
      | some p =>
        obtain ⟨p1, p2⟩ := yrs_b h M s p (by omega) e
        show Bk_yearsApart_L9 (nI M) σ n (imin (nI p.1) (nI (sy τ s))) (imax (nI p.2) (nI (sy τ s))) (nI (s + 1)) = Bk_yearsApart_L9 (nI M) σ n (nI (if sy τ s < p.1 then sy τ s else p.1)) (nI (if p.2 < sy τ s then sy τ s else p.2)) (nI (s + 1))
        rw [imin_nI (by omega) (by omega), imax_nI (by omega) (by omega)]
theorem can_lp {σ τ : St} (h : Inv σ τ) {M : Nat} (hM : M < 256) (K : Int32 → Int32 → St → Option (Int32 × St)) : M_can_L26 K (nI M) 1100 1000000 (-9) 0 τ = K (yR (yrs τ M (nS τ))).1 (yR (yrs τ M (nS τ))).2 τ := by
  have hS := h.w.nS24
  have e16 : τ.1 0 0 16 = nI (nS τ) := h.w.1.2.2.1.1
  refine lpF (fun n s (p : Int32 × Int32) => M_can_L26 K (nI M) n p.1 p.2 (nI s) τ) (fun i => yR (yrs τ M i)) _ (nS τ) ?_ ?_ (n := 1100) (by omega)
  · intro n
    show M_can_L26 K (nI M) (n + 1) _ _ (nI (nS τ)) τ = _
    rw [M_can_L26, e16, if_pos (nI_le (Nat.le_refl _) (by omega))]
  · intro s n hs
    show M_can_L26 K (nI M) (n + 1) (yR (yrs τ M s)).1 (yR (yrs τ M s)).2 (nI s) τ = M_can_L26 K (nI M) n (yR (yrs τ M (s + 1))).1 (yR (yrs τ M (s + 1))).2 (nI (s + 1)) τ
    obtain ⟨b1, b2⟩ := sy_b h hs
    have e0 : τ.1 17 0 s = nI (sm τ s) := (h.w.say s hs).1.1
    have e2 : τ.1 19 0 s = nI (sy τ s) := (h.w.say s hs).2.2.1.1
    have hi : inb (nI s) 24 = true := inb_nI (by omega) (by decide)
    have hy : yrs τ M (s + 1) = if M.testBit (sm τ s) = true then (match yrs τ M s with
      | none => some (sy τ s, sy τ s)
      | some p => some (if sy τ s < p.1 then sy τ s else p.1, if p.2 < sy τ s then sy τ s else p.2)) else yrs τ M s := rfl
    rw [M_can_L26, e16, if_neg (nI_ge hs (by omega)), if_pos hi, nI_clamp (n := s) (by omega), e0, (bit8 M hM _ b1).2, if_pos hi, if_pos hi, e2]
    unfold M_can_J71 M_can_J94 M_can_J95
    rw [if_pos hi, if_pos hi, if_pos hi, if_pos hi, nI_clamp (n := s) (by omega), e2, nI_1, hy]
    cases hb : M.testBit (sm τ s)
    · rw [if_pos (show bI false = 0 from rfl), if_neg (by decide)]
    · rw [if_neg (show ¬ bI true = 0 by decide), if_pos rfl]
      cases e : yrs τ M s with
      | none =>
        have c1 : ¬ (1000000 : Int32) ≤ nI (sy τ s) := nI_ge (b := 1000000) (by omega) (by decide)
        have c2 : ¬ nI (sy τ s) ≤ -9 := by
          rw [Int32.le_iff_toInt_le, nI_toInt (by omega), show (-9 : Int32).toInt = -9 from by decide]
          omega
        show (if (1000000 : Int32) ≤ nI (sy τ s) then (if nI (sy τ s) ≤ -9 then M_can_L26 K (nI M) n 1000000 (-9) (nI (s + 1)) τ else M_can_L26 K (nI M) n 1000000 (nI (sy τ s)) (nI (s + 1)) τ) else (if nI (sy τ s) ≤ -9 then M_can_L26 K (nI M) n (nI (sy τ s)) (-9) (nI (s + 1)) τ else M_can_L26 K (nI M) n (nI (sy τ s)) (nI (sy τ s)) (nI (s + 1)) τ)) = M_can_L26 K (nI M) n (nI (sy τ s)) (nI (sy τ s)) (nI (s + 1)) τ
        rw [if_neg c1, if_neg c2]
      | some p =>
        obtain ⟨p1, p2⟩ := yrs_b h M s p (by omega) e
        have l1 := nI_leI (a := p.1) (b := sy τ s) (by omega) (by omega)
        have l2 := nI_leI (a := sy τ s) (b := p.2) (by omega) (by omega)
        show (if nI p.1 ≤ nI (sy τ s) then (if nI (sy τ s) ≤ nI p.2 then M_can_L26 K (nI M) n (nI p.1) (nI p.2) (nI (s + 1)) τ else M_can_L26 K (nI M) n (nI p.1) (nI (sy τ s)) (nI (s + 1)) τ) else (if nI (sy τ s) ≤ nI p.2 then M_can_L26 K (nI M) n (nI (sy τ s)) (nI p.2) (nI (s + 1)) τ else M_can_L26 K (nI M) n (nI (sy τ s)) (nI (sy τ s)) (nI (s + 1)) τ)) = M_can_L26 K (nI M) n (nI (if sy τ s < p.1 then sy τ s else p.1)) (nI (if p.2 < sy τ s then sy τ s else p.2)) (nI (s + 1)) τ
        by_cases d1 : p.1 ≤ sy τ s
        · rw [if_pos (l1.mpr d1), if_neg (show ¬ sy τ s < p.1 by omega)]
          by_cases d2 : sy τ s ≤ p.2
          · rw [if_pos (l2.mpr d2), if_neg (show ¬ p.2 < sy τ s by omega)]
          · rw [if_neg (fun z => d2 (l2.mp z)), if_pos (show p.2 < sy τ s by omega)]
        · rw [if_neg (fun z => d1 (l1.mp z)), if_pos (show sy τ s < p.1 by omega)]
          by_cases d2 : sy τ s ≤ p.2
          · rw [if_pos (l2.mpr d2), if_neg (show ¬ p.2 < sy τ s by omega)]
          · rw [if_neg (fun z => d2 (l2.mp z)), if_pos (show p.2 < sy τ s by omega)]
theorem pow_shl9 : ∀ n, n < 9 → (1 : Int32) <<< (nI n &&& 31) = nI (2 ^ n) ∧ 2 ^ n ≤ 256 := by decide +kernel
theorem step_31 : Stp_31 Inv := by
  intro a1 σ τ h
  unfold Q_can M_can
  have hM := h.w.nM8
  rw [nMs h, nMt h.w (Fr.rf _ τ), (pow_shl9 (nM τ) (by omega)).1]
  have hp := (pow_shl9 (nM τ) (by omega)).2
  by_cases h0 : a1 ≤ 0
  · have h1 : a1 < 1 := by
      rw [Int32.lt_iff_toInt_lt]
      rw [Int32.le_iff_toInt_le] at h0
      rw [show (1 : Int32).toInt = 1 from by decide]
      rw [show (0 : Int32).toInt = 0 from by decide] at h0
      omega
    rw [if_pos h0, if_pos h1]
    exact ⟨_, _, _, rfl, rfl, h⟩
  · have h1 : ¬ a1 < 1 := by
      rw [Int32.lt_iff_toInt_lt]
      rw [Int32.le_iff_toInt_le] at h0
      rw [show (1 : Int32).toInt = 1 from by decide]
      rw [show (0 : Int32).toInt = 0 from by decide] at h0
      omega
    rw [if_neg h0, if_neg h1]
    obtain ⟨M, hMM, rfl⟩ := nI_of (x := a1) (fun z => h0 (Int32.le_of_lt z))
    have q := nI_ltI (a := M) (b := 2 ^ nM τ) hMM (by omega)
    by_cases c : M < 2 ^ nM τ
    · rw [if_pos (q.mpr c), if_pos (q.mpr c), apart_eq h (by omega), Option.bind_some, can_lp h (by omega)]
      cases e : yrs τ M (nS τ) with
      | none => exact ⟨_, _, _, rfl, rfl, Inv_tell h _⟩
      | some p =>
        obtain ⟨p1, p2⟩ := yrs_b h M _ p (Nat.le_refl _) e
        have e1 : (yC (some p)).2 - (yC (some p)).1 = nI (p.2 - p.1) := pk_sub p1
        have e2 : (yR (some p)).2 - (yR (some p)).1 = nI (p.2 - p.1) := pk_sub p1
        have e3 : imax 0 (nI (p.2 - p.1)) = nI (p.2 - p.1) := by
          have := imax_nI (a := 0) (b := p.2 - p.1) (by decide) (by omega)
          rw [show (0 : Int32) = nI 0 from rfl, this]
          congr 1
          split <;> omega
        rw [e1, e3, e2, if_pos (show (0 : Int32) ≤ (yR (some p)).2 from nI_pos' (n := p.2) (by omega))]
        exact ⟨_, _, _, rfl, rfl, Inv_tell h _⟩
    · rw [if_neg (fun z => c (q.mp z)), if_neg (fun z => c (q.mp z))]
      exact ⟨_, _, _, rfl, rfl, h⟩
