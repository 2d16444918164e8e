/-! ===== follow ===== -/
theorem cnt_nth (p : Nat → Bool) : ∀ n i, i < cnt p n → ∃ r, r < n ∧ p r = true ∧ cnt p r = i := by
  intro n
  induction n with
  | zero => intro i h; exact absurd h (Nat.not_lt_zero _)
  | succ n ih =>
    intro i h
    have hc : cnt p (n + 1) = cnt p n + (if p n = true then 1 else 0) := rfl
    by_cases c : i < cnt p n
    · obtain ⟨r, h1, h2, h3⟩ := ih i c
      exact ⟨r, by omega, h2, h3⟩
    · by_cases e : p n = true
      · rw [if_pos e] at hc
        exact ⟨n, by omega, e, by omega⟩
      · rw [if_neg e] at hc
        omega
theorem cnt_inj (p : Nat → Bool) {a b : Nat} (ha : p a = true) (hb : p b = true) (h : cnt p a = cnt p b) : a = b := by
  by_cases c : a < b
  · have := cnt_lt p c ha; omega
  · by_cases d : b < a
    · have := cnt_lt p d hb; omega
    · omega
/-- whether a move (kd, y, v) answers an objection by the saying o -/
def cls (s τ : St) (kd y v o : Nat) : Bool :=
  if kd = 2 then (sx τ y ^^^ sx τ o).testBit v
  else if kd = 3 then decide (vr s (sx τ o) v = sa τ o)
  else if kd = 4 then anyB (fun r => chp τ (sm τ o) r && (decide (vd r (sx τ y ^^^ 2 ^ v) = sa τ y) && lk r (τ.1 21 0 y))) 244
  else if kd = 5 then decide (sm τ y = sm τ o) && (decide (sy τ y < v) != decide (sy τ o < v))
  else true
theorem fit_bI (a b : Bool) : (if (a = true ∧ b = true) then 1 else 0 : Int32) = bI (a && b) := by cases a <;> cases b <;> rfl
theorem someCheap_eq {t τ : St} (h : Inv t τ) {m y x : Nat} (hK : Mnd t τ m) (hy : y < nS τ) (hx : x < 32) : Pg_fitsSomeCheap y (nI x) m t = some (bI (anyB (fun r => chp τ m r && (decide (vd r x = sa τ y) && lk r (τ.1 21 0 y))) 244)) := by
  obtain ⟨t1, t2, t3, t4, t5, t6, t7, t8⟩ := h.c.tr h.w hy
  obtain ⟨-, k5, k25, -, -⟩ := hK
  have hle := cnt_le (chp τ m) 244
  unfold Pg_fitsSomeCheap
  refine lpE (fun n i (_ : Unit) => Pg_fitsSomeCheap_L3 y (nI x) m t n (nI i)) (fun i _ => ∀ r, r < 244 → chp τ m r = true → cnt (chp τ m) r < i → (decide (vd r x = sa τ y) && lk r (τ.1 21 0 y)) = false) (fun o => o = some (bI (anyB (fun r => chp τ m r && (decide (vd r x = sa τ y) && lk r (τ.1 21 0 y))) 244))) (cnt (chp τ m) 244) ?_ ?_ (cnt (chp τ m) 244) 0 1100 () (by omega) (by omega) (fun r _ _ hc => absurd hc (Nat.not_lt_zero _))
  · intro n _ hp
    show Pg_fitsSomeCheap_L3 y (nI x) m t (n + 1) (nI (cnt (chp τ m) 244)) = _
    rw [Pg_fitsSomeCheap_L3, k5, if_pos (nI_le (Nat.le_refl _) (by omega))]
    have : anyB (fun r => chp τ m r && (decide (vd r x = sa τ y) && lk r (τ.1 21 0 y))) 244 = false := by
      cases ha : anyB (fun r => chp τ m r && (decide (vd r x = sa τ y) && lk r (τ.1 21 0 y))) 244
      · rfl
      · obtain ⟨r, hr, hh⟩ := anyB_iff.mp ha
        rw [Bool.and_eq_true] at hh
        rw [hp r hr hh.1 (cnt_lt _ hr hh.1)] at hh
        exact absurd hh.2 (by decide)
    rw [this]; rfl
  · intro i n _ hi hp
    obtain ⟨r, hr, hc, he⟩ := cnt_nth (chp τ m) 244 i hi
    have e25 : t.1 25 m i = nI r := by rw [← he]; exact k25 r hr hc
    have hfit := Ru_fitting_eq h.c.rul.1 h.c.rul.2 hr hx t6 t8
    have hL : Pg_fitsSomeCheap_L3 y (nI x) m t (n + 1) (nI i) = if (decide (vd r x = sa τ y) && lk r (τ.1 21 0 y)) = true then some 1 else Pg_fitsSomeCheap_L3 y (nI x) m t n (nI (i + 1)) := by
      rw [Pg_fitsSomeCheap_L3, k5, if_neg (nI_ge hi (by omega)), if_pos (inb_nI (by omega) (by decide)), nI_clamp (n := i) (by omega), e25, t5, t7, hfit, Option.bind_some, nI_1]
      by_cases c : vd r x = sa τ y ∧ lk r (τ.1 21 0 y) = true
      · rw [if_pos c, if_neg (show ¬ (1 : Int32) = 0 by decide), if_pos (by rw [Bool.and_eq_true]; exact ⟨decide_eq_true c.1, c.2⟩)]
      · rw [if_neg c, if_pos rfl, if_neg (fun z => c (by rw [Bool.and_eq_true] at z; exact ⟨of_decide_eq_true z.1, z.2⟩))]
    cases hb : (decide (vd r x = sa τ y) && lk r (τ.1 21 0 y)) with
    | true =>
      left
      show Pg_fitsSomeCheap_L3 y (nI x) m t (n + 1) (nI i) = _
      rw [hL, hb, if_pos rfl, anyB_iff.mpr ⟨r, hr, by rw [hc, hb]; rfl⟩]
      rfl
    | false =>
      right
      refine ⟨(), ?_, ?_⟩
      · show Pg_fitsSomeCheap_L3 y (nI x) m t (n + 1) (nI i) = Pg_fitsSomeCheap_L3 y (nI x) m t n (nI (i + 1))
        rw [hL, hb, if_neg (by decide)]
      · intro r' hr' hc' hlt
        by_cases e : cnt (chp τ m) r' = i
        · have er := cnt_inj (chp τ m) hc hc' (he.trans e.symm)
          subst er; exact hb
        · exact hp r' hr' hc' (by omega)
theorem sy_b {σ τ : St} (h : Inv σ τ) {k : Nat} (hk : k < nS τ) : sm τ k < 8 ∧ sy τ k < 1000 := by
  have hM := h.w.nM8
  have h1 := (h.w.say k hk).1.2
  obtain ⟨a, b, x1, x2, x3, x4, -⟩ := life_at h h1
  have h2 := (h.w.say k hk).2.2.1.2.2
  rw [x4, tn_nI (by omega)] at h2
  omega
theorem two_bI {a b v : Nat} (ha : a < 1000) (hb : b < 1000) (hv : v < 1000) : (if (if nI v ≤ nI a then 0 else 1 : Int32) = (if nI v ≤ nI b then 0 else 1 : Int32) then 0 else 1 : Int32) = bI (decide (a < v) != decide (b < v)) := by
  have q1 := nI_leI (a := v) (b := a) (by omega) (by omega)
  have q2 := nI_leI (a := v) (b := b) (by omega) (by omega)
  by_cases c1 : a < v
  · rw [if_neg (show ¬ nI v ≤ nI a from fun z => by have := q1.mp z; omega), decide_eq_true c1]
    by_cases c2 : b < v
    · rw [if_neg (show ¬ nI v ≤ nI b from fun z => by have := q2.mp z; omega), decide_eq_true c2]; rfl
    · rw [if_pos (q2.mpr (by omega)), decide_eq_false c2]; rfl
  · rw [if_pos (q1.mpr (by omega)), decide_eq_false c1]
    by_cases c2 : b < v
    · rw [if_neg (show ¬ nI v ≤ nI b from fun z => by have := q2.mp z; omega), decide_eq_true c2]; rfl
    · rw [if_pos (q2.mpr (by omega)), decide_eq_false c2]; rfl
/-- what is known of a move -/
def okV (τ : St) (kd y v : Nat) : Prop := (kd = 0 ∨ kd = 6) ∧ v = 0 ∨ kd = 1 ∧ v < nS τ ∧ v ≠ y ∨ (kd = 2 ∨ kd = 4) ∧ v < 5 ∨ kd = 3 ∧ v < nM τ ∨ kd = 5 ∧ v < 1000
theorem closes_eq {t τ : St} (h : Inv t τ) (hK : ∀ m, m < nM τ → Mnd t τ m) {k kd y v o : Nat} (h2 : 2 ≤ kd) (h6 : kd ≤ 6) (hy : y < nS τ) (ho : o < nS τ) (hv : okV τ kd y v) (k0 : t.1 28 k 0 = nI kd) (k1 : t.1 28 k 1 = nI y) (k2 : t.1 28 k 2 = nI v) : Pg_closes k (nI o) t = some (bI (cls t τ kd y v o)) := by
  have hS := h.w.nS24
  have hM := h.w.nM8
  obtain ⟨t1, t2, t3, t4, t5, t6, t7, t8⟩ := h.c.tr h.w hy
  obtain ⟨r1, r2, r3, r4, r5, r6, r7, r8⟩ := h.c.tr h.w ho
  have hsy := (h.w.say y hy).1
  have hso := (h.w.say o ho).1
  have e0y : t.1 26 y 0 = nI (sm τ y) := (h.c.say.2.1 y hy).1.trans hsy.1
  have e0o : t.1 26 o 0 = nI (sm τ o) := (h.c.say.2.1 o ho).1.trans hso.1
  have e2y : t.1 26 y 2 = nI (sy τ y) := (h.c.say.2.1 y hy).2.2.1.trans (h.w.say y hy).2.2.1.1
  have e2o : t.1 26 o 2 = nI (sy τ o) := (h.c.say.2.1 o ho).2.2.1.trans (h.w.say o ho).2.2.1.1
  unfold Pg_closes
  rw [k0, k1, k2, if_pos (inb_nI (by omega) (by decide)), if_pos (inb_nI (by omega) (by decide)), caseTr_eq h.w h.c hy, Option.bind_some, caseTr_eq h.w h.c ho, Option.bind_some, nI_clamp (n := o) (by omega), nI_clamp (n := y) (by omega), e0y, e0o, e2y, e2o, r5]
  have hk5 : kd = 2 ∨ kd = 3 ∨ kd = 4 ∨ kd = 5 ∨ kd = 6 := by omega
  unfold okV at hv
  rcases hk5 with e | e | e | e | e <;> subst e
  · have hv : v < 5 := by omega
    rw [if_pos (show nI 2 = 2 from rfl), nI_xor (by omega) (by omega), may_eq (by omega), tb_nI (Nat.lt_trans (Nat.xor_lt_two_pow (n := 5) t4 r4) (by decide))]
    rfl
  · have hv : v < nM τ := by omega
    rw [if_neg (show ¬ nI 3 = 2 by decide), if_pos (show nI 3 = 3 from rfl), if_pos (inb_nI (by omega) (by decide)), nI_clamp (n := v) (by omega), (vr_eq h (hK v hv) r4).1, Option.bind_some]
    have q := nI_eq (a := vr t (sx τ o) v) (b := sa τ o) (by have := vd_01 (tn (t.1 24 v 2)) (sx τ o); unfold vr; omega) (by omega)
    unfold cls
    rw [if_neg (show ¬ (3 : Nat) = 2 by decide), if_pos (show (3 : Nat) = 3 from rfl)]
    by_cases c : vr t (sx τ o) v = sa τ o
    · rw [if_pos (q.mpr c), decide_eq_true c]; rfl
    · rw [if_neg (fun z => c (q.mp z)), decide_eq_false c]; rfl
  · have hv : v < 5 := by omega
    have hsm := hso.2
    rw [if_neg (show ¬ nI 4 = 2 by decide), if_neg (show ¬ nI 4 = 3 by decide), if_pos (show nI 4 = 4 from rfl), if_pos (inb_nI (by omega) (by decide)), nI_clamp (n := sm τ o) (by omega), xor_bit t4 hv, someCheap_eq h (hK _ hsm) hy (xor_lt t4 hv), Option.bind_some, if_pos (by cases anyB (fun r => chp τ (sm τ o) r && (decide (vd r (sx τ y ^^^ 2 ^ v) = sa τ y) && lk r (τ.1 21 0 y))) 244; exact Or.inl rfl; exact Or.inr rfl)]
    rfl
  · have hv : v < 1000 := by omega
    have b1 := sy_b h hy
    have b2 := sy_b h ho
    have q := nI_eq (a := sm τ y) (b := sm τ o) (by omega) (by omega)
    rw [if_neg (show ¬ nI 5 = 2 by decide), if_neg (show ¬ nI 5 = 3 by decide), if_neg (show ¬ nI 5 = 4 by decide), if_pos (show nI 5 = 5 from rfl), two_bI b1.2 b2.2 hv]
    unfold cls
    rw [if_neg (show ¬ (5 : Nat) = 2 by decide), if_neg (show ¬ (5 : Nat) = 3 by decide), if_neg (show ¬ (5 : Nat) = 4 by decide), if_pos (show (5 : Nat) = 5 from rfl)]
    by_cases c : sm τ y = sm τ o
    · rw [if_pos (q.mpr c), decide_eq_true c, Bool.true_and]
    · rw [if_neg (fun z => c (q.mp z)), decide_eq_false c, Bool.false_and]; rfl
  · rw [if_neg (show ¬ nI 6 = 2 by decide), if_neg (show ¬ nI 6 = 3 by decide), if_neg (show ¬ nI 6 = 4 by decide), if_neg (show ¬ nI 6 = 5 by decide)]
    rfl
def pDa (kd j : Nat) : Bool := kd == 25 || kd == 31 || kd == 0 && (j == 26 || j == 27 || j == 28 || j == 29 || j == 30)
theorem pDa_scr : ∀ k j, pScr k j = false → pDa k j = false := by
  intro k j h
  unfold pScr at h
  unfold pDa
  simp only [Bool.or_eq_false_iff, Bool.and_eq_false_iff, beq_eq_false_iff_ne] at h ⊢
  omega
theorem pSt_da : ∀ k j, pDa k j = false → pSt k j = false := by
  intro k j h
  unfold pDa at h
  unfold pSt
  simp only [Bool.or_eq_false_iff, Bool.and_eq_false_iff, beq_eq_false_iff_ne] at h ⊢
  omega
theorem pCh_da : ∀ k j, pDa k j = false → pCh k j = false := by
  intro k j h
  unfold pDa at h
  unfold pCh
  simp only [Bool.or_eq_false_iff, Bool.and_eq_false_iff, beq_eq_false_iff_ne] at h ⊢
  omega
theorem bI_01 (b : Bool) : bI b = 0 ∨ bI b = 1 := by cases b; exact Or.inl rfl; exact Or.inr rfl
theorem ans_lp {τ u : St} (w : WF τ) (hu : Fr pScr τ u) (K : Int32 → St → Option (Int32 × St)) (v1 v2 : Int32) {m y v : Nat} (hy : y < nS τ) (hv : v < 5) (hp : ∀ r, r < 244 → u.1 31 0 r = bI (chp τ m r)) : M_doesAnswer_L146 K v1 v2 (nI y) (nI v) 1100 0 0 u = K (bI (anyB (fun r => chp τ m r && (decide (vd r (sx τ y ^^^ 2 ^ v) = sa τ y) && lk r (τ.1 21 0 y))) 244)) u := by
  have hS := w.nS24
  obtain ⟨o1, ⟨o2, o3⟩, ⟨o4, o5⟩, ⟨o6, o7⟩, o8⟩ := wfS w hy
  have e18 : u.1 18 0 y = nI (sc τ y) := (hu.2 _ _ _ rfl).trans o2
  have e11 : u.1 11 0 (sc τ y) = nI (sx τ y) := (hu.2 _ _ _ rfl).trans o4
  have hE := hu.eqm
  have ea : sa u y = sa τ y := by rw [hE.v.2.2.2.2.2.2.2.1]
  have e20 : u.1 20 0 y = nI (sa u y) := by rw [ea]; exact (hu.2 _ _ _ rfl).trans o6
  have e21 : u.1 21 0 y = τ.1 21 0 y := hu.2 _ _ _ rfl
  refine lpF (fun n r (b : Int32) => M_doesAnswer_L146 K v1 v2 (nI y) (nI v) n b (nI r) u) (fun i => bI (anyB (fun r => chp τ m r && (decide (vd r (sx τ y ^^^ 2 ^ v) = sa τ y) && lk r (τ.1 21 0 y))) i)) _ 244 ?_ ?_ (n := 1100) (by decide)
  · intro n
    show M_doesAnswer_L146 K v1 v2 (nI y) (nI v) (n + 1) _ (nI 244) u = _
    rw [M_doesAnswer_L146, if_pos (by decide)]
  · intro r n hr
    show M_doesAnswer_L146 K v1 v2 (nI y) (nI v) (n + 1) (bI (anyB (fun r => chp τ m r && (decide (vd r (sx τ y ^^^ 2 ^ v) = sa τ y) && lk r (τ.1 21 0 y))) r)) (nI r) u = M_doesAnswer_L146 K v1 v2 (nI y) (nI v) n (bI (anyB (fun r => chp τ m r && (decide (vd r (sx τ y ^^^ 2 ^ v) = sa τ y) && lk r (τ.1 21 0 y))) r || (chp τ m r && (decide (vd r (sx τ y ^^^ 2 ^ v) = sa τ y) && lk r (τ.1 21 0 y))))) (nI (r + 1)) u
    have hf : M_doesFit (nI y) (nI (sx τ y ^^^ 2 ^ v)) (nI r) u = some (if vd r (sx τ y ^^^ 2 ^ v) = sa τ y ∧ lk r (τ.1 21 0 y) = true then 1 else 0) := by
      rw [M_fits_eq o1 hr (xor_lt o5 hv) e20 (by rw [ea]; exact o7) (by rw [e21]; exact o8), ea, e21]
    rw [M_doesAnswer_L146, if_neg (g244 hr)]
    unfold M_doesAnswer_J200
    rw [nI_1]
    cases anyB (fun r => chp τ m r && (decide (vd r (sx τ y ^^^ 2 ^ v) = sa τ y) && lk r (τ.1 21 0 y))) r
    · rw [if_pos (show bI false = 0 from rfl), if_pos (inb_nI hr (by decide)), nI_clamp (n := r) (by omega), hp r hr, Bool.false_or]
      cases chp τ m r
      · rw [if_pos (show bI false = 0 from rfl), Bool.false_and]; rfl
      · rw [if_neg (show ¬ bI true = 0 by decide), if_pos (inb_nI (by omega) (by decide)), nI_clamp (n := y) (by omega), e18, if_pos (inb_nI o3 (by decide)), nI_clamp (n := sc τ y) (by omega), e11, xor_bit o5 hv, hf, Option.bind_some, Bool.true_and]
        by_cases c : vd r (sx τ y ^^^ 2 ^ v) = sa τ y ∧ lk r (τ.1 21 0 y) = true
        · rw [if_pos c, if_neg (show ¬ (1 : Int32) = 0 by decide), decide_eq_true c.1, c.2]; rfl
        · rw [if_neg c, if_pos rfl]
          have : (decide (vd r (sx τ y ^^^ 2 ^ v) = sa τ y) && lk r (τ.1 21 0 y)) = false := by
            cases hb : (decide (vd r (sx τ y ^^^ 2 ^ v) = sa τ y) && lk r (τ.1 21 0 y))
            · rfl
            · rw [Bool.and_eq_true] at hb
              exact absurd ⟨of_decide_eq_true hb.1, hb.2⟩ c
          rw [this]; rfl
    · rw [if_neg (show ¬ bI true = 0 by decide), Bool.true_or]; rfl
theorem has_bI {z t : Nat} (hz : z < 32) (ht : t < 5) : M_has (nI z) (nI t) = bI (z.testBit t) := by
  rw [M_has_eq hz ht]; rfl
theorem answer_eq {s τ u : St} (h : Inv s τ) (hK : ∀ m, m < nM τ → Mnd s τ m) (hu : Fr pScr τ u) {k kd y v o : Nat} (hk : k < 40) (h1 : kd ≠ 1) (h6 : kd ≤ 6) (hy : y < nS τ) (ho : o < nS τ) (hv : okV τ kd y v) (k0 : τ.1 34 0 k = nI kd) (k1 : τ.1 35 0 k = nI y) (k2 : τ.1 36 0 k = nI v) : ∃ u', M_doesAnswer (nI k) (nI o) u = some (bI (if kd = 0 then false else cls s τ kd y v o), u') ∧ Fr pDa u u' := by
  have hS := h.w.nS24
  have hM := h.w.nM8
  obtain ⟨o1, ⟨o2, o3⟩, ⟨o4, o5⟩, ⟨o6, o7⟩, o8⟩ := wfS h.w hy
  obtain ⟨q1, ⟨q2, q3⟩, ⟨q4, q5⟩, ⟨q6, q7⟩, q8⟩ := wfS h.w ho
  have hi : inb (nI k) 40 = true := inb_nI hk (by decide)
  have hc : (nI k).toNatClampNeg = k := nI_clamp (by omega)
  have hiy : inb (nI y) 24 = true := inb_nI (by omega) (by decide)
  have hio : inb (nI o) 24 = true := inb_nI (by omega) (by decide)
  have hcy : (nI y).toNatClampNeg = y := nI_clamp (by omega)
  have hco : (nI o).toNatClampNeg = o := nI_clamp (by omega)
  have g : ∀ t, Fr pDa u t → t.1 34 0 k = nI kd ∧ t.1 18 0 y = nI (sc τ y) ∧ t.1 11 0 (sc τ y) = nI (sx τ y) ∧ t.1 18 0 o = nI (sc τ o) ∧ t.1 11 0 (sc τ o) = nI (sx τ o) ∧ t.1 20 0 o = nI (sa τ o) ∧ t.1 17 0 y = nI (sm τ y) ∧ t.1 17 0 o = nI (sm τ o) ∧ t.1 19 0 y = nI (sy τ y) ∧ t.1 19 0 o = nI (sy τ o) := by
    intro t ht
    have hf := hu.tr (ht.wk pDa_scr)
    exact ⟨(hf.2 _ _ _ rfl).trans k0, (hf.2 _ _ _ rfl).trans o2, (hf.2 _ _ _ rfl).trans o4, (hf.2 _ _ _ rfl).trans q2, (hf.2 _ _ _ rfl).trans q4, (hf.2 _ _ _ rfl).trans q6, (hf.2 _ _ _ rfl).trans (h.w.say y hy).1.1, (hf.2 _ _ _ rfl).trans (h.w.say o ho).1.1, (hf.2 _ _ _ rfl).trans (h.w.say y hy).2.2.1.1, (hf.2 _ _ _ rfl).trans (h.w.say o ho).2.2.1.1⟩
  obtain ⟨g1, g2, g3, g4, g5, g6, g7, g8, g9, g10⟩ := g u (Fr.rf _ _)
  have e35 : u.1 35 0 k = nI y := (hu.2 _ _ _ rfl).trans k1
  have e36 : u.1 36 0 k = nI v := (hu.2 _ _ _ rfl).trans k2
  -- the last three joins, where nothing is to do
  have J208 : ∀ (b : Bool) (t : St), Fr pDa u t → kd ≠ 5 → M_doesAnswer_J208 (nI k) (nI o) (nI y) (nI v) (bI b) t = some (bI b, t) := by
    intro b t ht h5
    unfold M_doesAnswer_J208
    have e5 : ¬ nI kd = 5 := fun z => h5 ((nI_eq (a := kd) (b := 5) (by omega) (by decide)).mp z)
    rw [if_pos hi, hc, (g t ht).1, if_neg e5, if_pos (bI_01 b)]
  have J123 : ∀ (b : Bool) (t : St), Fr pDa u t → kd ≠ 5 → kd ≠ 4 → M_doesAnswer_J123 (nI k) (nI o) (nI y) (nI v) (bI b) t = some (bI b, t) := by
    intro b t ht h5 h4
    unfold M_doesAnswer_J123
    have e4 : ¬ nI kd = 4 := fun z => h4 ((nI_eq (a := kd) (b := 4) (by omega) (by decide)).mp z)
    rw [if_pos hi, hc, (g t ht).1, if_neg e4, J208 b t ht h5]
  have J73 : ∀ (b : Bool) (t : St), Fr pDa u t → kd ≠ 5 → kd ≠ 4 → kd ≠ 3 → M_doesAnswer_J73 (nI k) (nI o) (nI y) (nI v) (bI b) t = some (bI b, t) := by
    intro b t ht h5 h4 h3
    unfold M_doesAnswer_J73
    have e3 : ¬ nI kd = 3 := fun z => h3 ((nI_eq (a := kd) (b := 3) (by omega) (by decide)).mp z)
    rw [if_pos hi, hc, (g t ht).1, if_neg e3, J123 b t ht h5 h4]
  unfold M_doesAnswer
  rw [if_pos hi, if_pos hi, if_pos hi, if_pos hi, hc, g1, e35, e36]
  have hk6 : kd = 0 ∨ kd = 2 ∨ kd = 3 ∨ kd = 4 ∨ kd = 5 ∨ kd = 6 := by omega
  unfold okV at hv
  rcases hk6 with e | e | e | e | e | e <;> subst e
  · rw [if_neg (show ¬ nI 0 = 2 by decide), if_neg (show ¬ nI 0 = 6 by decide)]
    exact ⟨u, J73 false u (Fr.rf _ _) (by decide) (by decide) (by decide), Fr.rf _ _⟩
  · have hv : v < 5 := by omega
    rw [if_pos (show nI 2 = 2 from rfl), if_pos hiy, hcy, g2, if_pos (inb_nI o3 (by decide)), if_pos hio, hco, g4, if_pos (inb_nI q3 (by decide)), nI_clamp (n := sc τ y) (by omega), nI_clamp (n := sc τ o) (by omega), g3, g5, nI_xor (by omega) (by omega), has_bI (Nat.xor_lt_two_pow (n := 5) o5 q5) hv]
    exact ⟨u, J73 _ u (Fr.rf _ _) (by decide) (by decide) (by decide), Fr.rf _ _⟩
  · have hv : v < nM τ := by omega
    obtain ⟨t, t1, t2, t3, t4, t5⟩ := settles_as h.w (m := v) (by omega) (hK v hv) hu
    have ht : Fr pDa u t := t2.wk pSt_da
    obtain ⟨x1, x2, x3, x4, x5, x6, x7, x8, x9, x10⟩ := g t ht
    rw [if_neg (show ¬ nI 3 = 2 by decide), if_neg (show ¬ nI 3 = 6 by decide)]
    unfold M_doesAnswer_J73
    rw [if_pos hi, hc, g1, if_pos (show nI 3 = 3 from rfl), t1, Option.bind_some, if_pos hio, hco, x4, if_pos (inb_nI q3 (by decide)), nI_clamp (n := sc τ o) (by omega), x5, t4, (vr_eq h (hK v hv) q5).2, Option.bind_some, if_pos hio, x6]
    have q := nI_eq (a := vr s (sx τ o) v) (b := sa τ o) (by have := vd_01 (tn (s.1 24 v 2)) (sx τ o); unfold vr; omega) (by omega)
    have eb : (if nI (vr s (sx τ o) v) = nI (sa τ o) then 1 else 0 : Int32) = bI (cls s τ 3 y v o) := by
      unfold cls
      rw [if_neg (show ¬ (3 : Nat) = 2 by decide), if_pos (show (3 : Nat) = 3 from rfl)]
      by_cases c : vr s (sx τ o) v = sa τ o
      · rw [if_pos (q.mpr c), decide_eq_true c]; rfl
      · rw [if_neg (fun z => c (q.mp z)), decide_eq_false c]; rfl
    rw [eb]
    exact ⟨t, J123 _ t ht (by decide) (by decide), ht⟩
  · have hv : v < 5 := by omega
    have hsm := (h.w.say o ho).1.2
    obtain ⟨t, t1, t2, t3⟩ := setCheap_as h.w (m := sm τ o) (by omega) hu
    have ht : Fr pDa u t := t2.wk pCh_da
    rw [if_neg (show ¬ nI 4 = 2 by decide), if_neg (show ¬ nI 4 = 6 by decide)]
    unfold M_doesAnswer_J73
    rw [if_pos hi, hc, g1, if_neg (show ¬ nI 4 = 3 by decide)]
    unfold M_doesAnswer_J123
    rw [if_pos hi, hc, g1, if_pos (show nI 4 = 4 from rfl), if_pos hio, hco, g8, t1, Option.bind_some, ans_lp h.w (hu.tr (ht.wk pDa_scr)) _ (nI k) (nI o) hy hv t3]
    exact ⟨t, J208 _ t ht (by decide), ht⟩
  · have hv : v < 1000 := by omega
    have b1 := sy_b h hy
    have b2 := sy_b h ho
    have q := nI_eq (a := sm τ y) (b := sm τ o) (by omega) (by omega)
    rw [if_neg (show ¬ nI 5 = 2 by decide), if_neg (show ¬ nI 5 = 6 by decide)]
    unfold M_doesAnswer_J73
    rw [if_pos hi, hc, g1, if_neg (show ¬ nI 5 = 3 by decide)]
    unfold M_doesAnswer_J123
    rw [if_pos hi, hc, g1, if_neg (show ¬ nI 5 = 4 by decide)]
    unfold M_doesAnswer_J208
    rw [if_pos hi, hc, g1, if_pos (show nI 5 = 5 from rfl), if_pos hiy, if_pos hio, hcy, hco, g7, g8, if_pos hiy, if_pos hio, g9, g10, two_bI b1.2 b2.2 hv]
    refine ⟨u, ?_, Fr.rf _ _⟩
    unfold cls
    rw [if_neg (show ¬ (5 : Nat) = 0 by decide), if_neg (show ¬ (5 : Nat) = 2 by decide), if_neg (show ¬ (5 : Nat) = 3 by decide), if_neg (show ¬ (5 : Nat) = 4 by decide), if_pos (show (5 : Nat) = 5 from rfl)]
    by_cases c : sm τ y = sm τ o
    · rw [if_pos (q.mpr c), decide_eq_true c, Bool.true_and]
    · rw [if_neg (fun z => c (q.mp z)), decide_eq_false c, Bool.false_and]; rfl
  · rw [if_neg (show ¬ nI 6 = 2 by decide), if_pos (show nI 6 = 6 from rfl)]
    exact ⟨u, J73 true u (Fr.rf _ _) (by decide) (by decide) (by decide), Fr.rf _ _⟩
