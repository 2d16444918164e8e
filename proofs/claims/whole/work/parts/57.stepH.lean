/-! ===== mark ===== -/
theorem nI_xor {a b : Nat} (ha : a < 2 ^ 31) (hb : b < 2 ^ 31) : nI a ^^^ nI b = nI (a ^^^ b) := by
  apply Int32.toBitVec_inj.mp
  apply BitVec.eq_of_toNat_eq
  have h : a ^^^ b < 2 ^ 31 := Nat.xor_lt_two_pow ha hb
  rw [Int32.toBitVec_xor, BitVec.toNat_xor, pk_tn (n := a) (by omega), pk_tn (n := b) (by omega), pk_tn (by omega)]
theorem bits_bc : ∀ z, z < 32 → M_bits (nI z) = some (Int_bitCount (nI z)) := by decide +kernel
theorem mk_out {v : Int32} (hx : ¬ ∃ j, 1 ≤ j ∧ j < 7 ∧ v = nI j) : M_in v 1 6 = 0 ∧ (Q_within v 7 = 0 ∨ v = 0) := by
  by_cases hy : ∃ j, j < 7 ∧ v = nI j
  · obtain ⟨j, hj, rfl⟩ := hy
    have e : j = 0 := by
      by_cases c : j = 0
      · exact c
      · exact absurd ⟨j, by omega, hj, rfl⟩ hx
    subst e
    exact ⟨by decide, Or.inr rfl⟩
  · refine ⟨?_, Or.inl (wo7 hy)⟩
    unfold M_in
    by_cases h1 : v < 1
    · rw [if_pos h1]
    · rw [if_neg h1]
      by_cases h2 : 6 < v
      · rw [if_pos h2]
      · exfalso
        obtain ⟨j, hj, rfl⟩ := nI_of2 (M := 6) (n := 6) (by decide) (fun x => h1 (Int32.lt_trans x (by decide))) (Int32.not_lt.mp h2)
        exact hy ⟨j, by omega, rfl⟩
theorem mk_in : ∀ j, j < 7 → 1 ≤ j → ¬ M_in (nI j) 1 6 = 0 ∧ ¬ nI j = 0 := by decide +kernel
theorem shA {x t : Nat} (hx : x < 32) (ht : t < 5) : (ush (nI x) (nI t)) &&& 1 = (if M_has (nI x) (nI t) = 0 then 0 else 1 : Int32) := by
  have h : ∀ x, x < 32 → ∀ t, t < 5 → (ush (nI x) (nI t)) &&& 1 = (if M_has (nI x) (nI t) = 0 then 0 else 1 : Int32) := by decide +kernel
  exact h x hx t ht
theorem sfrom_eq {s τ u : St} (h : Inv s τ) (hu : Fr pScr τ u) {y v : Nat} (hy : y < nS τ) (hv : v < 1000) : Pg_sayingsFrom (nI (sm τ y)) (nI v) s = some (nI (cnt (fun k => decide (sm τ k = sm τ y) && decide (v ≤ sy τ k)) (nS τ))) ∧ M_mark_L170 (nI y) (nI v) 1100 0 0 u = some (nI (cnt (fun k => decide (sm τ k = sm τ y) && decide (v ≤ sy τ k)) (nS τ)), u) := by
  have hS := h.w.nS24
  have hM := h.w.nM8
  have e7 : s.1 3 0 7 = nI (nS τ) := h.c.say.1.trans h.w.1.2.2.1.1
  have e16 : u.1 0 0 16 = nI (nS τ) := (hu.2 _ _ _ rfl).trans h.w.1.2.2.1.1
  have hb : ∀ k, k < nS τ → sm τ k < 8 ∧ sy τ k < 1000 := by
    intro k hk
    have h1 := (h.w.say k hk).1.2
    obtain ⟨a, b, x1, x2, x3, x4, -⟩ := life_at h h1
    have h2 := (h.w.say k hk).2.2.1.2.2
    rw [x4, tn_nI (by omega)] at h2
    omega
  have e17y : u.1 17 0 y = nI (sm τ y) := (hu.2 _ _ _ rfl).trans (h.w.say y hy).1.1
  refine ⟨?_, ?_⟩
  · refine lpF (fun n k (c : Int32) => Pg_sayingsFrom_L5 (nI (sm τ y)) (nI v) s n c (nI k)) (fun i => nI (cnt (fun k => decide (sm τ k = sm τ y) && decide (v ≤ sy τ k)) i)) _ (nS τ) ?_ ?_ (n := 1100) (by omega)
    · intro n
      show Pg_sayingsFrom_L5 (nI (sm τ y)) (nI v) s (n + 1) _ (nI (nS τ)) = _
      rw [Pg_sayingsFrom_L5, e7, if_pos (nI_le (Nat.le_refl _) (by omega))]
    · intro k n hk
      show Pg_sayingsFrom_L5 (nI (sm τ y)) (nI v) s (n + 1) _ (nI k) = Pg_sayingsFrom_L5 (nI (sm τ y)) (nI v) s n (nI (cnt (fun k => decide (sm τ k = sm τ y) && decide (v ≤ sy τ k)) k + if (decide (sm τ k = sm τ y) && decide (v ≤ sy τ k)) = true then 1 else 0)) (nI (k + 1))
      have e0 : s.1 26 k 0 = nI (sm τ k) := (h.c.say.2.1 k hk).1.trans (h.w.say k hk).1.1
      have e2 : s.1 26 k 2 = nI (sy τ k) := (h.c.say.2.1 k hk).2.2.1.trans (h.w.say k hk).2.2.1.1
      have hi : inb (nI k) 24 = true := inb_nI (by omega) (by decide)
      obtain ⟨b1, b2⟩ := hb k hk
      have b3 := (hb y hy).1
      have q1 := nI_eq (a := sm τ k) (b := sm τ y) (by omega) (by omega)
      have q2 := nI_ltI (a := sy τ k) (b := v) (by omega) (by omega)
      rw [Pg_sayingsFrom_L5, e7, if_neg (nI_ge hk (by omega)), if_pos hi, nI_clamp (n := k) (by omega), e0, e2, if_pos hi]
      unfold Pg_sayingsFrom_J54
      rw [nI_1]
      by_cases c1 : sm τ k = sm τ y
      · rw [if_pos (q1.mpr c1), decide_eq_true c1, Bool.true_and]
        by_cases c2 : v ≤ sy τ k
        · rw [if_neg (fun z => by have := q2.mp z; omega), if_pos (decide_eq_true c2), nI_1]
        · rw [if_pos (q2.mpr (by omega)), if_neg (fun z => c2 (of_decide_eq_true z))]; rfl
      · rw [if_neg (fun z => c1 (q1.mp z)), decide_eq_false c1, Bool.false_and, if_neg (by decide)]; rfl
  · refine lpF (fun n k (c : Int32) => M_mark_L170 (nI y) (nI v) n c (nI k) u) (fun i => nI (cnt (fun k => decide (sm τ k = sm τ y) && decide (v ≤ sy τ k)) i)) _ (nS τ) ?_ ?_ (n := 1100) (by omega)
    · intro n
      show M_mark_L170 (nI y) (nI v) (n + 1) _ (nI (nS τ)) u = _
      rw [M_mark_L170, e16, if_pos (nI_le (Nat.le_refl _) (by omega))]
    · intro k n hk
      show M_mark_L170 (nI y) (nI v) (n + 1) _ (nI k) u = M_mark_L170 (nI y) (nI v) n (nI (cnt (fun k => decide (sm τ k = sm τ y) && decide (v ≤ sy τ k)) k + if (decide (sm τ k = sm τ y) && decide (v ≤ sy τ k)) = true then 1 else 0)) (nI (k + 1)) u
      have e0 : u.1 17 0 k = nI (sm τ k) := (hu.2 _ _ _ rfl).trans (h.w.say k hk).1.1
      have e2 : u.1 19 0 k = nI (sy τ k) := (hu.2 _ _ _ rfl).trans (h.w.say k hk).2.2.1.1
      have hi : inb (nI k) 24 = true := inb_nI (by omega) (by decide)
      obtain ⟨b1, b2⟩ := hb k hk
      have b3 := (hb y hy).1
      have q1 := nI_eq (a := sm τ k) (b := sm τ y) (by omega) (by omega)
      have q2 := nI_ltI (a := sy τ k) (b := v) (by omega) (by omega)
      rw [M_mark_L170, e16, if_neg (nI_ge hk (by omega)), if_pos hi, if_pos (inb_nI (by omega) (by decide)), nI_clamp (n := k) (by omega), nI_clamp (n := y) (by omega), e0, e17y, e2, if_pos hi]
      unfold M_mark_J214
      rw [nI_1]
      by_cases c1 : sm τ k = sm τ y
      · rw [if_pos (q1.mpr c1), decide_eq_true c1, Bool.true_and]
        by_cases c2 : v ≤ sy τ k
        · rw [if_neg (fun z => by have := q2.mp z; omega), if_pos (decide_eq_true c2), nI_1]
        · rw [if_pos (q2.mpr (by omega)), if_neg (fun z => c2 (of_decide_eq_true z)), Int32.add_zero]; rfl
      · rw [if_neg (fun z => c1 (q1.mp z)), decide_eq_false c1, Bool.false_and, if_neg (by decide), Int32.add_zero]; rfl
theorem move_at {σ τ : St} (h : Inv σ τ) {k : Nat} (hk : k < nV τ) : ∃ kd y v, kd ≤ 6 ∧ y < nS τ ∧ τ.1 34 0 k = nI kd ∧ τ.1 35 0 k = nI y ∧ τ.1 36 0 k = nI v ∧ σ.1 28 k 0 = nI kd ∧ σ.1 28 k 1 = nI y ∧ σ.1 28 k 2 = nI v ∧ ((kd = 0 ∨ kd = 6) ∧ v = 0 ∨ kd = 1 ∧ v < nS τ ∧ v ≠ y ∨ (kd = 2 ∨ kd = 4) ∧ v < 5 ∨ kd = 3 ∧ v < nM τ ∨ kd = 5 ∧ v < 1000) := by
  obtain ⟨kd, y, v, h1, h2, h3, h4, h5, h6⟩ := h.w.2.2.2.2.2.2.2.2.2 k hk
  obtain ⟨e0, e1, e2⟩ := h.c.movr.2 k hk
  exact ⟨kd, y, v, h1, h2, h3, h4, h5, e0.trans h3, e1.trans h4, e2.trans h5, h6⟩
theorem step_38 : Stp_38 Inv := by
  intro a1 a2 σ τ h
  unfold Q_mark M_mark
  have hV := h.w.nV40
  have hS := h.w.nS24
  have hM := h.w.nM8
  rw [(mvN h).1, (mvN h).2]
  by_cases hx : ∃ j, j < nV τ ∧ a1 = nI j
  · obtain ⟨m, hm, rfl⟩ := hx
    rw [if_neg (wiv hm (by omega)), if_neg (miv hm (by omega))]
    by_cases hy : ∃ j, 1 ≤ j ∧ j < 7 ∧ a2 = nI j
    · obtain ⟨kq, hk1, hk7, rfl⟩ := hy
      obtain ⟨z1, z2⟩ := mk_in kq hk7 hk1
      obtain ⟨kd, y, v, m1, m2, m3, m4, m5, m6, m7, m8, m9⟩ := move_at h hm
      have hi : inb (nI m) 40 = true := inb_nI (by omega) (by decide)
      rw [if_neg (wi7 hk7), if_neg z2, if_neg z1, if_pos hi, if_pos hi, nI_clamp (n := m) (by omega), m3, m6]
      by_cases ek : kd = kq
      · subst ek
        rw [if_pos rfl, if_pos rfl, if_pos hi, if_pos hi, if_pos hi, m4, m5]
        obtain ⟨s, s1, s2, s3, s4⟩ := settled_eq h
        obtain ⟨o1, ⟨o2, o3⟩, ⟨o4, o5⟩, ⟨o6, o7⟩, o8⟩ := wfS h.w m2
        obtain ⟨t1, t2, t3, t4, t5, t6, t7, t8⟩ := s2.c.tr s2.w m2
        have k0 : s.1 28 m 0 = nI kd := (s3.2 _ _ _ rfl).trans m6
        have k1 : s.1 28 m 1 = nI y := (s3.2 _ _ _ rfl).trans m7
        have k2 : s.1 28 m 2 = nI v := (s3.2 _ _ _ rfl).trans m8
        have e17 : τ.1 17 0 y = nI (sm τ y) := (h.w.say y m2).1.1
        have hsm := (h.w.say y m2).1.2
        have e260 : s.1 26 y 0 = nI (sm τ y) := (s2.c.say.2.1 y m2).1.trans e17
        rw [s1, Option.bind_some, if_pos (inb_nI (by omega) (by decide)), nI_clamp (n := y) (by omega), o2, if_pos (inb_nI o3 (by decide)), nI_clamp (n := sc τ y) (by omega), o4]
        unfold Pg_markOf
        rw [k0, k1, k2, if_pos (inb_nI (by omega) (by decide)), caseTr_eq s2.w s2.c m2, Option.bind_some, nI_clamp (n := y) (by omega), e260]
        have h6 : kd = 1 ∨ kd = 2 ∨ kd = 3 ∨ kd = 4 ∨ kd = 5 ∨ kd = 6 := by omega
        rcases h6 with e | e | e | e | e | e <;> subst e
        · have hv : v < nS τ := by omega
          obtain ⟨p1, ⟨p2, p3⟩, ⟨p4, p5⟩, -⟩ := wfS h.w hv
          have hxl : sx τ y ^^^ sx τ v < 32 := Nat.xor_lt_two_pow (n := 5) o5 p5
          rw [if_pos (show nI 1 = 1 from rfl), if_pos (show nI 1 = 1 from rfl), caseTr_eq s2.w s2.c hv, Option.bind_some, if_pos (inb_nI (by omega) (by decide)), nI_clamp (n := v) (by omega), p2, if_pos (inb_nI p3 (by decide)), nI_clamp (n := sc τ v) (by omega), p4, nI_xor (by omega) (by omega), bits_bc _ hxl]
          exact ⟨_, _, _, rfl, rfl, s2⟩
        · have hv : v < 5 := by omega
          rw [if_neg (show ¬ nI 2 = 1 by decide), if_neg (show ¬ nI 2 = 1 by decide), if_pos (show nI 2 = 2 from rfl), if_pos (show nI 2 = 2 from rfl), shA o5 hv]
          exact ⟨_, _, _, rfl, rfl, s2⟩
        · have hv : v < nM τ := by omega
          obtain ⟨u, u1, u2, u3, u4, u5⟩ := settles_as h.w (m := v) (by omega) (s4 v hv) (Fr.rf _ τ)
          obtain ⟨w1, w2⟩ := vr_eq s2 (s4 v hv) o5
          rw [if_neg (show ¬ nI 3 = 1 by decide), if_neg (show ¬ nI 3 = 1 by decide), if_neg (show ¬ nI 3 = 2 by decide), if_neg (show ¬ nI 3 = 2 by decide), if_pos (show nI 3 = 3 from rfl), if_pos (show nI 3 = 3 from rfl), if_pos (inb_nI (by omega) (by decide)), nI_clamp (n := v) (by omega), w1, u1, Option.bind_some, Option.bind_some, Option.bind_some, u4, w2]
          exact ⟨_, _, _, rfl, rfl, Inv_ms s2 (u2.wk pSt_scr)⟩
        · rw [if_neg (show ¬ nI 4 = 1 by decide), if_neg (show ¬ nI 4 = 1 by decide), if_neg (show ¬ nI 4 = 2 by decide), if_neg (show ¬ nI 4 = 2 by decide), if_neg (show ¬ nI 4 = 3 by decide), if_neg (show ¬ nI 4 = 3 by decide), if_pos (show nI 4 = 4 from rfl), if_pos (show nI 4 = 4 from rfl)]
          exact ⟨_, _, _, rfl, rfl, s2⟩
        · have hv : v < 1000 := by omega
          obtain ⟨w1, w2⟩ := sfrom_eq s2 (Fr.rf _ τ) m2 hv
          rw [if_neg (show ¬ nI 5 = 1 by decide), if_neg (show ¬ nI 5 = 1 by decide), if_neg (show ¬ nI 5 = 2 by decide), if_neg (show ¬ nI 5 = 2 by decide), if_neg (show ¬ nI 5 = 3 by decide), if_neg (show ¬ nI 5 = 3 by decide), if_neg (show ¬ nI 5 = 4 by decide), if_neg (show ¬ nI 5 = 4 by decide), if_pos (show nI 5 = 5 from rfl), if_pos (show nI 5 = 5 from rfl), w1, w2]
          exact ⟨_, _, _, rfl, rfl, s2⟩
        · obtain ⟨u, u1, u2, u3, u4, u5⟩ := settles_as h.w (m := sm τ y) (by omega) (s4 _ hsm) (Fr.rf _ τ)
          obtain ⟨l, hl, el⟩ := Mnd_l h.w (s4 _ hsm)
          have hE := (u2.wk pSt_scr).eqm
          have hw := WF_eq hE h.w
          have hc : M_costOf (nI y) (nI l) u = some (nI (co τ y l)) := by
            rw [M_costOf_eq (wfS hw (by rw [hE.v.2.2.1]; exact m2)) (wfP hw) hl, co_eqm hE]
          rw [if_neg (show ¬ nI 6 = 1 by decide), if_neg (show ¬ nI 6 = 1 by decide), if_neg (show ¬ nI 6 = 2 by decide), if_neg (show ¬ nI 6 = 2 by decide), if_neg (show ¬ nI 6 = 3 by decide), if_neg (show ¬ nI 6 = 3 by decide), if_neg (show ¬ nI 6 = 4 by decide), if_neg (show ¬ nI 6 = 4 by decide), if_neg (show ¬ nI 6 = 5 by decide), if_neg (show ¬ nI 6 = 5 by decide), if_pos (inb_nI (by omega) (by decide)), if_pos (inb_nI (by omega) (by decide)), nI_clamp (n := sm τ y) (by omega), e17, u1, Option.bind_some, u4, el, hc, strainOf_eq s2.w s2.c m2 hl, Option.bind_some, sumOf_one s2.w s2.c]
          exact ⟨_, _, _, rfl, rfl, Inv_ms s2 (u2.wk pSt_scr)⟩
      · have en : ¬ nI kd = nI kq := fun z => ek ((nI_eq (by omega) (by omega)).mp z)
        obtain ⟨σ', τ', (h1 : Q_refuse 3 σ = _), (h2 : M_meets 3 τ = _), h3⟩ := refuse_eq h (f := 3) (by decide)
        rw [if_neg en, if_neg en, if_pos hi, h1, h2]
        exact ⟨_, _, _, rfl, rfl, h3⟩
    · obtain ⟨z1, z2⟩ := mk_out hy
      rw [if_pos z1]
      refine ⟨_, _, _, ?_, rfl, h⟩
      rcases z2 with z | z
      · rw [if_pos z]
      · rw [z]; rfl
  · rw [if_pos (wov (by omega) hx), if_pos (mov (by omega) hx)]
    exact ⟨_, _, _, rfl, rfl, h⟩
