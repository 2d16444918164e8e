/-! ===== the steps: instance, master, prices, reads, move, met ===== -/
theorem step_7 : Stp_7 Inv := by
  intro a1 σ τ h
  unfold Q_instance M_instance M_isSet
  by_cases hx : ∃ j, j < 32 ∧ a1 = nI j
  · obtain ⟨x, hx, rfl⟩ := hx
    have e1 : τ.1 0 0 10 = nI (nC τ) := h.w.1.1.1
    have e2 : σ.1 3 0 3 = nI (nC τ) := h.c.case.1.trans e1
    have hC := h.w.nC12
    rw [if_neg (wi32 hx), if_neg (mi32 hx), e1, e2]
    by_cases h12 : nC τ = 12
    · have e : nI (nC τ) = 12 := by rw [h12]; rfl
      rw [if_pos e, if_pos e]
      exact ⟨_, _, _, rfl, rfl, h⟩
    · have e : ¬ nI (nC τ) = 12 := fun y => h12 ((nI_eq (a := nC τ) (b := 12) (by omega) (by decide)).mp y)
      have hi : inb (nI (nC τ)) 12 = true := inb_nI (by omega) (by decide)
      have q1 : Bk_addCase (nI x) σ = some (nI (nC τ), sX (sX σ 14 0 (nC τ) (nI x)) 3 0 3 (nI (nC τ + 1))) := by
        unfold Bk_addCase
        rw [e2, if_pos hi, nI_clamp (by omega)]
        have k : (sX σ 14 0 (nC τ) (nI x)).1 3 0 3 = nI (nC τ) := by rw [sX_o (by omega)]; exact e2
        rw [k, nI_1, sX_s, nI_pred]
      have q2 : (sX τ 11 0 (nC τ) (nI x)).1 0 0 10 = nI (nC τ) := by rw [sX_o (by omega)]; exact e1
      rw [if_neg e, if_neg e, q1, Option.bind_some, if_pos hi, nI_clamp (n := nC τ) (by omega), q2, nI_1, sX_s, nI_pred]
      refine ⟨_, _, _, rfl, rfl, ?_⟩
      have ef : Fr pmcase τ (sX (sX τ 11 0 (nC τ) (nI x)) 0 0 10 (nI (nC τ + 1))) := ((Fr.rf _ _).st _ _ _ _ rfl).st _ _ _ _ rfl
      have ee : Fr pccase σ (sX (sX σ 14 0 (nC τ) (nI x)) 3 0 3 (nI (nC τ + 1))) := ((Fr.rf _ _).st _ _ _ _ rfl).st _ _ _ _ rfl
      have t10 : (sX (sX τ 11 0 (nC τ) (nI x)) 0 0 10 (nI (nC τ + 1))).1 0 0 10 = nI (nC τ + 1) := sX_s
      have t11 : ∀ c, (sX (sX τ 11 0 (nC τ) (nI x)) 0 0 10 (nI (nC τ + 1))).1 11 0 c = if c = nC τ then nI x else τ.1 11 0 c := by
        intro c
        rw [sX_o (by omega), sX_at]
        by_cases e : c = nC τ
        · rw [if_pos ⟨rfl, rfl, e⟩, if_pos e]
        · rw [if_neg (by omega), if_neg e]
      have s3 : (sX (sX σ 14 0 (nC τ) (nI x)) 3 0 3 (nI (nC τ + 1))).1 3 0 3 = nI (nC τ + 1) := sX_s
      have s14 : ∀ c, (sX (sX σ 14 0 (nC τ) (nI x)) 3 0 3 (nI (nC τ + 1))).1 14 0 c = if c = nC τ then nI x else σ.1 14 0 c := by
        intro c
        rw [sX_o (by omega), sX_at]
        by_cases e : c = nC τ
        · rw [if_pos ⟨rfl, rfl, e⟩, if_pos e]
        · rw [if_neg (by omega), if_neg e]
      generalize sX (sX τ 11 0 (nC τ) (nI x)) 0 0 10 (nI (nC τ + 1)) = τ' at *
      generalize sX (sX σ 14 0 (nC τ) (nI x)) 3 0 3 (nI (nC τ + 1)) = σ' at *
      have f12 : τ'.1 0 0 12 = τ.1 0 0 12 := ef.2 _ _ _ rfl
      have f16 : τ'.1 0 0 16 = τ.1 0 0 16 := ef.2 _ _ _ rfl
      have f33 : τ'.1 0 0 33 = τ.1 0 0 33 := ef.2 _ _ _ rfl
      have k13 : τ'.1 13 0 = τ.1 13 0 := ef.fn (fun j => rfl) 0
      have k14 : τ'.1 14 0 = τ.1 14 0 := ef.fn (fun j => rfl) 0
      have k17 : τ'.1 17 0 = τ.1 17 0 := ef.fn (fun j => rfl) 0
      have k18 : τ'.1 18 0 = τ.1 18 0 := ef.fn (fun j => rfl) 0
      have k19 : τ'.1 19 0 = τ.1 19 0 := ef.fn (fun j => rfl) 0
      have k20 : τ'.1 20 0 = τ.1 20 0 := ef.fn (fun j => rfl) 0
      have k21 : τ'.1 21 0 = τ.1 21 0 := ef.fn (fun j => rfl) 0
      have k24 : τ'.1 24 0 = τ.1 24 0 := ef.fn (fun j => rfl) 0
      have vC : nC τ' = nC τ + 1 := by unfold nC; rw [t10]; exact tn_nI (by omega)
      have vM : nM τ' = nM τ := by unfold nM; rw [f12]
      have vS : nS τ' = nS τ := by unfold nS; rw [f16]
      have vV : nV τ' = nV τ := by unfold nV; rw [f33]
      refine Inv_case h ee ef ?_ ?_ ?_ ?_ ?_
      · refine ⟨⟨?_, by omega⟩, ⟨?_, ?_⟩, ⟨?_, ?_⟩, ?_, ?_⟩
        · rw [t10, vC]
        · rw [f12, vM]; exact h.w.1.2.1.1
        · rw [vM]; exact h.w.1.2.1.2
        · rw [f16, vS]; exact h.w.1.2.2.1.1
        · rw [vS]; exact h.w.1.2.2.1.2
        · rw [f33, vV]; exact h.w.1.2.2.2.1
        · rw [vV]; exact h.w.1.2.2.2.2
      · intro c hc
        unfold cs
        rw [t11]
        by_cases e : c = nC τ
        · rw [if_pos e, tn_nI (by omega)]; exact ⟨rfl, hx⟩
        · rw [if_neg e]; exact h.w.2.2.2.1 c (by omega)
      · have q := h.w.say
        simp only [W_say, sm, sc, sy, sa, vM, vS, k13, k14, k17, k18, k19, k20, k21] at q ⊢
        intro s hs
        obtain ⟨q1, ⟨q2, q3⟩, q4⟩ := q s hs
        exact ⟨q1, ⟨q2, by omega⟩, q4⟩
      · refine ⟨s3.trans t10.symm, fun c hc => ?_⟩
        rw [s14, t11]
        by_cases e : c = nC τ
        · rw [if_pos e, if_pos e]
        · rw [if_neg e, if_neg e]; exact h.c.case.2 c hc
      · refine RM_same (funext fun n => ee.fn (fun j => rfl) n) (funext fun n => ee.fn (fun j => rfl) n) (by omega) (by funext s; unfold sm; rw [k17]) vS ?_ (by unfold pT; rw [k24]) h.2.2
        intro s hs r
        have hsc := (h.w.say s hs).2.1.2
        have e3 : sx τ' s = sx τ s := by
          unfold sx cs sc at *
          rw [k18, t11, if_neg (by omega)]
        unfold co pA pS sa
        rw [e3, k20, k21, k24]
  · rw [if_pos (wo32 hx), if_pos (mo32 hx)]
    exact ⟨_, _, _, rfl, rfl, h⟩
/-! the chain of teachers -/
theorem neg9 {t : Nat} (ht : t < 1000) : ¬ nI t = -9 := by
  intro e
  have h1 := congrArg Int32.toInt e
  rw [nI_toInt (by omega), show (-9 : Int32).toInt = -9 from by decide] at h1
  omega
theorem leads_fuel {τ : St} (w : WF τ) {b : Nat} : ∀ m, m < nM τ → ∀ n n', m < n → m < n' → leads τ n (τ.1 15 0 m) b = leads τ n' (τ.1 15 0 m) b := by
  intro m
  induction m using Nat.strongRecOn with
  | _ m ih =>
    intro hm n n' hn hn'
    obtain ⟨n, rfl⟩ : ∃ k, n = k + 1 := ⟨n - 1, by omega⟩
    obtain ⟨n', rfl⟩ : ∃ k, n' = k + 1 := ⟨n' - 1, by omega⟩
    have hM := w.nM8
    rcases (w.2.2.2.2.1 m hm).2 with e | ⟨t, ht, e⟩
    · rw [e]; rfl
    · rw [e]
      unfold leads
      rw [if_neg (neg9 (by omega)), if_neg (neg9 (by omega)), tn_nI (by omega), ih t ht (by omega) n n' (by omega) (by omega)]
theorem leads_step {τ : St} (w : WF τ) {m t b : Nat} (hb : b < 1000) (hm : m < nM τ) (ht : t < m) (e : τ.1 15 0 m = nI t) : leads τ 9 (τ.1 15 0 m) b = (decide (t = b) || leads τ 9 (τ.1 15 0 t) b) := by
  have hM := w.nM8
  rw [e, show leads τ 9 (nI t) b = if nI t = -9 then false else if nI t = nI b then true else leads τ 8 (τ.1 15 0 (tn (nI t))) b from rfl]
  rw [if_neg (neg9 (by omega)), tn_nI (by omega), leads_fuel w t (by omega) 8 9 (by omega) (by omega)]
  by_cases c : t = b
  · subst c; rw [if_pos rfl]; simp
  · rw [if_neg (fun x => c ((nI_eq (by omega) (by omega)).mp x))]; simp [c]
theorem leads_ext {τ τ' : St} {N b : Nat} (w : ∀ m, m < N → τ.1 15 0 m = -9 ∨ ∃ t, t < m ∧ τ.1 15 0 m = nI t) (hN : N ≤ 8) (he : ∀ m, m < N → τ'.1 15 0 m = τ.1 15 0 m) : ∀ n a, (a = -9 ∨ ∃ t, t < N ∧ a = nI t) → leads τ' n a b = leads τ n a b := by
  intro n
  induction n with
  | zero => intro a _; rfl
  | succ n ih =>
    intro a ha
    unfold leads
    rcases ha with e | ⟨t, ht, e⟩
    · rw [e]; rfl
    · rw [e, tn_nI (by omega), he t ht, ih (τ.1 15 0 t)]
      rcases w t ht with x | ⟨q, hq, x⟩
      · exact Or.inl x
      · exact Or.inr ⟨q, by omega, x⟩
theorem pow_bit : ∀ t, t < 8 → (1 : Int32) <<< (nI t &&& 31) = nI (2 ^ t) := by decide +kernel
theorem pow_tb : ∀ t, t < 8 → ∀ k, k < 8 → (2 ^ t).testBit k = decide (t = k) := by decide +kernel
theorem pow_lt8 : ∀ t, t < 8 → 2 ^ t < 256 := by decide +kernel
/-- the forebears of a new master -/
theorem fore_eq {σ τ τ' : St} (h : Inv σ τ) (he : ∀ m, m < nM τ → τ'.1 15 0 m = τ.1 15 0 m) {a : Int32} (ha : a = -9 ∨ ∃ t, t < nM τ ∧ a = nI t) (hM : nM τ < 8) : ∃ f, f < 256 ∧ (if a = -9 then 0 else σ.1 22 (tn a) 3 ||| ((1 : Int32) <<< (a &&& 31))) = nI f ∧ ∀ k, k < 8 → f.testBit k = leads τ' 9 a k := by
  have hw := h.w.2.2.2.2.1
  rcases ha with e | ⟨t, ht, e⟩
  · subst e
    refine ⟨0, by decide, by rw [if_pos rfl]; rfl, fun k _ => ?_⟩
    rw [Nat.zero_testBit]; rfl
  · subst e
    rw [if_neg (neg9 (by omega)), tn_nI (by omega)]
    obtain ⟨f, f1, f2, f3⟩ := h.c.mas.2.2 t ht
    have h2 := pow_lt8 t (by omega)
    refine ⟨f ||| 2 ^ t, Nat.or_lt_two_pow (n := 8) f1 h2, ?_, fun k hk => ?_⟩
    · rw [f2, pow_bit t (by omega), nI_or (by omega) (by omega)]
    · rw [Nat.testBit_or, f3 k hk, pow_tb t (by omega) k hk, leads_ext (fun m hm => (hw m hm).2) (by omega) he 9 (nI t) (Or.inr ⟨t, ht, rfl⟩)]
      rw [show leads τ 9 (nI t) k = if nI t = -9 then false else if nI t = nI k then true else leads τ 8 (τ.1 15 0 (tn (nI t))) k from rfl]
      rw [if_neg (neg9 (by omega)), tn_nI (by omega), leads_fuel h.w t (by omega) 8 9 (by omega) (by omega)]
      by_cases c : t = k
      · subst c; rw [if_pos rfl]; simp
      · rw [if_neg (fun x => c ((nI_eq (by omega) (by omega)).mp x))]; simp [c]
theorem M_in_yr {b : Nat} (hb : b < 1000) {v : Int32} (hx : ¬ ∃ d, b ≤ d ∧ d < 1000 ∧ v = nI d) : M_in v (nI b) 999 = 0 := by
  unfold M_in
  by_cases h1 : v < nI b
  · rw [if_pos h1]
  · rw [if_neg h1]
    by_cases h2 : 999 < v
    · rw [if_pos h2]
    · exfalso
      have h0 : ¬ v < 0 := fun x => h1 (by
        rw [Int32.lt_iff_toInt_lt] at x ⊢
        rw [nI_toInt (by omega)]
        rw [show (0 : Int32).toInt = 0 from by decide] at x
        omega)
      obtain ⟨d, hd, rfl⟩ := nI_of2 (M := 999) (n := 999) (by decide) h0 (Int32.not_lt.mp h2)
      refine hx ⟨d, ?_, by omega, rfl⟩
      have := (nI_ltI (a := d) (b := b) (by omega) (by omega))
      by_cases c : b ≤ d
      · exact c
      · exact absurd (this.mpr (by omega)) h1
theorem M_in_yr1 {b d : Nat} (hb : b ≤ d) (hd : d < 1000) : ¬ M_in (nI d) (nI b) 999 = 0 := by
  unfold M_in
  have h9 : ¬ (999 : Int32) < nI d := nI_nlt (a := 999) (b := d) (by omega) (by decide)
  rw [if_neg (nI_nlt hb (by omega)), if_neg h9]
  decide
theorem master_new {σ τ : St} (h : Inv σ τ) (hM : nM τ < 8) {b d : Nat} (hbd : b ≤ d) (hd : d < 1000) {a : Int32} (ha : a = -9 ∨ ∃ t, t < nM τ ∧ a = nI t) {σ' τ' : St} (ee : Fr pcmas σ σ') (ef : Fr pmmas τ τ') (s3 : σ'.1 3 0 5 = nI (nM τ + 1)) (t12 : τ'.1 0 0 12 = nI (nM τ + 1)) (t13 : ∀ m, τ'.1 13 0 m = if m = nM τ then nI b else τ.1 13 0 m) (t14 : ∀ m, τ'.1 14 0 m = if m = nM τ then nI d else τ.1 14 0 m) (t15 : ∀ m, τ'.1 15 0 m = if m = nM τ then a else τ.1 15 0 m) (s22 : ∀ m j, σ'.1 22 m j = if m = nM τ ∧ j = 0 then nI b else if m = nM τ ∧ j = 1 then nI d else if m = nM τ ∧ j = 2 then a else if m = nM τ ∧ j = 3 then (if a = -9 then 0 else σ.1 22 (tn a) 3 ||| ((1 : Int32) <<< (a &&& 31))) else σ.1 22 m j) : Inv σ' τ' := by
  have f10 : τ'.1 0 0 10 = τ.1 0 0 10 := ef.2 _ _ _ rfl
  have f16 : τ'.1 0 0 16 = τ.1 0 0 16 := ef.2 _ _ _ rfl
  have f33 : τ'.1 0 0 33 = τ.1 0 0 33 := ef.2 _ _ _ rfl
  have k17 : τ'.1 17 0 = τ.1 17 0 := ef.fn (fun j => rfl) 0
  have k18 : τ'.1 18 0 = τ.1 18 0 := ef.fn (fun j => rfl) 0
  have k19 : τ'.1 19 0 = τ.1 19 0 := ef.fn (fun j => rfl) 0
  have k20 : τ'.1 20 0 = τ.1 20 0 := ef.fn (fun j => rfl) 0
  have k21 : τ'.1 21 0 = τ.1 21 0 := ef.fn (fun j => rfl) 0
  have k24 : τ'.1 24 0 = τ.1 24 0 := ef.fn (fun j => rfl) 0
  have k11 : τ'.1 11 0 = τ.1 11 0 := ef.fn (fun j => rfl) 0
  have k34 : τ'.1 34 0 = τ.1 34 0 := ef.fn (fun j => rfl) 0
  have k35 : τ'.1 35 0 = τ.1 35 0 := ef.fn (fun j => rfl) 0
  have k36 : τ'.1 36 0 = τ.1 36 0 := ef.fn (fun j => rfl) 0
  have vM : nM τ' = nM τ + 1 := by
    have x : nM τ' = tn (nI (nM τ + 1)) := congrArg tn t12
    rw [x]; exact tn_nI (by omega)
  have vC : nC τ' = nC τ := by unfold nC; rw [f10]
  have vS : nS τ' = nS τ := by unfold nS; rw [f16]
  have vV : nV τ' = nV τ := by unfold nV; rw [f33]
  refine Inv_mas h ee ef ?_ ?_ ?_ ?_ ?_ ?_
  · refine ⟨⟨?_, ?_⟩, ⟨?_, by omega⟩, ⟨?_, ?_⟩, ?_, ?_⟩
    · rw [f10, vC]; exact h.w.1.1.1
    · rw [vC]; exact h.w.1.1.2
    · rw [t12, vM]
    · rw [f16, vS]; exact h.w.1.2.2.1.1
    · rw [vS]; exact h.w.1.2.2.1.2
    · rw [f33, vV]; exact h.w.1.2.2.2.1
    · rw [vV]; exact h.w.1.2.2.2.2
  · intro m hm
    rw [t13, t14, t15]
    by_cases e : m = nM τ
    · rw [if_pos e, if_pos e, if_pos e]
      refine ⟨⟨b, d, hbd, hd, rfl, rfl⟩, ?_⟩
      rcases ha with x | ⟨t, ht, x⟩
      · exact Or.inl x
      · exact Or.inr ⟨t, by omega, x⟩
    · rw [if_neg e, if_neg e, if_neg e]
      exact h.w.2.2.2.2.1 m (by omega)
  · have q := h.w.say
    simp only [W_say, sm, sc, sy, sa, vC, vS, k17, k18, k19, k20, k21] at q ⊢
    intro s hs
    obtain ⟨⟨q0, q1⟩, q2, q3, q4⟩ := q s hs
    rw [t13, t14, if_neg (by omega), if_neg (by omega)]
    exact ⟨⟨q0, by omega⟩, q2, q3, q4⟩
  · have q := h.w.2.2.2.2.2.2.2.2.2
    simp only [W_mov, okMv, vV, vS, k34, k35, k36] at q ⊢
    intro k hk
    obtain ⟨kd, s, v, q1, q2, q3, q4, q5, q6⟩ := q k hk
    exact ⟨kd, s, v, q1, q2, q3, q4, q5, by omega⟩
  · refine ⟨s3.trans t12.symm, ?_, ?_⟩
    · intro m hm
      rw [s22, s22, s22, t13, t14, t15]
      by_cases e : m = nM τ
      · subst e; simp
      · rw [if_neg e, if_neg e, if_neg e]
        simp only [e, false_and, if_false]
        exact h.c.mas.2.1 m (by omega)
    · intro m hm
      have he : ∀ m, m < nM τ → τ'.1 15 0 m = τ.1 15 0 m := fun m hm => by rw [t15, if_neg (by omega)]
      rw [s22, t15]
      by_cases e : m = nM τ
      · subst e
        rw [if_neg (by omega), if_neg (by omega), if_neg (by omega), if_pos ⟨rfl, rfl⟩, if_pos rfl]
        exact fore_eq h he ha hM
      · rw [if_neg (by omega), if_neg (by omega), if_neg (by omega), if_neg (by omega), if_neg e]
        obtain ⟨f, f1, f2, f3⟩ := h.c.mas.2.2 m (by omega)
        refine ⟨f, f1, f2, fun k hk => ?_⟩
        rw [f3 k hk]
        refine (leads_ext (fun m hm => (h.w.2.2.2.2.1 m hm).2) (by omega) he 9 _ ?_).symm
        rcases (h.w.2.2.2.2.1 m (by omega)).2 with x | ⟨t, ht, x⟩
        · exact Or.inl x
        · exact Or.inr ⟨t, by omega, x⟩
  · refine RM_same (funext fun n => ee.fn (fun j => rfl) n) (funext fun n => ee.fn (fun j => rfl) n) (by omega) (by funext s; unfold sm; rw [k17]) vS ?_ (by unfold pT; rw [k24]) h.2.2
    intro s hs r
    unfold co pA pS sx cs sc sa
    rw [k11, k18, k20, k21, k24]
theorem step_8 : Stp_8 Inv := by
  intro a1 a2 a3 σ τ h
  unfold Q_master M_master
  by_cases hx : ∃ j, j < 1000 ∧ a1 = nI j
  · obtain ⟨b, hb, rfl⟩ := hx
    rw [if_neg (wi1000 hb), if_neg (mi1000 hb)]
    by_cases hy : ∃ d, b ≤ d ∧ d < 1000 ∧ a2 = nI d
    · obtain ⟨d, hbd, hd, rfl⟩ := hy
      rw [if_neg (wi1000 hd), if_neg (M_in_yr1 hbd hd), if_pos (nI_le hbd (by omega))]
      have hz : (a3 = -9 ∨ ∃ t, t < nM τ ∧ a3 = nI t) ∨ (¬ a3 = -9 ∧ ¬ ∃ t, t < nM τ ∧ a3 = nI t) := by
        by_cases x : a3 = -9
        · exact Or.inl (Or.inl x)
        · by_cases y : ∃ t, t < nM τ ∧ a3 = nI t
          · exact Or.inl (Or.inr y)
          · exact Or.inr ⟨x, y⟩
      rcases hz with ha | ⟨g1, g2⟩
      · have e1 : τ.1 0 0 12 = nI (nM τ) := h.w.1.2.1.1
        have e2 : σ.1 3 0 5 = nI (nM τ) := h.c.mas.1.trans e1
        have hM := h.w.nM8
        have hgo : ∃ r σ' τ', Q_master_J46 (nI b) (nI d) a3 σ = some (r, σ') ∧ M_master_J38 (nI b) (nI d) a3 τ = some (r, τ') ∧ Inv σ' τ' := by
          unfold Q_master_J46 M_master_J38
          rw [e1, e2]
          by_cases h8 : nM τ = 8
          · have e : nI (nM τ) = 8 := by rw [h8]; rfl
            rw [if_pos e, if_pos e]
            exact ⟨_, _, _, rfl, rfl, h⟩
          · have e : ¬ nI (nM τ) = 8 := fun y => h8 ((nI_eq (a := nM τ) (b := 8) (by omega) (by decide)).mp y)
            have hi : inb (nI (nM τ)) 8 = true := inb_nI (by omega) (by decide)
            have hcl : (nI (nM τ)).toNatClampNeg = nM τ := nI_clamp (by omega)
            have m1 : (sX τ 13 0 (nM τ) (nI b)).1 0 0 12 = nI (nM τ) := by rw [sX_o (by omega)]; exact e1
            have m2 : (sX (sX τ 13 0 (nM τ) (nI b)) 14 0 (nM τ) (nI d)).1 0 0 12 = nI (nM τ) := by rw [sX_o (by omega)]; exact m1
            have m3 : (sX (sX (sX τ 13 0 (nM τ) (nI b)) 14 0 (nM τ) (nI d)) 15 0 (nM τ) a3).1 0 0 12 = nI (nM τ) := by rw [sX_o (by omega)]; exact m2
            have q : Bk_addMaster (nI b) (nI d) a3 σ = some (nI (nM τ), sX (sX (sX (sX (sX σ 22 (nM τ) 0 (nI b)) 22 (nM τ) 1 (nI d)) 22 (nM τ) 2 a3) 22 (nM τ) 3 (if a3 = -9 then 0 else σ.1 22 (tn a3) 3 ||| ((1 : Int32) <<< (a3 &&& 31)))) 3 0 5 (nI (nM τ + 1))) := by
              unfold Bk_addMaster Bk_addMaster_J54
              rw [e2, if_pos hi, hcl]
              have n1 : ∀ f, (sX (sX (sX (sX σ 22 (nM τ) 0 (nI b)) 22 (nM τ) 1 (nI d)) 22 (nM τ) 2 a3) 22 (nM τ) 3 f).1 3 0 5 = nI (nM τ) := fun f => by rw [sX_o (by omega), sX_o (by omega), sX_o (by omega), sX_o (by omega)]; exact e2
              rcases ha with x | ⟨t, ht, x⟩
              · rw [if_pos x, if_pos x, n1, nI_1, sX_s, nI_pred]
              · have x9 : ¬ a3 = -9 := by rw [x]; exact neg9 (by omega)
                have xt : tn a3 = t := by rw [x]; exact tn_nI (by omega)
                have xt' : a3.toNatClampNeg = t := xt
                have xi : inb a3 8 = true := by rw [x]; exact inb_nI (by omega) (by decide)
                have n2 : (sX (sX (sX σ 22 (nM τ) 0 (nI b)) 22 (nM τ) 1 (nI d)) 22 (nM τ) 2 a3).1 22 t 3 = σ.1 22 t 3 := by rw [sX_o (by omega), sX_o (by omega), sX_o (by omega)]
                rw [if_neg x9, if_neg x9, if_pos xi, xt', n2, n1, nI_1, sX_s, nI_pred, xt]
            rw [if_neg e, if_neg e, q, Option.bind_some, if_pos hi, hcl, m1, if_pos hi, hcl, m2, if_pos hi, hcl, m3, nI_1, sX_s, nI_pred]
            refine ⟨_, _, _, rfl, rfl, ?_⟩
            refine master_new h (by omega) hbd hd ha ?_ ?_ sX_s sX_s ?_ ?_ ?_ ?_
            · exact ((((((Fr.rf _ _).st _ _ _ _ rfl).st _ _ _ _ rfl).st _ _ _ _ rfl).st _ _ _ _ rfl).st _ _ _ _ rfl)
            · exact (((((Fr.rf _ _).st _ _ _ _ rfl).st _ _ _ _ rfl).st _ _ _ _ rfl).st _ _ _ _ rfl)
            · intro m
              rw [sX_o (by omega), sX_o (by omega), sX_o (by omega), sX_at]
              by_cases c : m = nM τ
              · rw [if_pos ⟨rfl, rfl, c⟩, if_pos c]
              · rw [if_neg (by omega), if_neg c]
            · intro m
              rw [sX_o (by omega), sX_o (by omega), sX_at, sX_o (by omega)]
              by_cases c : m = nM τ
              · rw [if_pos ⟨rfl, rfl, c⟩, if_pos c]
              · rw [if_neg (by omega), if_neg c]
            · intro m
              rw [sX_o (by omega), sX_at, sX_o (by omega), sX_o (by omega)]
              by_cases c : m = nM τ
              · rw [if_pos ⟨rfl, rfl, c⟩, if_pos c]
              · rw [if_neg (by omega), if_neg c]
            · intro m j
              rw [sX_o (by omega), sX_at, sX_at, sX_at, sX_at]
              by_cases c : m = nM τ
              · by_cases c0 : j = 0
                · simp [c, c0]
                · by_cases c1 : j = 1
                  · simp [c, c1]
                  · by_cases c2 : j = 2
                    · simp [c, c2]
                    · by_cases c3 : j = 3
                      · simp [c, c3]
                      · simp [c0, c1, c2, c3]
              · simp [c]
        obtain ⟨r, σ', τ', g1, g2, g3⟩ := hgo
        refine ⟨r, σ', τ', ?_, ?_, g3⟩
        · rcases ha with x | ⟨t, ht, x⟩
          · rw [if_pos x]; exact g1
          · have h9 : ¬ a3 = -9 := by have := h.w.nM8; rw [x]; exact neg9 (by omega)
            have hh := (hasM_in h ht).1
            rw [← x] at hh
            rw [if_neg h9, if_neg hh]; exact g1
        · rcases ha with x | ⟨t, ht, x⟩
          · rw [if_pos x]; exact g2
          · have h9 : ¬ a3 = -9 := by have := h.w.nM8; rw [x]; exact neg9 (by omega)
            have hh := (hasM_in h ht).2
            rw [← x] at hh
            rw [if_neg h9, if_neg hh]; exact g2
      · rw [if_neg g1, if_neg g1, if_pos (hasM_out h g2).1, if_pos (hasM_out h g2).2]
        exact ⟨_, _, _, rfl, rfl, h⟩
    · rw [if_pos (M_in_yr hb hy)]
      refine ⟨_, _, _, ?_, rfl, h⟩
      by_cases hz : ∃ j, j < 1000 ∧ a2 = nI j
      · obtain ⟨d, hd, rfl⟩ := hz
        rw [if_neg (wi1000 hd), if_neg]
        intro x
        exact hy ⟨d, (nI_leI (by omega) (by omega)).mp x, hd, rfl⟩
      · rw [if_pos (wo1000 hz)]
  · rw [if_pos (wo1000 hx), if_pos (mo1000 hx)]
    exact ⟨_, _, _, rfl, rfl, h⟩
theorem repr_lp {τ σ : St} (h : Inv σ τ) (t : St) (e : t.1 3 0 5 = nI (nM τ)) : ∃ s, Bk_reprice_L27 1100 0 t = some s ∧ s.2 = t.2 ∧ ∀ kd n j, s.1 kd n j = if kd = 24 ∧ n < nM τ ∧ j = 0 then 0 else t.1 kd n j := by
  have hM := h.w.nM8
  refine lpU (fun n i s => Bk_reprice_L27 n (nI i) s) (fun i s => s.2 = t.2 ∧ ∀ kd n j, s.1 kd n j = if kd = 24 ∧ n < i ∧ j = 0 then 0 else t.1 kd n j) some (nM τ) ?_ ?_ (n := 1100) (s := t) (by omega) ⟨rfl, fun kd n j => by rw [if_neg (by omega)]⟩
  · intro n s hp
    show Bk_reprice_L27 (n + 1) (nI (nM τ)) s = some s
    have e3 : s.1 3 0 5 = nI (nM τ) := by rw [hp.2, if_neg (by omega)]; exact e
    rw [Bk_reprice_L27, e3, if_pos (nI_le (Nat.le_refl _) (by omega))]
  · intro i n s hi hp
    refine ⟨sX s 24 i 0 0, ?_, hp.1, ?_⟩
    · show Bk_reprice_L27 (n + 1) (nI i) s = Bk_reprice_L27 n (nI (i + 1)) _
      have e3 : s.1 3 0 5 = nI (nM τ) := by rw [hp.2, if_neg (by omega)]; exact e
      rw [Bk_reprice_L27, e3, if_neg (nI_ge hi (by omega)), if_pos (inb_nI (by omega) (by decide)), nI_clamp (by omega), nI_1]
    · intro kd m j
      rw [sX_at, hp.2]
      by_cases c : kd = 24 ∧ m = i ∧ j = 0
      · rw [if_pos c, if_pos (by omega)]
      · rw [if_neg c]
        by_cases d : kd = 24 ∧ m < i ∧ j = 0
        · rw [if_pos d, if_pos (by omega)]
        · rw [if_neg d, if_neg (by omega)]
theorem price_in {v : Int32} (h : ¬ M_isPrice v = 0) : ∃ p, p ≤ 99 ∧ v = nI p := by
  unfold M_isPrice M_in at h
  by_cases h1 : v < 0
  · rw [if_pos h1] at h; exact absurd rfl h
  · rw [if_neg h1] at h
    by_cases h2 : 99 < v
    · rw [if_pos h2] at h; exact absurd rfl h
    · exact nI_of2 (M := 99) (n := 99) (by decide) h1 (Int32.not_lt.mp h2)
theorem step_18 : Stp_18 Inv := by
  intro a1 a2 a3 σ τ h
  have hp : ∀ v, Q_isPrice v = M_isPrice v := fun v => rfl
  unfold Q_prices M_prices
  rw [hp, hp, hp]
  by_cases h1 : M_isPrice a1 = 0
  · rw [if_pos h1, if_pos h1]; exact ⟨_, _, _, rfl, rfl, h⟩
  · rw [if_neg h1, if_neg h1]
    by_cases h2 : M_isPrice a2 = 0
    · rw [if_pos h2, if_pos h2]; exact ⟨_, _, _, rfl, rfl, h⟩
    · rw [if_neg h2, if_neg h2]
      by_cases h3 : M_isPrice a3 = 0
      · rw [if_pos h3, if_pos h3]; exact ⟨_, _, _, rfl, rfl, h⟩
      · rw [if_neg h3, if_neg h3]
        have e1 : τ.1 0 0 12 = nI (nM τ) := h.w.1.2.1.1
        have e2 : σ.1 3 0 5 = nI (nM τ) := h.c.mas.1.trans e1
        obtain ⟨s, s1, s2, s3⟩ := repr_lp h (sX (sX (sX σ 10 0 0 a1) 10 0 1 a2) 10 0 2 a3) (by rw [sX_o (by omega), sX_o (by omega), sX_o (by omega)]; exact e2)
        unfold Bk_reprice
        rw [s1, Option.bind_some]
        refine ⟨_, _, _, rfl, rfl, ?_⟩
        have hk : ∀ k, k < 3 → (sX (sX (sX τ 24 0 0 a1) 24 0 1 a2) 24 0 2 a3).1 24 0 k = (if k = 0 then a1 else if k = 1 then a2 else a3) ∧ s.1 10 0 k = (if k = 0 then a1 else if k = 1 then a2 else a3) := by
          intro k hk
          have h3 : k = 0 ∨ k = 1 ∨ k = 2 := by omega
          have s10 : s.1 10 0 k = (sX (sX (sX σ 10 0 0 a1) 10 0 1 a2) 10 0 2 a3).1 10 0 k := by rw [s3, if_neg (by omega)]
          rw [s10]
          rcases h3 with e | e | e <;> subst e <;> simp [sX_at]
        refine Inv_pr h ⟨s2, ?_⟩ ((((Fr.rf _ _).st _ _ _ _ rfl).st _ _ _ _ rfl).st _ _ _ _ rfl) ?_ ?_ ?_
        · intro kd m j hp
          unfold pcpr at hp
          simp only [Bool.or_eq_false_iff, Bool.and_eq_false_iff, beq_eq_false_iff_ne] at hp
          rw [s3, if_neg (by omega), sX_o (by omega), sX_o (by omega), sX_o (by omega)]
        · intro k hk3
          rw [(hk k hk3).1]
          split
          · exact price_in h1
          · split
            · exact price_in h2
            · exact price_in h3
        · intro k hk3
          rw [(hk k hk3).1, (hk k hk3).2]
        · intro m hm
          left
          rw [s3]
          by_cases c : m < nM τ
          · rw [if_pos ⟨rfl, c, rfl⟩]
          · rw [if_neg (by omega), sX_o (by omega), sX_o (by omega), sX_o (by omega)]
            rcases h.2.2 m hm with x | ⟨x, -⟩
            · exact x
            · exact absurd x c
theorem reads_ok {σ τ : St} (h : Inv σ τ) {c s : Nat} (hc : c < 5) (hs : s < nS τ) {v : Int32} (hv : v = -9 ∨ v = 0 ∨ v = 1) : Inv (sX σ 27 s c v) (sX τ 22 0 (5 * s + c) v) := by
  refine Inv_cp h ((Fr.rf _ _).st _ _ _ _ rfl) ((Fr.rf _ _).st _ _ _ _ rfl) ?_ ?_
  · intro i hi
    have vS : nS (sX τ 22 0 (5 * s + c) v) = nS τ := by unfold nS; rw [sX_o (by omega)]
    rw [vS] at hi
    by_cases e : i = 5 * s + c
    · rw [e, sX_s]; exact hv
    · rw [sX_o (by omega)]; exact h.w.2.2.2.2.2.2.2.2.1 i hi
  · have q := h.c.say
    have vS : nS (sX τ 22 0 (5 * s + c) v) = nS τ := by unfold nS; rw [sX_o (by omega)]
    unfold R_say
    rw [vS]
    refine ⟨?_, ?_, ?_, ?_⟩
    · rw [sX_o (by omega), sX_o (by omega)]; exact q.1
    · intro s' hs'
      rw [sX_o (by omega), sX_o (by omega), sX_o (by omega), sX_o (by omega), sX_o (by omega), sX_o (by omega), sX_o (by omega), sX_o (by omega), sX_o (by omega), sX_o (by omega)]
      exact q.2.1 s' hs'
    · intro s' hs' c' hc'
      rw [sX_at, sX_at]
      by_cases e : s' = s ∧ c' = c
      · rw [if_pos ⟨rfl, e.1, e.2⟩, if_pos (by omega)]
      · rw [if_neg (by omega), if_neg (by omega)]; exact q.2.2.1 s' hs' c' hc'
    · intro s' h1 h2 c' hc'
      rw [sX_o (by omega)]; exact q.2.2.2 s' h1 h2 c' hc'
theorem step_32 : Stp_32 Inv := by
  intro a1 a2 a3 σ τ h
  unfold Q_reads M_reads
  by_cases hx : ∃ j, j < 5 ∧ a1 = nI j
  · obtain ⟨c, hc, rfl⟩ := hx
    rw [if_neg (wi5 hc), if_neg (mi5 hc)]
    by_cases hy : ∃ j, j < nS τ ∧ a2 = nI j
    · obtain ⟨s, hs, rfl⟩ := hy
      have hS := h.w.nS24
      rw [if_neg (hasS_in h hs).1, if_neg (hasS_in h hs).2]
      have hgo : ∀ v, (v = -9 ∨ v = 0 ∨ v = 1) → ∃ r σ' τ', Q_reads_J37 (nI c) (nI s) v σ = some (r, σ') ∧ M_reads_J34 (nI c) (nI s) v τ = some (r, τ') ∧ Inv σ' τ' := by
        intro v hv
        unfold Q_reads_J37 M_reads_J34
        have e3 : σ.1 27 s c = τ.1 22 0 (5 * s + c) := h.c.say.2.2.1 s hs c hc
        rw [if_pos (inb_nI (by omega) (by decide)), if_pos (inb_nI hc (by decide)), if_pos (inb_nI hc (by decide)), ix5, if_pos (inb_nI (by omega) (by decide)), if_pos (inb_nI (by omega) (by decide)), nI_clamp (n := s) (by omega), nI_clamp (n := c) (by omega), nI_clamp (n := 5 * s + c) (by omega), e3]
        exact ⟨_, _, _, rfl, rfl, reads_ok h hc hs hv⟩
      by_cases h9 : a3 = -9
      · rw [if_pos h9, if_pos h9]; exact hgo a3 (Or.inl h9)
      · rw [if_neg h9, if_neg h9]
        by_cases hz : ∃ j, j < 2 ∧ a3 = nI j
        · obtain ⟨j, hj, rfl⟩ := hz
          rw [if_neg (wi2 hj), if_neg (mi2 hj)]
          refine hgo _ (Or.inr ?_)
          have : j = 0 ∨ j = 1 := by omega
          rcases this with e | e <;> subst e
          · exact Or.inl rfl
          · exact Or.inr rfl
        · rw [if_pos (wo2 hz), if_pos (mo2 hz)]
          exact ⟨_, _, _, rfl, rfl, h⟩
    · rw [if_pos (hasS_out h hy).1, if_pos (hasS_out h hy).2]
      exact ⟨_, _, _, rfl, rfl, h⟩
  · rw [if_pos (wo5 hx), if_pos (mo5 hx)]
    exact ⟨_, _, _, rfl, rfl, h⟩
