/-! ===== a text read as a rule ===== -/
def pTx (kd j : Nat) : Bool := kd == 20 && (j == 2 || j == 3)
theorem pTx_cs : ∀ k j, pCs k j = false → pTx k j = false := by
  intro k j h
  unfold pCs at h
  unfold pTx
  simp only [Bool.or_eq_false_iff, Bool.and_eq_false_iff, beq_eq_false_iff_ne] at h ⊢
  omega
def pRd (kd j : Nat) : Bool := kd == 0 && j == 23
theorem pRd_scr : ∀ k j, pScr k j = false → pRd k j = false := by
  intro k j h
  unfold pScr at h
  unfold pRd
  simp only [Bool.or_eq_false_iff, Bool.and_eq_false_iff, beq_eq_false_iff_ne] at h ⊢
  omega
/-- the class at place i, with rd read -/
def TxS (σ : St) (b : Nat → Int32) (t n i : Nat) (rd : Int32) (s : St) : Prop := Fr pTx σ s ∧ s.1 20 t 1 = nI n ∧ s.1 20 t 3 = nI i ∧ s.1 20 t 2 = rd ∧ ∀ j, j < 40 → s.1 21 t j = b j
/-- the reference, with rd read -/
def RdS (τ : St) (rd : Int32) (u : St) : Prop := Fr pRd τ u ∧ u.1 0 0 23 = rd
theorem TxS_p {σ s : St} {b : Nat → Int32} {t n i j : Nat} {rd : Int32} (h : TxS σ b t n i rd s) : TxS σ b t n j rd (sX s 20 t 3 (nI j)) := by
  obtain ⟨h1, h2, h3, h4, h5⟩ := h
  refine ⟨h1.st _ _ _ _ rfl, ?_, sX_s, ?_, ?_⟩
  · rw [sX_o (by omega)]; exact h2
  · rw [sX_o (by omega)]; exact h4
  · intro k hk
    rw [sX_o (by omega)]; exact h5 k hk
theorem TxS_r {σ s : St} {b : Nat → Int32} {t n i : Nat} {rd rd' : Int32} (h : TxS σ b t n i rd s) : TxS σ b t n i rd' (sX s 20 t 2 rd') := by
  obtain ⟨h1, h2, h3, h4, h5⟩ := h
  refine ⟨h1.st _ _ _ _ rfl, ?_, ?_, sX_s, ?_⟩
  · rw [sX_o (by omega)]; exact h2
  · rw [sX_o (by omega)]; exact h3
  · intro k hk
    rw [sX_o (by omega)]; exact h5 k hk
def sg (b : Nat → Int32) (n i : Nat) : Int32 := if n ≤ i then 0 else b i
def by_ (b : Nat → Int32) (n i : Nat) : Int32 := if n ≤ i then -9 else b i
theorem sign_eq {σ s : St} {b : Nat → Int32} {t n i : Nat} {rd : Int32} (hn : n ≤ 40) (hi : i ≤ n) (h : TxS σ b t n i rd s) : Tx_signHere t s = some (sg b n i) := by
  obtain ⟨h1, h2, h3, h4, h5⟩ := h
  unfold Tx_signHere sg
  rw [h2, h3]
  have q := nI_leI (a := n) (b := i) (by omega) (by omega)
  by_cases c : n ≤ i
  · rw [if_pos (q.mpr c), if_pos c]
  · rw [if_neg (fun z => c (q.mp z)), if_neg c, if_pos (inb_nI (by omega) (by decide)), nI_clamp (by omega), h5 i (by omega)]
theorem byte_eq {τ u : St} {t n i : Nat} {rd : Int32} (ht : t < 4) (hn : n ≤ 40) (hi : i < 100) (e8 : τ.1 8 0 t = nI n) (h : RdS τ rd u) : M_byteAt (nI t) (nI i) u = some (by_ (fun j => τ.1 9 0 (40 * t + j)) n i) := by
  unfold M_byteAt by_
  have e : u.1 8 0 t = nI n := (h.1.2 _ _ _ rfl).trans e8
  have q := nI_leI (a := n) (b := i) (by omega) (by omega)
  rw [if_pos (inb_nI ht (by decide)), nI_clamp (n := t) (by omega), e]
  by_cases c : n ≤ i
  · rw [if_pos (q.mpr c), if_pos c]
  · rw [if_neg (fun z => c (q.mp z)), if_neg c, ix40, if_pos (inb_nI (by omega) (by decide)), nI_clamp (by omega)]
    exact congrArg some (h.1.2 _ _ _ rfl)
/-- blanks skipped -/
def SkP (b : Nat → Int32) (n i p : Nat) : Prop := i ≤ p ∧ p ≤ n ∧ (∀ j, i ≤ j → j < p → b j = 32) ∧ ¬ (p < n ∧ b p = 32)
theorem SkP_uniq {b : Nat → Int32} {n i p q : Nat} (h : SkP b n i p) (h' : SkP b n i q) : p = q := by
  obtain ⟨a1, a2, a3, a4⟩ := h
  obtain ⟨b1, b2, b3, b4⟩ := h'
  by_cases c : p < q
  · exact absurd ⟨by omega, b3 p a1 c⟩ a4
  · by_cases d : q < p
    · exact absurd ⟨by omega, a3 q b1 d⟩ b4
    · omega
theorem SkP_s {b : Nat → Int32} {n i p : Nat} (h : b i = 32) (hp : SkP b n (i + 1) p) : SkP b n i p := by
  obtain ⟨a1, a2, a3, a4⟩ := hp
  refine ⟨by omega, a2, fun j h1 h2 => ?_, a4⟩
  by_cases e : j = i
  · subst e; exact h
  · exact a3 j (by omega) h2
theorem skip_c {σ : St} {b : Nat → Int32} {t n : Nat} {rd : Int32} (hn : n ≤ 40) : ∀ d i f s, i + d = n → d < f → TxS σ b t n i rd s → ∃ p s', Tx_skipBlanks_L0 t f s = some s' ∧ TxS σ b t n p rd s' ∧ SkP b n i p := by
  intro d
  induction d with
  | zero =>
    intro i f s hi hf h
    obtain ⟨f, rfl⟩ : ∃ k, f = k + 1 := ⟨f - 1, by omega⟩
    refine ⟨i, s, ?_, h, Nat.le_refl _, by omega, fun j h1 h2 => by omega, fun z => by omega⟩
    rw [Tx_skipBlanks_L0, h.2.1, h.2.2.1, if_pos (nI_le (by omega) (by omega))]
  | succ d ih =>
    intro i f s hi hf h
    obtain ⟨f, rfl⟩ : ∃ k, f = k + 1 := ⟨f - 1, by omega⟩
    have e1 := h.2.1
    have e3 := h.2.2.1
    have e21 := h.2.2.2.2 i (by omega)
    by_cases c : b i = 32
    · obtain ⟨p, s', x1, x2, x3⟩ := ih (i + 1) f (sX s 20 t 3 (nI (i + 1))) (by omega) (by omega) (TxS_p h)
      refine ⟨p, s', ?_, x2, SkP_s c x3⟩
      rw [Tx_skipBlanks_L0, e1, e3, if_neg (nI_ge (by omega) (by omega)), if_pos (inb_nI (by omega) (by decide)), nI_clamp (by omega), e21, if_pos c, nI_1]
      exact x1
    · refine ⟨i, s, ?_, h, Nat.le_refl _, by omega, fun j h1 h2 => by omega, fun z => c z.2⟩
      rw [Tx_skipBlanks_L0, e1, e3, if_neg (nI_ge (by omega) (by omega)), if_pos (inb_nI (by omega) (by decide)), nI_clamp (by omega), e21, if_neg c]
theorem by32 (b : Nat → Int32) (n i : Nat) : (by_ b n i = 32) ↔ i < n ∧ b i = 32 := by
  unfold by_
  by_cases c : n ≤ i
  · rw [if_pos c]; exact ⟨fun z => absurd z (by decide), fun z => by omega⟩
  · rw [if_neg c]; exact ⟨fun z => ⟨by omega, z⟩, fun z => z.2⟩
theorem skip_m {τ u : St} {t n : Nat} {rd : Int32} (ht : t < 4) (hn : n ≤ 40) (e8 : τ.1 8 0 t = nI n) (hu : RdS τ rd u) (K : Int32 → St → Option (Int32 × St)) : ∀ d i f, i + d = n → d < f → ∃ p, M_goesOn_L2 K (nI t) f (nI i) u = K (nI p) u ∧ M_goesOn_L208 K (nI t) f (nI i) u = K (nI p) u ∧ SkP (fun j => τ.1 9 0 (40 * t + j)) n i p := by
  intro d
  induction d with
  | zero =>
    intro i f hi hf
    obtain ⟨f, rfl⟩ : ∃ k, f = k + 1 := ⟨f - 1, by omega⟩
    have e : ¬ by_ (fun j => τ.1 9 0 (40 * t + j)) n i = 32 := fun z => by have := (by32 _ _ _).mp z; omega
    refine ⟨i, ?_, ?_, Nat.le_refl _, by omega, fun j h1 h2 => by omega, fun z => by omega⟩
    · rw [M_goesOn_L2, byte_eq ht hn (by omega) e8 hu, Option.bind_some, if_neg e]
    · rw [M_goesOn_L208, byte_eq ht hn (by omega) e8 hu, Option.bind_some, if_neg e]
  | succ d ih =>
    intro i f hi hf
    obtain ⟨f, rfl⟩ : ∃ k, f = k + 1 := ⟨f - 1, by omega⟩
    by_cases c : τ.1 9 0 (40 * t + i) = 32
    · obtain ⟨p, x1, x2, x3⟩ := ih (i + 1) f (by omega) (by omega)
      have e : by_ (fun j => τ.1 9 0 (40 * t + j)) n i = 32 := (by32 _ _ _).mpr ⟨by omega, c⟩
      refine ⟨p, ?_, ?_, SkP_s (b := fun j => τ.1 9 0 (40 * t + j)) c x3⟩
      · rw [M_goesOn_L2, byte_eq ht hn (by omega) e8 hu, Option.bind_some, if_pos e, nI_1]; exact x1
      · rw [M_goesOn_L208, byte_eq ht hn (by omega) e8 hu, Option.bind_some, if_pos e, nI_1]; exact x2
    · have e : ¬ by_ (fun j => τ.1 9 0 (40 * t + j)) n i = 32 := fun z => c ((by32 _ _ _).mp z).2
      refine ⟨i, ?_, ?_, Nat.le_refl _, by omega, fun j h1 h2 => by omega, fun z => c z.2⟩
      · rw [M_goesOn_L2, byte_eq ht hn (by omega) e8 hu, Option.bind_some, if_neg e]
      · rw [M_goesOn_L208, byte_eq ht hn (by omega) e8 hu, Option.bind_some, if_neg e]
/-- the end: what follows a rule -/
theorem end_eq {σ τ s u : St} {t n i q : Nat} {rd : Int32} (ht : t < 4) (hn : n ≤ 40) (hi : i ≤ n) (hq : q < 100) (hiq : ¬ i = q) (e8 : τ.1 8 0 t = nI n) (hs : TxS σ (fun j => τ.1 9 0 (40 * t + j)) t n i rd s) (hu : RdS τ rd u) : ∃ res p s', Tx_readRule_J73 t s = some (res, s') ∧ M_goesOn_J201 (nI t) (nI i) (nI q) u = some (res, u) ∧ TxS σ (fun j => τ.1 9 0 (40 * t + j)) t n p rd s' := by
  obtain ⟨p, s', x1, x2, x3⟩ := skip_c hn (n - i) i 1100 s (by omega) (by omega) hs
  obtain ⟨p', y1, y2, y3⟩ := skip_m ht hn e8 hu (fun (v2_31 : Int32) (s_32 : St) => if inb (nI t) 4 = true then some ((if v2_31 = (s_32.1 8 0 ((nI t).toNatClampNeg)) then (-9) else v2_31 : Int32), s_32) else none) (n - i) i 1100 (by omega) (by omega)
  have e := SkP_uniq x3 y3
  subst e
  have hp := x3.2.1
  refine ⟨if n ≤ p then -9 else nI p, p, s', ?_, ?_, x2⟩
  · unfold Tx_readRule_J73 Tx_skipBlanks
    rw [x1, Option.bind_some, x2.2.1, x2.2.2.1]
    have q1 := nI_leI (a := n) (b := p) (by omega) (by omega)
    by_cases c : n ≤ p
    · rw [if_pos (q1.mpr c), if_pos c]
    · rw [if_neg (fun z => c (q1.mp z)), if_neg c]
  · unfold M_goesOn_J201
    have e9 : ¬ nI i = nI q := fun z => hiq ((nI_eq (by omega) (by omega)).mp z)
    rw [if_neg e9, y2, if_pos (inb_nI ht (by decide)), nI_clamp (n := t) (by omega), hu.1.2 8 0 t rfl, e8]
    have q1 := nI_eq (a := p) (b := n) (by omega) (by omega)
    by_cases c : n ≤ p
    · rw [if_pos (q1.mpr (by omega)), if_pos c]
    · rw [if_neg (fun z => c (by have := q1.mp z; omega)), if_neg c]
theorem sgby (b : Nat → Int32) (n i : Nat) (v : Int32) (h0 : ¬ (0 : Int32) = v) (h9 : ¬ (-9 : Int32) = v) : ((sg b n i = v) ↔ i < n ∧ b i = v) ∧ ((by_ b n i = v) ↔ i < n ∧ b i = v) := by
  unfold sg by_
  by_cases c : n ≤ i
  · rw [if_pos c, if_pos c]
    exact ⟨⟨fun z => absurd z h0, fun z => by omega⟩, ⟨fun z => absurd z h9, fun z => by omega⟩⟩
  · rw [if_neg c, if_neg c]
    exact ⟨⟨fun z => ⟨by omega, z⟩, fun z => z.2⟩, ⟨fun z => ⟨by omega, z⟩, fun z => z.2⟩⟩
theorem pw_eq : ∀ q, q < 5 → pw3 q = nI (3 ^ q) := by decide +kernel
theorem pw_1 : ∀ q, q < 5 → (1 : Int32) * pw3 q = nI (3 ^ q) * (1 + 0) := by decide +kernel
theorem pw_2 : ∀ q, q < 5 → (2 : Int32) * pw3 q = nI (3 ^ q) * (1 + 1) := by decide +kernel
def okL (v : Int32) : Prop := v = -1 ∨ ∃ l, l < 5 ∧ v = nI l
theorem okL_i {v : Int32} (h : okL v) : (-1 : Int) ≤ v.toInt := by
  rcases h with e | ⟨l, hl, e⟩
  · subst e; decide
  · subst e; rw [nI_toInt (by omega)]; omega
theorem notT {T v : Int32} (h : okL v) (hT : ¬ ∃ q, q < 5 ∧ T = nI q) : T ≤ v ∨ ¬ T < 5 := by
  rcases pk_ix T (n := 5) (by decide) with x | x | x
  · left
    have := okL_i h
    rw [Int32.lt_iff_toInt_lt, show (0 : Int32).toInt = 0 from by decide] at x
    rw [Int32.le_iff_toInt_le]
    omega
  · right; exact Int32.not_lt.mpr x
  · exact absurd x hT
/-- what the class does with what its letters came to -/
def clK (t : Nat) (o : Option (Int32 × St)) : Option (Int32 × St) := Option.bind o (fun r_15 => if r_15.1 = 0 then (some (r_15.2.1 20 t 3, r_15.2)) else (Tx_readRule_J73 t r_15.2))
theorem clK_0 {σ s : St} {b : Nat → Int32} {t n i : Nat} {rd : Int32} (h : TxS σ b t n i rd s) : clK t (some (0, s)) = some (nI i, s) := by
  unfold clK
  rw [Option.bind_some, if_pos rfl, h.2.2.1]
theorem clK_1 (t : Nat) (s : St) : clK t (some (1, s)) = Tx_readRule_J73 t s := by
  unfold clK
  rw [Option.bind_some, if_neg (show ¬ (1 : Int32) = 0 by decide)]
theorem clK_b (t : Nat) (o : Option Int32) (f : Int32 → Option (Int32 × St)) : clK t (Option.bind o f) = Option.bind o (fun x => clK t (f x)) := by
  cases o <;> rfl
