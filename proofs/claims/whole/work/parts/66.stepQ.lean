/-! ===== a text read as a rule ===== -/
def pTx (kd j : Nat) : Bool := kd == 20 && (j == 2 || j == 3)
theorem pTx_cs : ∀ k j, pCs k j = false → pTx k j = false := by
  intro k j h
  unfold pCs at h
  unfold pTx
  simp only [Bool.or_eq_false_iff, Bool.and_eq_false_iff, beq_eq_false_iff_ne] at h ⊢
  omega
def pRd (kd j : Nat) : Bool := kd == 0 && j == 23
theorem pRd_scr : ∀ k j, pScr k j = false → pRd k j = false := by
  intro k j h
  unfold pScr at h
  unfold pRd
  simp only [Bool.or_eq_false_iff, Bool.and_eq_false_iff, beq_eq_false_iff_ne] at h ⊢
  omega
/-- the class at place i, with rd read -/
def TxS (σ : St) (b : Nat → Int32) (t n i : Nat) (rd : Int32) (s : St) : Prop := Fr pTx σ s ∧ s.1 20 t 1 = nI n ∧ s.1 20 t 3 = nI i ∧ s.1 20 t 2 = rd ∧ ∀ j, j < 40 → s.1 21 t j = b j
/-- the reference, with rd read -/
def RdS (τ : St) (rd : Int32) (u : St) : Prop := Fr pRd τ u ∧ u.1 0 0 23 = rd
theorem TxS_p {σ s : St} {b : Nat → Int32} {t n i j : Nat} {rd : Int32} (h : TxS σ b t n i rd s) : TxS σ b t n j rd (sX s 20 t 3 (nI j)) := by
  obtain ⟨h1, h2, h3, h4, h5⟩ := h
  refine ⟨h1.st _ _ _ _ rfl, ?_, sX_s, ?_, ?_⟩
  · rw [sX_o (by omega)]; exact h2
  · rw [sX_o (by omega)]; exact h4
  · intro k hk
    rw [sX_o (by omega)]; exact h5 k hk
theorem TxS_r {σ s : St} {b : Nat → Int32} {t n i : Nat} {rd rd' : Int32} (h : TxS σ b t n i rd s) : TxS σ b t n i rd' (sX s 20 t 2 rd') := by
  obtain ⟨h1, h2, h3, h4, h5⟩ := h
  refine ⟨h1.st _ _ _ _ rfl, ?_, ?_, sX_s, ?_⟩
  · rw [sX_o (by omega)]; exact h2
  · rw [sX_o (by omega)]; exact h3
  · intro k hk
    rw [sX_o (by omega)]; exact h5 k hk
def sg (b : Nat → Int32) (n i : Nat) : Int32 := if n ≤ i then 0 else b i
def by_ (b : Nat → Int32) (n i : Nat) : Int32 := if n ≤ i then -9 else b i
theorem sign_eq {σ s : St} {b : Nat → Int32} {t n i : Nat} {rd : Int32} (hn : n ≤ 40) (hi : i ≤ n) (h : TxS σ b t n i rd s) : Tx_signHere t s = some (sg b n i) := by
  obtain ⟨h1, h2, h3, h4, h5⟩ := h
  unfold Tx_signHere sg
  rw [h2, h3]
  have q := nI_leI (a := n) (b := i) (by omega) (by omega)
  by_cases c : n ≤ i
  · rw [if_pos (q.mpr c), if_pos c]
  · rw [if_neg (fun z => c (q.mp z)), if_neg c, if_pos (inb_nI (by omega) (by decide)), nI_clamp (by omega), h5 i (by omega)]
theorem byte_eq {τ u : St} {t n i : Nat} {rd : Int32} (ht : t < 4) (hn : n ≤ 40) (hi : i < 100) (e8 : τ.1 8 0 t = nI n) (h : RdS τ rd u) : M_byteAt (nI t) (nI i) u = some (by_ (fun j => τ.1 9 0 (40 * t + j)) n i) := by
  unfold M_byteAt by_
  have e : u.1 8 0 t = nI n := (h.1.2 _ _ _ rfl).trans e8
  have q := nI_leI (a := n) (b := i) (by omega) (by omega)
  rw [if_pos (inb_nI ht (by decide)), nI_clamp (n := t) (by omega), e]
  by_cases c : n ≤ i
  · rw [if_pos (q.mpr c), if_pos c]
  · rw [if_neg (fun z => c (q.mp z)), if_neg c, ix40, if_pos (inb_nI (by omega) (by decide)), nI_clamp (by omega)]
    exact congrArg some (h.1.2 _ _ _ rfl)
/-- blanks skipped -/
def SkP (b : Nat → Int32) (n i p : Nat) : Prop := i ≤ p ∧ p ≤ n ∧ (∀ j, i ≤ j → j < p → b j = 32) ∧ ¬ (p < n ∧ b p = 32)
theorem SkP_uniq {b : Nat → Int32} {n i p q : Nat} (h : SkP b n i p) (h' : SkP b n i q) : p = q := by
  obtain ⟨a1, a2, a3, a4⟩ := h
  obtain ⟨b1, b2, b3, b4⟩ := h'
  by_cases c : p < q
  · exact absurd ⟨by omega, b3 p a1 c⟩ a4
  · by_cases d : q < p
    · exact absurd ⟨by omega, a3 q b1 d⟩ b4
    · omega
theorem SkP_s {b : Nat → Int32} {n i p : Nat} (h : b i = 32) (hp : SkP b n (i + 1) p) : SkP b n i p := by
  obtain ⟨a1, a2, a3, a4⟩ := hp
  refine ⟨by omega, a2, fun j h1 h2 => ?_, a4⟩
  by_cases e : j = i
  · subst e; exact h
  · exact a3 j (by omega) h2
theorem skip_c {σ : St} {b : Nat → Int32} {t n : Nat} {rd : Int32} (hn : n ≤ 40) : ∀ d i f s, i + d = n → d < f → TxS σ b t n i rd s → ∃ p s', Tx_skipBlanks_L0 t f s = some s' ∧ TxS σ b t n p rd s' ∧ SkP b n i p := by
  intro d
  induction d with
  | zero =>
    intro i f s hi hf h
    obtain ⟨f, rfl⟩ : ∃ k, f = k + 1 := ⟨f - 1, by omega⟩
    refine ⟨i, s, ?_, h, Nat.le_refl _, by omega, fun j h1 h2 => by omega, fun z => by omega⟩
    rw [Tx_skipBlanks_L0, h.2.1, h.2.2.1, if_pos (nI_le (by omega) (by omega))]
  | succ d ih =>
    intro i f s hi hf h
    obtain ⟨f, rfl⟩ : ∃ k, f = k + 1 := ⟨f - 1, by omega⟩
    have e1 := h.2.1
    have e3 := h.2.2.1
    have e21 := h.2.2.2.2 i (by omega)
    by_cases c : b i = 32
    · obtain ⟨p, s', x1, x2, x3⟩ := ih (i + 1) f (sX s 20 t 3 (nI (i + 1))) (by omega) (by omega) (TxS_p h)
      refine ⟨p, s', ?_, x2, SkP_s c x3⟩
      rw [Tx_skipBlanks_L0, e1, e3, if_neg (nI_ge (by omega) (by omega)), if_pos (inb_nI (by omega) (by decide)), nI_clamp (by omega), e21, if_pos c, nI_1]
      exact x1
    · refine ⟨i, s, ?_, h, Nat.le_refl _, by omega, fun j h1 h2 => by omega, fun z => c z.2⟩
      rw [Tx_skipBlanks_L0, e1, e3, if_neg (nI_ge (by omega) (by omega)), if_pos (inb_nI (by omega) (by decide)), nI_clamp (by omega), e21, if_neg c]
theorem by32 (b : Nat → Int32) (n i : Nat) : (by_ b n i = 32) ↔ i < n ∧ b i = 32 := by
  unfold by_
  by_cases c : n ≤ i
  · rw [if_pos c]; exact ⟨fun z => absurd z (by decide), fun z => by omega⟩
  · rw [if_neg c]; exact ⟨fun z => ⟨by omega, z⟩, fun z => z.2⟩
theorem skip_m {τ u : St} {t n : Nat} {rd : Int32} (ht : t < 4) (hn : n ≤ 40) (e8 : τ.1 8 0 t = nI n) (hu : RdS τ rd u) (K : Int32 → St → Option (Int32 × St)) : ∀ d i f, i + d = n → d < f → ∃ p, M_goesOn_L2 K (nI t) f (nI i) u = K (nI p) u ∧ M_goesOn_L208 K (nI t) f (nI i) u = K (nI p) u ∧ SkP (fun j => τ.1 9 0 (40 * t + j)) n i p := by
  intro d
  induction d with
  | zero =>
    intro i f hi hf
    obtain ⟨f, rfl⟩ : ∃ k, f = k + 1 := ⟨f - 1, by omega⟩
    have e : ¬ by_ (fun j => τ.1 9 0 (40 * t + j)) n i = 32 := fun z => by have := (by32 _ _ _).mp z; omega
    refine ⟨i, ?_, ?_, Nat.le_refl _, by omega, fun j h1 h2 => by omega, fun z => by omega⟩
    · rw [M_goesOn_L2, byte_eq ht hn (by omega) e8 hu, Option.bind_some, if_neg e]
    · rw [M_goesOn_L208, byte_eq ht hn (by omega) e8 hu, Option.bind_some, if_neg e]
  | succ d ih =>
    intro i f hi hf
    obtain ⟨f, rfl⟩ : ∃ k, f = k + 1 := ⟨f - 1, by omega⟩
    by_cases c : τ.1 9 0 (40 * t + i) = 32
    · obtain ⟨p, x1, x2, x3⟩ := ih (i + 1) f (by omega) (by omega)
      have e : by_ (fun j => τ.1 9 0 (40 * t + j)) n i = 32 := (by32 _ _ _).mpr ⟨by omega, c⟩
      refine ⟨p, ?_, ?_, SkP_s (b := fun j => τ.1 9 0 (40 * t + j)) c x3⟩
      · rw [M_goesOn_L2, byte_eq ht hn (by omega) e8 hu, Option.bind_some, if_pos e, nI_1]; exact x1
      · rw [M_goesOn_L208, byte_eq ht hn (by omega) e8 hu, Option.bind_some, if_pos e, nI_1]; exact x2
    · have e : ¬ by_ (fun j => τ.1 9 0 (40 * t + j)) n i = 32 := fun z => c ((by32 _ _ _).mp z).2
      refine ⟨i, ?_, ?_, Nat.le_refl _, by omega, fun j h1 h2 => by omega, fun z => c z.2⟩
      · rw [M_goesOn_L2, byte_eq ht hn (by omega) e8 hu, Option.bind_some, if_neg e]
      · rw [M_goesOn_L208, byte_eq ht hn (by omega) e8 hu, Option.bind_some, if_neg e]
def okR (v : Int32) : Prop := v = -9 ∨ ∃ k, k < 100 ∧ v = nI k
/-- the end: what follows a rule -/
theorem end_eq {σ τ s u : St} {t n i q : Nat} {rd : Int32} (ht : t < 4) (hn : n ≤ 40) (hi : i ≤ n) (hq : q < 100) (hiq : ¬ i = q) (e8 : τ.1 8 0 t = nI n) (hs : TxS σ (fun j => τ.1 9 0 (40 * t + j)) t n i rd s) (hu : RdS τ rd u) : ∃ res p s', Tx_readRule_J73 t s = some (res, s') ∧ M_goesOn_J201 (nI t) (nI i) (nI q) u = some (res, u) ∧ TxS σ (fun j => τ.1 9 0 (40 * t + j)) t n p rd s' ∧ okR res := by
  obtain ⟨p, s', x1, x2, x3⟩ := skip_c hn (n - i) i 1100 s (by omega) (by omega) hs
  obtain ⟨p', y1, y2, y3⟩ := skip_m ht hn e8 hu (fun (v2_31 : Int32) (s_32 : St) => if inb (nI t) 4 = true then some ((if v2_31 = (s_32.1 8 0 ((nI t).toNatClampNeg)) then (-9) else v2_31 : Int32), s_32) else none) (n - i) i 1100 (by omega) (by omega)
  have e := SkP_uniq x3 y3
  subst e
  have hp := x3.2.1
  refine ⟨if n ≤ p then -9 else nI p, p, s', ?_, ?_, x2, by unfold okR; split; exact Or.inl rfl; exact Or.inr ⟨p, by omega, rfl⟩⟩
  · unfold Tx_readRule_J73 Tx_skipBlanks
    rw [x1, Option.bind_some, x2.2.1, x2.2.2.1]
    have q1 := nI_leI (a := n) (b := p) (by omega) (by omega)
    by_cases c : n ≤ p
    · rw [if_pos (q1.mpr c), if_pos c]
    · rw [if_neg (fun z => c (q1.mp z)), if_neg c]
  · unfold M_goesOn_J201
    have e9 : ¬ nI i = nI q := fun z => hiq ((nI_eq (by omega) (by omega)).mp z)
    rw [if_neg e9, y2, if_pos (inb_nI ht (by decide)), nI_clamp (n := t) (by omega), hu.1.2 8 0 t rfl, e8]
    have q1 := nI_eq (a := p) (b := n) (by omega) (by omega)
    by_cases c : n ≤ p
    · rw [if_pos (q1.mpr (by omega)), if_pos c]
    · rw [if_neg (fun z => c (by have := q1.mp z; omega)), if_neg c]
theorem sgby (b : Nat → Int32) (n i : Nat) (v : Int32) (h0 : ¬ (0 : Int32) = v) (h9 : ¬ (-9 : Int32) = v) : ((sg b n i = v) ↔ i < n ∧ b i = v) ∧ ((by_ b n i = v) ↔ i < n ∧ b i = v) := by
  unfold sg by_
  by_cases c : n ≤ i
  · rw [if_pos c, if_pos c]
    exact ⟨⟨fun z => absurd z h0, fun z => by omega⟩, ⟨fun z => absurd z h9, fun z => by omega⟩⟩
  · rw [if_neg c, if_neg c]
    exact ⟨⟨fun z => ⟨by omega, z⟩, fun z => z.2⟩, ⟨fun z => ⟨by omega, z⟩, fun z => z.2⟩⟩
theorem pw_eq : ∀ q, q < 5 → pw3 q = nI (3 ^ q) := by decide +kernel
theorem pw_1 : ∀ q, q < 5 → (1 : Int32) * pw3 q = nI (3 ^ q) * (1 + 0) := by decide +kernel
theorem pw_2 : ∀ q, q < 5 → (2 : Int32) * pw3 q = nI (3 ^ q) * (1 + 1) := by decide +kernel
def okL (v : Int32) : Prop := v = -1 ∨ ∃ l, l < 5 ∧ v = nI l
theorem okL_i {v : Int32} (h : okL v) : (-1 : Int) ≤ v.toInt := by
  rcases h with e | ⟨l, hl, e⟩
  · subst e; decide
  · subst e; rw [nI_toInt (by omega)]; omega
theorem notT {T v : Int32} (h : okL v) (hT : ¬ ∃ q, q < 5 ∧ T = nI q) : T ≤ v ∨ ¬ T < 5 := by
  rcases pk_ix T (n := 5) (by decide) with x | x | x
  · left
    have := okL_i h
    rw [Int32.lt_iff_toInt_lt, show (0 : Int32).toInt = 0 from by decide] at x
    rw [Int32.le_iff_toInt_le]
    omega
  · right; exact Int32.not_lt.mpr x
  · exact absurd x hT
/-- what the class does with what its letters came to -/
def clK (t : Nat) (o : Option (Int32 × St)) : Option (Int32 × St) := Option.bind o (fun r_15 => if r_15.1 = 0 then (some (r_15.2.1 20 t 3, r_15.2)) else (Tx_readRule_J73 t r_15.2))
theorem clK_0 {σ s : St} {b : Nat → Int32} {t n i : Nat} {rd : Int32} (h : TxS σ b t n i rd s) : clK t (some (0, s)) = some (nI i, s) := by
  unfold clK
  rw [Option.bind_some, if_pos rfl, h.2.2.1]
theorem clK_1 (t : Nat) (s : St) : clK t (some (1, s)) = Tx_readRule_J73 t s := by
  unfold clK
  rw [Option.bind_some, if_neg (show ¬ (1 : Int32) = 0 by decide)]
theorem clK_b (t : Nat) (o : Option Int32) (f : Int32 → Option (Int32 × St)) : clK t (Option.bind o f) = Option.bind o (fun x => clK t (f x)) := by
  cases o <;> rfl
theorem sg_out : ¬ ∃ q, q < 5 ∧ (0 : Int32) - 97 = nI q := by
  rintro ⟨q, hq, e⟩
  have h : ∀ q, q < 5 → ¬ (0 : Int32) - 97 = nI q := by decide +kernel
  exact h q hq e
theorem by_out : ¬ ∃ q, q < 5 ∧ (-9 : Int32) - 97 = nI q := by
  rintro ⟨q, hq, e⟩
  have h : ∀ q, q < 5 → ¬ (-9 : Int32) - 97 = nI q := by decide +kernel
  exact h q hq e
/-- a letter stands at j -/
def isL (b : Nat → Int32) (n j q : Nat) : Prop := j < n ∧ q < 5 ∧ b j - 97 = nI q
theorem isL_c {b : Nat → Int32} {n j : Nat} : (∃ q, q < 5 ∧ sg b n j - 97 = nI q) ↔ ∃ q, isL b n j q := by
  unfold sg isL
  by_cases c : n ≤ j
  · rw [if_pos c]
    exact ⟨fun z => absurd z sg_out, fun ⟨q, h1, _⟩ => by omega⟩
  · rw [if_neg c]
    exact ⟨fun ⟨q, h1, h2⟩ => ⟨q, by omega, h1, h2⟩, fun ⟨q, h1, h2, h3⟩ => ⟨q, h2, h3⟩⟩
theorem isL_m {b : Nat → Int32} {n j : Nat} : (∃ q, q < 5 ∧ by_ b n j - 97 = nI q) ↔ ∃ q, isL b n j q := by
  unfold by_ isL
  by_cases c : n ≤ j
  · rw [if_pos c]
    exact ⟨fun z => absurd z by_out, fun ⟨q, h1, _⟩ => by omega⟩
  · rw [if_neg c]
    exact ⟨fun ⟨q, h1, h2⟩ => ⟨q, by omega, h1, h2⟩, fun ⟨q, h1, h2, h3⟩ => ⟨q, h2, h3⟩⟩
theorem letter_no {σ s : St} {b : Nat → Int32} {t n j : Nat} {rd last fig : Int32} (hn : n ≤ 40) (hj : j ≤ n) (hs : TxS σ b t n j rd s) (hl : okL last) (B : Int32 → St → Option (Int32 × St)) (hno : ¬ ∃ q, isL b n j q ∧ ¬ nI q ≤ last) : clK t (Tx_readLetters_J25 B t last fig s) = some (nI j, s) := by
  unfold Tx_readLetters_J25
  rw [sign_eq hn hj hs, Option.bind_some]
  by_cases c1 : sg b n j - 97 ≤ last
  · rw [if_pos c1]; exact clK_0 hs
  · rw [if_neg c1]
    by_cases c2 : sg b n j - 97 < 5
    · exfalso
      by_cases c3 : ∃ q, q < 5 ∧ sg b n j - 97 = nI q
      · obtain ⟨q, hq, e⟩ := c3
        obtain ⟨q', hL⟩ := isL_c.mp ⟨q, hq, e⟩
        refine hno ⟨q', hL, fun z => c1 ?_⟩
        have e2 : sg b n j = b j := by unfold sg; rw [if_neg (by have := hL.1; omega)]
        rw [e2, hL.2.2]; exact z
      · rcases notT hl c3 with x | x
        · exact c1 x
        · exact x c2
    · rw [if_neg c2]; exact clK_0 hs
theorem letter_yes {σ s : St} {b : Nat → Int32} {t n j q : Nat} {rd last fig : Int32} (hn : n ≤ 40) (hs : TxS σ b t n j rd s) (B : Int32 → St → Option (Int32 × St)) (hL : isL b n j q) (hq : ¬ nI q ≤ last) : ∃ s2, TxS σ b t n (j + 1) (rd + fig * pw3 q) s2 ∧ clK t (Tx_readLetters_J25 B t last fig s) = if n ≤ j + 1 ∨ b (j + 1) = 32 then Tx_readRule_J73 t s2 else clK t (B (nI q) s2) := by
  obtain ⟨h1, h2, h3⟩ := hL
  have e2 : sg b n j = b j := by unfold sg; rw [if_neg (by omega)]
  have hs2 : TxS σ b t n (j + 1) (rd + fig * pw3 q) (sX (sX s 20 t 2 (rd + fig * pw3 q)) 20 t 3 (nI (j + 1))) := TxS_p (TxS_r hs)
  refine ⟨_, hs2, ?_⟩
  unfold Tx_readLetters_J25
  have x3 : (sX s 20 t 2 (rd + fig * pw3 q)).1 20 t 3 = nI j := by rw [sX_o (by omega)]; exact hs.2.2.1
  have c5 : nI q < 5 := nI_lt (b := 5) h2 (by decide)
  rw [sign_eq hn (by omega) hs, Option.bind_some, e2, h3, if_neg hq, if_pos c5, if_pos (inb_nI h2 (by decide)), nI_clamp (n := q) (by omega), hs.2.2.2.1, x3, nI_1, hs2.2.1, hs2.2.2.1, sign_eq hn (by omega) hs2, Option.bind_some]
  have q1 := nI_leI (a := n) (b := j + 1) (by omega) (by omega)
  by_cases c : n ≤ j + 1
  · rw [if_pos (q1.mpr c), if_pos (Or.inl c)]; exact clK_1 _ _
  · have e3 : sg b n (j + 1) = b (j + 1) := by unfold sg; rw [if_neg c]
    rw [if_neg (fun z => c (q1.mp z)), e3]
    by_cases d : b (j + 1) = 32
    · rw [if_pos d, if_pos (Or.inr d)]; exact clK_1 _ _
    · rw [if_neg d, if_neg (fun z => by rcases z with z | z; exact c z; exact d z)]
theorem ref_no {τ u : St} {t n i nt : Nat} {rd last : Int32} (ht : t < 4) (hn : n ≤ 40) (hi : i + nt ≤ n) (hnt : nt < 2) (e8 : τ.1 8 0 t = nI n) (hu : RdS τ rd u) (K : Int32 → St → Option (Int32 × St)) (v3 : Int32) (hb : (by_ (fun k => τ.1 9 0 (40 * t + k)) n i = 33) ↔ nt = 1) (hno : ¬ ∃ q, isL (fun k => τ.1 9 0 (40 * t + k)) n (i + nt) q ∧ ¬ nI q ≤ last) (f : Nat) : ((nt = 1 ∨ ∃ q, isL (fun k => τ.1 9 0 (40 * t + k)) n (i + nt) q) → M_goesOn_L82 K (nI t) v3 (f + 1 + 1) (nI i) last 1 u = some (nI (i + nt), u)) ∧ (¬ (nt = 1 ∨ ∃ q, isL (fun k => τ.1 9 0 (40 * t + k)) n (i + nt) q) → M_goesOn_L82 K (nI t) v3 (f + 1 + 1) (nI i) last 1 u = K (nI i) u) := by
  have eN : (if by_ (fun k => τ.1 9 0 (40 * t + k)) n i = 33 then 1 else 0 : Int32) = nI nt := by
    by_cases c : nt = 1
    · rw [if_pos (hb.mpr c), c]; rfl
    · rw [if_neg (fun z => c (hb.mp z)), show nt = 0 by omega]; rfl
  have q1 := nI_eq (a := nt) (b := 1) (by omega) (by decide)
  rw [M_goesOn_L82, if_neg (show ¬ (1 : Int32) = 0 by decide), byte_eq ht hn (by omega) e8 hu, Option.bind_some, eN, nI_add, byte_eq ht hn (by omega) e8 hu, Option.bind_some]
  unfold M_goesOn_J198 M_isTrait
  by_cases c : ∃ q, isL (fun k => τ.1 9 0 (40 * t + k)) n (i + nt) q
  · obtain ⟨q, hq, e⟩ := isL_m.mpr c
    obtain ⟨q', hL⟩ := c
    have eb : by_ (fun k => τ.1 9 0 (40 * t + k)) n (i + nt) = τ.1 9 0 (40 * t + (i + nt)) := by unfold by_; rw [if_neg (by have := hL.1; omega)]
    have hle : nI q ≤ last := by
      by_cases z : nI q ≤ last
      · exact z
      · have e2 : nI q' = nI q := by rw [← e, eb]; exact hL.2.2.symm
        have e3 := (nI_eq (by have := hL.2.1; omega) (by omega)).mp e2
        subst e3
        exact absurd ⟨q', hL, z⟩ hno
    refine ⟨fun _ => ?_, fun z => absurd (Or.inr ⟨q', hL⟩) z⟩
    rw [e, if_neg (mi5 hq), if_pos hle, if_pos rfl, if_neg (mi5 hq)]
    split <;> rfl
  · have hT : ¬ ∃ q, q < 5 ∧ by_ (fun k => τ.1 9 0 (40 * t + k)) n (i + nt) - 97 = nI q := fun z => c (isL_m.mp z)
    rw [if_pos (mo5 hT), if_pos rfl, if_pos (mo5 hT)]
    by_cases d : nt = 1
    · refine ⟨fun _ => ?_, fun z => absurd (Or.inl d) z⟩
      rw [if_pos (show nI nt = 1 from q1.mpr d)]
    · refine ⟨fun z => by rcases z with z | z; exact absurd z d; exact absurd z c, fun _ => ?_⟩
      rw [if_neg (show ¬ nI nt = 1 from fun z => d (q1.mp z)), M_goesOn_L82, if_pos rfl]
theorem ref_yes {τ u : St} {t n i nt q : Nat} {rd last : Int32} (ht : t < 4) (hn : n ≤ 40) (hnt : nt < 2) (e8 : τ.1 8 0 t = nI n) (hu : RdS τ rd u) (K : Int32 → St → Option (Int32 × St)) (v3 : Int32) (hb : (by_ (fun k => τ.1 9 0 (40 * t + k)) n i = 33) ↔ nt = 1) (hL : isL (fun k => τ.1 9 0 (40 * t + k)) n (i + nt) q) (hq : ¬ nI q ≤ last) (f : Nat) : M_goesOn_L82 K (nI t) v3 (f + 1) (nI i) last 1 u = M_goesOn_L82 K (nI t) v3 f (nI (i + nt + 1)) (nI q) 1 (sX u 0 0 23 (rd + nI (3 ^ q) * (1 + nI nt))) := by
  have eN : (if by_ (fun k => τ.1 9 0 (40 * t + k)) n i = 33 then 1 else 0 : Int32) = nI nt := by
    by_cases c : nt = 1
    · rw [if_pos (hb.mpr c), c]; rfl
    · rw [if_neg (fun z => c (hb.mp z)), show nt = 0 by omega]; rfl
  have h1 := hL.1
  have h2 := hL.2.1
  have eb : by_ (fun k => τ.1 9 0 (40 * t + k)) n (i + nt) = τ.1 9 0 (40 * t + (i + nt)) := by unfold by_; rw [if_neg (by omega)]
  have e3 : τ.1 9 0 (40 * t + (i + nt)) - 97 = nI q := hL.2.2
  rw [M_goesOn_L82, if_neg (show ¬ (1 : Int32) = 0 by decide), byte_eq ht hn (by omega) e8 hu, Option.bind_some, eN, nI_add, byte_eq ht hn (by omega) e8 hu, Option.bind_some, eb, e3]
  unfold M_goesOn_J198 M_isTrait
  rw [if_neg (mi5 h2), if_neg hq, if_neg (show ¬ (1 : Int32) = 0 by decide), M_power_eq h2, Option.bind_some, hu.2, nI_1, nI_add, Nat.add_assoc]
theorem letters {σ τ : St} {t n q0 : Nat} (ht : t < 4) (hn : n ≤ 40) (e8 : τ.1 8 0 t = nI n) : ∀ D i last rd s u f f', i ≤ n → n - i ≤ D → D < f → D + 1 < f' → TxS σ (fun k => τ.1 9 0 (40 * t + k)) t n i rd s → RdS τ rd u → okL last → (q0 = i ∨ (q0 < i ∧ i < n ∧ ¬ τ.1 9 0 (40 * t + i) = 32)) → ∃ res p rd' s' u', clK t (Tx_readLetters_L2 t f last s) = some (res, s') ∧ M_goesOn_L82 (fun v2 s => M_goesOn_J201 (nI t) v2 (nI q0) s) (nI t) (nI q0) f' (nI i) last 1 u = some (res, u') ∧ TxS σ (fun k => τ.1 9 0 (40 * t + k)) t n p rd' s' ∧ RdS τ rd' u' ∧ okR res := by
  intro D
  induction D with
  | zero =>
    intro i last rd s u f f' hi hD hf hf' hs hu hl hq
    have ei : i = n := by omega
    have eq : q0 = i := by omega
    subst eq
    obtain ⟨f, rfl⟩ : ∃ k, f = k + 1 := ⟨f - 1, by omega⟩
    obtain ⟨f', rfl⟩ : ∃ k, f' = k + 1 + 1 := ⟨f' - 2, by omega⟩
    have hno : ¬ ∃ q, isL (fun k => τ.1 9 0 (40 * t + k)) n q0 q := fun ⟨q, h1, _⟩ => by omega
    have hsb := sgby (fun k => τ.1 9 0 (40 * t + k)) n q0 33 (by decide) (by decide)
    have c33 : ¬ sg (fun k => τ.1 9 0 (40 * t + k)) n q0 = 33 := fun z => by have := hsb.1.mp z; omega
    have hr := ref_no (nt := 0) (last := last) ht hn (by omega) (by decide) e8 hu (fun v2 s => M_goesOn_J201 (nI t) v2 (nI q0) s) (nI q0) (by rw [hsb.2]; omega) (fun ⟨q, h1, _⟩ => hno ⟨q, h1⟩) f'
    have hr := hr.2 (fun z => by rcases z with z | z; omega; exact hno z)
    refine ⟨nI q0, q0, rd, s, u, ?_, ?_, hs, hu, Or.inr ⟨q0, by omega, rfl⟩⟩
    · rw [Tx_readLetters_L2, sign_eq hn hi hs, Option.bind_some, if_neg c33]
      exact letter_no hn hi hs hl _ (fun ⟨q, h1, _⟩ => hno ⟨q, h1⟩)
    · rw [hr]
      unfold M_goesOn_J201
      rw [if_pos rfl]
  | succ D ih =>
    intro i last rd s u f f' hi hD hf hf' hs hu hl hq
    obtain ⟨f, rfl⟩ : ∃ k, f = k + 1 := ⟨f - 1, by omega⟩
    obtain ⟨f', rfl⟩ : ∃ k, f' = k + 1 + 1 := ⟨f' - 2, by omega⟩
    have hsb := sgby (fun k => τ.1 9 0 (40 * t + k)) n i 33 (by decide) (by decide)
    -- the figure
    have hfig : ∃ nt fig s1, nt < 2 ∧ i + nt ≤ n ∧ ((by_ (fun k => τ.1 9 0 (40 * t + k)) n i = 33) ↔ nt = 1) ∧ TxS σ (fun k => τ.1 9 0 (40 * t + k)) t n (i + nt) rd s1 ∧ Tx_readLetters_L2 t (f + 1) last s = Tx_readLetters_J25 (Tx_readLetters_L2 t f) t last fig s1 ∧ ∀ q, q < 5 → fig * pw3 q = nI (3 ^ q) * (1 + nI nt) := by
      by_cases c : i < n ∧ τ.1 9 0 (40 * t + i) = 33
      · refine ⟨1, 2, sX s 20 t 3 (nI (i + 1)), by decide, by omega, ⟨fun _ => rfl, fun _ => hsb.2.mpr c⟩, TxS_p hs, ?_, pw_2⟩
        rw [Tx_readLetters_L2, sign_eq hn hi hs, Option.bind_some, if_pos (hsb.1.mpr c), hs.2.2.1, nI_1]
      · refine ⟨0, 1, s, by decide, by omega, ⟨fun z => absurd (hsb.2.mp z) c, fun z => absurd z (by decide)⟩, hs, ?_, pw_1⟩
        rw [Tx_readLetters_L2, sign_eq hn hi hs, Option.bind_some, if_neg (fun z => c (hsb.1.mp z))]
    obtain ⟨nt, fig, s1, hnt, hin, hb, hs1, hst, hpw⟩ := hfig
    by_cases hgo : ∃ q, isL (fun k => τ.1 9 0 (40 * t + k)) n (i + nt) q ∧ ¬ nI q ≤ last
    · obtain ⟨q, hL, hqq⟩ := hgo
      have hjn := hL.1
      have hq5 := hL.2.1
      obtain ⟨s2, x1, x2⟩ := letter_yes (fig := fig) hn hs1 (Tx_readLetters_L2 t f) hL hqq
      have hry := ref_yes ht hn hnt e8 hu (fun v2 s => M_goesOn_J201 (nI t) v2 (nI q0) s) (nI q0) hb hL hqq (f' + 1)
      have hu2 : RdS τ (rd + fig * pw3 q) (sX u 0 0 23 (rd + nI (3 ^ q) * (1 + nI nt))) := ⟨hu.1.st _ _ _ _ rfl, by rw [sX_s, hpw q hq5]⟩
      have hq0 : q0 < i + nt + 1 := by omega
      by_cases c : n ≤ i + nt + 1 ∨ τ.1 9 0 (40 * t + (i + nt + 1)) = 32
      · rw [if_pos c] at x2
        -- the rule ends here
        obtain ⟨res, p, s', y1, y2, y3, y4⟩ := end_eq (q := q0) ht hn (show i + nt + 1 ≤ n by omega) (by omega) (by omega) e8 x1 hu2
        have hno : ¬ ∃ r, isL (fun k => τ.1 9 0 (40 * t + k)) n (i + nt + 1) r := by
          rintro ⟨r, r1, r2, r3⟩
          rcases c with c | c
          · omega
          · have r3' : τ.1 9 0 (40 * t + (i + nt + 1)) - 97 = nI r := r3
            rw [c] at r3'
            have hh : ∀ r, r < 5 → ¬ (32 : Int32) - 97 = nI r := by decide +kernel
            exact hh r r2 r3'
        have h33 : ¬ by_ (fun k => τ.1 9 0 (40 * t + k)) n (i + nt + 1) = 33 := by
          intro z
          have := (sgby (fun k => τ.1 9 0 (40 * t + k)) n (i + nt + 1) 33 (by decide) (by decide)).2.mp z
          rcases c with c | c
          · omega
          · have e2 := this.2
            rw [c] at e2
            exact absurd e2 (by decide)
        obtain ⟨f'', rfl⟩ : ∃ k, f' = k + 1 := ⟨f' - 1, by omega⟩
        have hrn := ref_no (nt := 0) (last := nI q) ht hn (show i + nt + 1 + 0 ≤ n by omega) (by decide) e8 hu2 (fun v2 s => M_goesOn_J201 (nI t) v2 (nI q0) s) (nI q0) ⟨fun z => absurd z h33, fun z => absurd z (by decide)⟩ (fun ⟨r, h1, _⟩ => hno ⟨r, h1⟩) f''
        have hrn := hrn.2 (fun z => by rcases z with z | z; omega; exact hno z)
        refine ⟨res, p, _, s', _, ?_, ?_, y3, hu2, y4⟩
        · rw [hst, x2]; exact y1
        · rw [hry, hrn]; exact y2
      · rw [if_neg c] at x2
        have c1 : ¬ n ≤ i + nt + 1 := fun z => c (Or.inl z)
        have c2 : ¬ τ.1 9 0 (40 * t + (i + nt + 1)) = 32 := fun z => c (Or.inr z)
        obtain ⟨res, p, rd', s', u', y1, y2, y3, y4, y5⟩ := ih (i + nt + 1) (nI q) (rd + fig * pw3 q) s2 (sX u 0 0 23 (rd + nI (3 ^ q) * (1 + nI nt))) f (f' + 1) (by omega) (by omega) (by omega) (by omega) x1 hu2 (Or.inr ⟨q, hq5, rfl⟩) (Or.inr ⟨hq0, by omega, c2⟩)
        refine ⟨res, p, rd', s', u', ?_, ?_, y3, y4, y5⟩
        · rw [hst, x2]; exact y1
        · rw [hry]; exact y2
    · have hcn := letter_no (fig := fig) hn hin hs1 hl (Tx_readLetters_L2 t f) hgo
      have hrn := ref_no ht hn hin hnt e8 hu (fun v2 s => M_goesOn_J201 (nI t) v2 (nI q0) s) (nI q0) hb hgo f'
      refine ⟨nI (i + nt), i + nt, rd, s1, u, ?_, ?_, hs1, hu, Or.inr ⟨i + nt, by omega, rfl⟩⟩
      · rw [hst]; exact hcn
      · by_cases c : nt = 1 ∨ ∃ q, isL (fun k => τ.1 9 0 (40 * t + k)) n (i + nt) q
        · rw [hrn.1 c]
        · rw [hrn.2 c]
          have e0 : nt = 0 := by
            by_cases z : nt = 1
            · exact absurd (Or.inl z) c
            · omega
          subst e0
          rw [Nat.add_zero i]
          unfold M_goesOn_J201
          rcases hq with e | ⟨h1, h2, h3⟩
          · rw [e, if_pos rfl]
          · have e9 : ¬ nI i = nI q0 := fun z => by have := (nI_eq (by omega) (by omega)).mp z; omega
            obtain ⟨p', y1, y2, y3⟩ := skip_m ht hn e8 hu (fun (v2_31 : Int32) (s_32 : St) => if inb (nI t) 4 = true then some ((if v2_31 = (s_32.1 8 0 ((nI t).toNatClampNeg)) then (-9) else v2_31 : Int32), s_32) else none) (n - i) i 1100 (by omega) (by omega)
            have ep : p' = i := SkP_uniq y3 ⟨Nat.le_refl _, hi, fun j a b => by omega, fun z => h3 z.2⟩
            subst ep
            have e10 : ¬ nI p' = nI n := fun z => by have := (nI_eq (by omega) (by omega)).mp z; omega
            rw [if_neg e9, y2, if_pos (inb_nI ht (by decide)), nI_clamp (n := t) (by omega), hu.1.2 8 0 t rfl, e8, if_neg e10]
/-- both read a text alike -/
theorem read_rule {σ τ : St} (h : Inv σ τ) {t n : Nat} (ht : t < 4) (hn : n ≤ 40) (e1 : τ.1 8 0 t = nI n) (e2 : σ.1 20 t 1 = nI n) : ∃ res rd s u, Tx_readRule t σ = some (res, s) ∧ M_goesOn (nI t) τ = some (res, u) ∧ Inv s u ∧ s.1 20 t 2 = rd ∧ u.1 0 0 23 = rd ∧ okR res := by
  have hb : ∀ j, j < 40 → σ.1 21 t j = τ.1 9 0 (40 * t + j) := fun j hj => h.c.2.1.2 t ht j hj
  have hS0 : TxS σ (fun k => τ.1 9 0 (40 * t + k)) t n 0 0 (sX (sX σ 20 t 3 0) 20 t 2 0) := by
    refine ⟨((Fr.rf _ _).st _ _ _ _ rfl).st _ _ _ _ rfl, ?_, ?_, sX_s, ?_⟩
    · rw [sX_o (by omega), sX_o (by omega)]; exact e2
    · rw [sX_o (by omega), sX_s]; rfl
    · intro j hj
      rw [sX_o (by omega), sX_o (by omega)]; exact hb j hj
  have hfin : ∀ {p : Nat} {rd : Int32} {s u : St}, TxS σ (fun k => τ.1 9 0 (40 * t + k)) t n p rd s → RdS τ rd u → Inv s u ∧ s.1 20 t 2 = rd ∧ u.1 0 0 23 = rd := by
    intro p rd s u hs hu
    exact ⟨Inv_ms (Inv_fr (hs.1.wk pTx_cs) h) (hu.1.wk pRd_scr), hs.2.2.2.1, hu.2⟩
  obtain ⟨p, s1, x1, x2, x3⟩ := skip_c hn n 0 1100 _ (by omega) (by omega) hS0
  have hR0 : ∀ u, Fr pRd τ u → RdS τ (u.1 0 0 23) u := fun u hu => ⟨hu, rfl⟩
  obtain ⟨p', y1, -, y3⟩ := skip_m ht hn e1 (hR0 τ (Fr.rf _ _)) (fun (v2_8 : Int32) (s_9 : St) => Option.bind (M_byteAt (nI t) v2_8 (sX s_9 0 0 23 0)) (fun r_10 => if r_10 = 48 then (M_goesOn_J48 (nI t) v2_8 v2_8 (sX s_9 0 0 23 0)) else (Option.bind (M_byteAt (nI t) v2_8 (sX s_9 0 0 23 0)) (fun r_36 => if r_36 = 49 then (M_goesOn_J48 (nI t) v2_8 v2_8 (sX s_9 0 0 23 0)) else (M_goesOn_L82 (fun (v2_68 : Int32) (s_69 : St) => M_goesOn_J201 (nI t) v2_68 v2_8 s_69) (nI t) v2_8 1100 v2_8 (-1) 1 (sX s_9 0 0 23 0)))))) n 0 1100 (by omega) (by omega)
  have e := SkP_uniq x3 y3
  subst e
  have hp := x3.2.1
  have hu1 : RdS τ 0 (sX τ 0 0 23 0) := ⟨(Fr.rf _ _).st _ _ _ _ rfl, sX_s⟩
  have s48 := sgby (fun k => τ.1 9 0 (40 * t + k)) n p 48 (by decide) (by decide)
  have s49 := sgby (fun k => τ.1 9 0 (40 * t + k)) n p 49 (by decide) (by decide)
  have hgoes : M_goesOn (nI t) τ = _ := y1
  unfold Tx_readRule Tx_skipBlanks
  rw [x1, Option.bind_some, sign_eq hn hp x2, Option.bind_some, hgoes, byte_eq ht hn (by omega) e1 hu1, Option.bind_some, Option.bind_some]
  have hconst : ∀ v : Int32, (v = 48 ∨ v = 49) → p < n → τ.1 9 0 (40 * t + p) = v → ∃ res rd s u, Tx_readRule_J31 t v s1 = some (res, s) ∧ M_goesOn_J48 (nI t) (nI p) (nI p) (sX τ 0 0 23 0) = some (res, u) ∧ Inv s u ∧ s.1 20 t 2 = rd ∧ u.1 0 0 23 = rd ∧ okR res := by
    intro v hv hpn hbv
    have eb : by_ (fun k => τ.1 9 0 (40 * t + k)) n p = v := by unfold by_; rw [if_neg (by omega)]; exact hbv
    have hs2 : TxS σ (fun k => τ.1 9 0 (40 * t + k)) t n (p + 1) (if v = 48 then 243 else 0) (sX (sX s1 20 t 2 (if v = 48 then 243 else 0)) 20 t 3 (nI (p + 1))) := TxS_p (TxS_r x2)
    have hu2 : RdS τ (if v = 48 then 243 else 0) (sX (sX τ 0 0 23 0) 0 0 23 (if v = 48 then 243 else 0)) := ⟨hu1.1.st _ _ _ _ rfl, sX_s⟩
    obtain ⟨res, p2, s', z1, z2, z3, z4⟩ := end_eq (q := p) ht hn (show p + 1 ≤ n by omega) (by omega) (by omega) e1 hs2 hu2
    obtain ⟨f1, f2, f3⟩ := hfin z3 hu2
    refine ⟨res, _, s', _, ?_, ?_, f1, f2, f3, z4⟩
    · unfold Tx_readRule_J31
      have : (sX s1 20 t 2 (if v = 48 then 243 else 0)).1 20 t 3 = nI p := by rw [sX_o (by omega)]; exact x2.2.2.1
      rw [this, nI_1]; exact z1
    · unfold M_goesOn_J48
      rw [byte_eq ht hn (by omega) e1 hu1, Option.bind_some, eb, nI_1]; exact z2
  by_cases c8 : p < n ∧ τ.1 9 0 (40 * t + p) = 48
  · have es : sg (fun k => τ.1 9 0 (40 * t + k)) n p = 48 := s48.1.mpr c8
    rw [if_pos es, if_pos (s48.2.mpr c8), es]
    exact hconst 48 (Or.inl rfl) c8.1 c8.2
  · rw [if_neg (fun z => c8 (s48.1.mp z)), if_neg (fun z => c8 (s48.2.mp z))]
    by_cases c9 : p < n ∧ τ.1 9 0 (40 * t + p) = 49
    · have es : sg (fun k => τ.1 9 0 (40 * t + k)) n p = 49 := s49.1.mpr c9
      rw [if_pos es, if_pos (s49.2.mpr c9), es]
      exact hconst 49 (Or.inr rfl) c9.1 c9.2
    · rw [if_neg (fun z => c9 (s49.1.mp z)), if_neg (fun z => c9 (s49.2.mp z))]
      obtain ⟨res, p2, rd', s', u', z1, z2, z3, z4, z5⟩ := letters (σ := σ) (q0 := p) ht hn e1 40 p (-1) 0 s1 (sX τ 0 0 23 0) 1100 1100 hp (by omega) (by decide) (by decide) x2 hu1 (Or.inl rfl) (Or.inl rfl)
      obtain ⟨f1, f2, f3⟩ := hfin z3 z4
      exact ⟨res, rd', s', u', z1, z2, f1, f2, f3, z5⟩
theorem step_14 : Stp_14 Inv := by
  intro a1 σ τ h
  unfold Q_fault M_fault
  by_cases hx : ∃ j, j < 4 ∧ a1 = nI j
  · obtain ⟨t, ht, rfl⟩ := hx
    have hi : inb (nI t) 4 = true := inb_nI ht (by decide)
    rw [if_neg (wi4 ht), if_pos hi, nI_clamp (n := t) (by omega)]
    rcases text_sz h ht with ⟨e1, e2⟩ | ⟨n, hn, e1, e2⟩
    · obtain ⟨σ', τ', (h1 : Q_refuse 1 σ = _), (h2 : M_meets 1 τ = _), h3⟩ := refuse_eq h (f := 1) (by decide)
      rw [askedText_no ht e1, e2, if_pos rfl, h1, h2]
      exact ⟨_, _, _, rfl, rfl, h3⟩
    · obtain ⟨res, rd, s, u, x1, x2, x3, -⟩ := read_rule h ht hn e1 e2
      rw [askedText_yes ht hn e1, e2, if_neg (nIm1 hn), if_pos hi, x1, Option.bind_some, Option.bind_some]
      dsimp only
      rw [if_pos (show (0 : Int32) ≤ 0 from by decide), x2]
      exact ⟨_, _, _, rfl, rfl, x3⟩
  · rw [if_pos (wo4 hx), askedText_out τ hx]
    exact ⟨_, _, _, rfl, rfl, h⟩
theorem step_15 : Stp_15 Inv := by
  intro a1 σ τ h
  unfold Q_rule M_rule M_fault
  by_cases hx : ∃ j, j < 4 ∧ a1 = nI j
  · obtain ⟨t, ht, rfl⟩ := hx
    have hi : inb (nI t) 4 = true := inb_nI ht (by decide)
    rw [if_neg (wi4 ht), if_pos hi, nI_clamp (n := t) (by omega)]
    rcases text_sz h ht with ⟨e1, e2⟩ | ⟨n, hn, e1, e2⟩
    · obtain ⟨σ', τ', (h1 : Q_refuse 1 σ = _), (h2 : M_meets 1 τ = _), h3⟩ := refuse_eq h (f := 1) (by decide)
      rw [askedText_no ht e1, e2, if_pos rfl, h1, h2]
      exact ⟨_, _, _, rfl, rfl, h3⟩
    · obtain ⟨res, rd, s, u, x1, x2, x3, x4, x5, x6⟩ := read_rule h ht hn e1 e2
      rw [askedText_yes ht hn e1, e2, if_neg (nIm1 hn), x1, Option.bind_some, Option.bind_some]
      dsimp only
      rw [if_pos (show (0 : Int32) ≤ 0 from by decide), x2, Option.bind_some, Option.bind_some]
      dsimp only
      rw [x4, x5]
      refine ⟨_, _, _, rfl, ?_, x3⟩
      rcases x6 with e | ⟨k, hk, e⟩
      · rw [e]; rfl
      · rw [e, if_neg (neg9 (by omega)), if_neg (nI_pos (by omega)), if_neg (neg9 (by omega))]
  · rw [if_pos (wo4 hx), askedText_out τ hx]
    exact ⟨_, _, _, rfl, rfl, h⟩
