/-! ===== saying, sayings ===== -/
theorem year_eq {σ τ : St} (h : Inv σ τ) (v1 v2 : Int32) : (∃ m y, m < nM τ ∧ v1 = nI m ∧ v2 = nI y ∧ tn (τ.1 13 0 m) ≤ y ∧ y ≤ tn (τ.1 14 0 m) ∧ y < 1000 ∧ Bk_hasYear v1 v2 σ = some 1 ∧ M_isOf v1 v2 τ = some 1) ∨ (Bk_hasYear v1 v2 σ = some 0 ∧ M_isOf v1 v2 τ = some 0) := by
  have hM := h.w.nM8
  unfold Bk_hasYear M_isOf
  by_cases hx : ∃ j, j < nM τ ∧ v1 = nI j
  · obtain ⟨m, hm, rfl⟩ := hx
    obtain ⟨B, D, x1, x2, x3, x4, x5, x6⟩ := life_at h hm
    have hi : inb (nI m) 8 = true := inb_nI (by omega) (by decide)
    rw [if_neg (hasM_in h hm).1, if_neg (hasM_in h hm).2, if_pos hi, if_pos hi, if_pos hi, if_pos hi, nI_clamp (n := m) (by omega), x3, x4, x5, x6]
    unfold M_in
    by_cases c1 : v2 < nI B
    · right
      rw [if_pos c1, if_pos c1, if_pos rfl]
      exact ⟨rfl, rfl⟩
    · by_cases c2 : nI D < v2
      · right
        rw [if_neg c1, if_neg c1, if_pos c2]
        exact ⟨rfl, rfl⟩
      · left
        have h0 : ¬ v2 < 0 := fun z => c1 (by
          rw [Int32.lt_iff_toInt_lt] at z ⊢
          rw [nI_toInt (by omega)]
          rw [show (0 : Int32).toInt = 0 from by decide] at z
          omega)
        obtain ⟨y, hy, rfl⟩ := nI_of2 (M := nI D) (n := D) (by rw [nI_toInt (by omega)]) h0 (Int32.not_lt.mp c2)
        have q := nI_ltI (a := y) (b := B) (by omega) (by omega)
        refine ⟨m, y, hm, rfl, rfl, ?_, ?_, by omega, ?_, ?_⟩
        · rw [x3, tn_nI (by omega)]
          by_cases z : B ≤ y
          · exact z
          · exact absurd (q.mpr (by omega)) c1
        · rw [x4, tn_nI (by omega)]; exact hy
        · rw [if_neg c1, if_neg c2]
        · rw [if_neg c1, if_neg c2, if_neg (show ¬ (1 : Int32) = 0 by decide)]
  · right
    rw [if_pos (hasM_out h hx).1, if_pos (hasM_out h hx).2]
    exact ⟨rfl, rfl⟩
theorem room_eq {σ τ : St} (h : Inv σ τ) {m k : Nat} (hm : m < nM τ) (hk : k ≤ 40) : Bk_hasRoom (nI m) (nI k) σ = some (if nS τ + k ≤ 24 ∧ kO τ m + k ≤ 9 then 1 else 0) := by
  have hM := h.w.nM8
  have hS := h.w.nS24
  have h9 := h.w.k9 m
  have e7 : σ.1 3 0 7 = nI (nS τ) := h.c.say.1.trans h.w.1.2.2.1.1
  have e5 := h.c.many (m := m) (by omega)
  unfold Bk_hasRoom
  rw [e7, nI_add, if_pos (inb_nI (by omega) (by decide)), nI_clamp (n := m) (by omega), e5, nI_add]
  have q1 := nI_ltI (a := 24) (b := nS τ + k) (by decide) (by omega)
  have q2 := nI_ltI (a := 9) (b := kO τ m + k) (by decide) (by omega)
  by_cases c1 : 24 < nS τ + k
  · rw [if_pos (show (24 : Int32) < nI (nS τ + k) from q1.mpr c1), if_neg (by omega)]
  · rw [if_neg (show ¬ (24 : Int32) < nI (nS τ + k) from fun z => c1 (q1.mp z))]
    by_cases c2 : 9 < kO τ m + k
    · rw [if_pos (show (9 : Int32) < nI (kO τ m + k) from q2.mpr c2), if_neg (by omega)]
    · rw [if_neg (show ¬ (9 : Int32) < nI (kO τ m + k) from fun z => c2 (q2.mp z)), if_pos (by omega)]
theorem rmY {σ τ : St} (h : Inv σ τ) {m k : Nat} (hm : m < nM τ) (hk : k ≤ 40) (c : nS τ + k ≤ 24 ∧ kO τ m + k ≤ 9) : Bk_hasRoom (nI m) (nI k) σ = some 1 := by
  rw [room_eq h hm hk, if_pos c]
theorem rmN {σ τ : St} (h : Inv σ τ) {m k : Nat} (hm : m < nM τ) (hk : k ≤ 40) (c : ¬ (nS τ + k ≤ 24 ∧ kO τ m + k ≤ 9)) : Bk_hasRoom (nI m) (nI k) σ = some 0 := by
  rw [room_eq h hm hk, if_neg c]
theorem step_9 : Stp_9 Inv := by
  intro a1 a2 a3 a4 a5 σ τ h
  unfold Q_saying M_saying
  have hS := h.w.nS24
  have hM := h.w.nM8
  rcases year_eq h a1 a3 with ⟨m, y, hm, rfl, rfl, hy1, hy2, hyb, e1, e2⟩ | ⟨e1, e2⟩
  · rw [e1, e2, Option.bind_some, Option.bind_some, if_neg (show ¬ (1 : Int32) = 0 by decide), if_neg (show ¬ (1 : Int32) = 0 by decide)]
    by_cases hx : ∃ j, j < nC τ ∧ a2 = nI j
    · obtain ⟨c, hc, rfl⟩ := hx
      rw [if_neg (hasC_in h hc).1, if_neg (hasC_in h hc).2]
      by_cases hz : ∃ j, j < 2 ∧ a4 = nI j
      · obtain ⟨a, ha, rfl⟩ := hz
        rw [if_neg (wi2 ha), if_neg (mi2 ha)]
        have hgo : okB a5 → ∃ r σ' τ', Q_saying_J52 (nI m) (nI c) (nI y) (nI a) a5 σ = some (r, σ') ∧ M_saying_J44 (nI m) (nI c) (nI y) (nI a) a5 τ = some (r, τ') ∧ Inv σ' τ' := by
          intro hb
          have h9 := h.w.k9 m
          have e16 : τ.1 0 0 16 = nI (nS τ) := h.w.1.2.2.1.1
          have q1 := nI_eq (a := nS τ) (b := 24) (by omega) (by decide)
          have q2 := nI_eq (a := kO τ m) (b := 9) (by omega) (by decide)
          unfold Q_saying_J52 M_saying_J44 M_saying_J63
          rw [e16, sayingsOf_eq h.w (by omega), Option.bind_some]
          by_cases c1 : nS τ = 24
          · have hr : Bk_hasRoom (nI m) 1 σ = some 0 := rmN h hm (k := 1) (by decide) (by omega)
            rw [hr, Option.bind_some, if_pos (show nI (nS τ) = 24 from q1.mpr c1)]
            exact ⟨_, _, _, rfl, rfl, h⟩
          · rw [if_neg (show ¬ nI (nS τ) = 24 from fun z => c1 (q1.mp z))]
            by_cases c2 : kO τ m = 9
            · have hr : Bk_hasRoom (nI m) 1 σ = some 0 := rmN h hm (k := 1) (by decide) (by omega)
              rw [hr, Option.bind_some, if_pos (show nI (kO τ m) = 9 from q2.mpr c2)]
              exact ⟨_, _, _, rfl, rfl, h⟩
            · have hr : Bk_hasRoom (nI m) 1 σ = some 1 := rmY h hm (k := 1) (by decide) (by omega)
              rw [hr, Option.bind_some, if_neg (show ¬ nI (kO τ m) = 9 from fun z => c2 (q2.mp z)), if_neg (show ¬ (1 : Int32) = 0 by decide)]
              obtain ⟨σ', τ', x1, x2, x3, -⟩ := new_say h (m := m) (c := c) (y := y) (a := a) (b := a5) (by omega) hm (by omega) hc hy1 hy2 hyb ha hb
              rw [x1, x2]
              exact ⟨_, _, _, rfl, rfl, x3⟩
        by_cases h5 : a5 = -9
        · rw [if_pos h5, if_pos h5]; exact hgo (Or.inl h5)
        · rw [if_neg h5, if_neg h5]
          by_cases hw : ∃ j, j < 5 ∧ a5 = nI j
          · obtain ⟨t, ht, et⟩ := hw
            rw [et, if_neg (wi5 ht)]
            unfold M_isTrait
            rw [if_neg (mi5 ht), ← et]
            exact hgo (Or.inr ⟨t, ht, et⟩)
          · unfold M_isTrait
            rw [if_pos (wo5 hw), if_pos (mo5 hw)]
            exact ⟨_, _, _, rfl, rfl, h⟩
      · rw [if_pos (wo2 hz), if_pos (mo2 hz)]
        exact ⟨_, _, _, rfl, rfl, h⟩
    · rw [if_pos (hasC_out h hx).1, if_pos (hasC_out h hx).2]
      exact ⟨_, _, _, rfl, rfl, h⟩
  · rw [e1, e2, Option.bind_some, Option.bind_some, if_pos rfl, if_pos rfl]
    exact ⟨_, _, _, rfl, rfl, h⟩
theorem vb_by : ∀ j, j < 256 → (vb_c j).toInt8.toInt32 = vb_c j := by decide +kernel
theorem byte_iff (v : Int32) : (M_in v (-128) 127 = 0) ↔ ¬ v = v.toInt8.toInt32 := by
  have a : (-128 : Int32).toInt = -128 := by decide
  have b : (127 : Int32).toInt = 127 := by decide
  unfold M_in
  by_cases c1 : v < -128
  · rw [if_pos c1]
    refine ⟨fun _ e => ?_, fun _ => rfl⟩
    have h1 := Int8.le_toInt v.toInt8
    have h2 : v.toInt = v.toInt8.toInt := by rw [← Int8.toInt_toInt32, ← e]
    rw [Int32.lt_iff_toInt_lt, a] at c1
    omega
  · rw [if_neg c1]
    by_cases c2 : 127 < v
    · rw [if_pos c2]
      refine ⟨fun _ e => ?_, fun _ => rfl⟩
      have h1 := Int8.toInt_lt v.toInt8
      have h2 : v.toInt = v.toInt8.toInt := by rw [← Int8.toInt_toInt32, ← e]
      rw [Int32.lt_iff_toInt_lt, b] at c2
      omega
    · rw [if_neg c2]
      obtain ⟨j, hj, -, e⟩ := bx_small c1 c2
      refine ⟨fun z => absurd z (by decide), fun z => absurd ?_ z⟩
      rw [e, vb_by j hj]
theorem and15 (v : Int32) : ∃ j, j < 16 ∧ v &&& 15 = nI j := pk_andE v 4 (by decide)
theorem sh1 (v : Int32) : ∃ j, j < 2 ∧ (v >>> (4 &&& 31)) &&& 1 = nI j := pk_andE _ 1 (by decide)
/-- a place of a row that no saying can be read from -/
def badP (τ : St) (r k : Nat) : Bool := decide (¬ τ.1 6 0 (40 * r + k) = (τ.1 6 0 (40 * r + k)).toInt8.toInt32) || decide (M_isCase (τ.1 6 0 (40 * r + k) &&& 15) τ = 0)
theorem case_both {σ τ : St} (h : Inv σ τ) {j : Nat} (hj : j < 16) : (j < nC τ ∧ ¬ Bk_hasCase (nI j) σ = 0 ∧ ¬ M_isCase (nI j) τ = 0) ∨ (¬ j < nC τ ∧ Bk_hasCase (nI j) σ = 0 ∧ M_isCase (nI j) τ = 0) := by
  have hC := h.w.nC12
  by_cases d : j < nC τ
  · exact Or.inl ⟨d, (hasC_in h d).1, (hasC_in h d).2⟩
  · refine Or.inr ⟨d, hasC_out h ?_⟩
    rintro ⟨i, hi, e⟩
    exact d (by have := (nI_eq (by omega) (by omega)).mp e; omega)
theorem chk_c {σ τ : St} (h : Inv σ τ) {r n : Nat} (hr : r < 6) (hn : n ≤ 40) (e1 : σ.1 18 r 1 = nI n) (K92 K104 : St → Option (Int32 × St)) (v1 v2 : Int32) : (anyB (badP τ r) n = true ∧ Q_sayings_L49 K92 K104 v1 v2 r 1100 0 σ = K92 σ) ∨ (anyB (badP τ r) n = false ∧ Q_sayings_L49 K92 K104 v1 v2 r 1100 0 σ = K104 σ) := by
  refine lpE (fun f i (_ : Unit) => Q_sayings_L49 K92 K104 v1 v2 r f (nI i) σ) (fun i _ => ∀ k, k < i → badP τ r k = false) (fun o => (anyB (badP τ r) n = true ∧ o = K92 σ) ∨ (anyB (badP τ r) n = false ∧ o = K104 σ)) n ?_ ?_ n 0 1100 () (by omega) (by omega) (fun k hk => absurd hk (Nat.not_lt_zero _))
  · intro f _ hp
    right
    refine ⟨?_, ?_⟩
    · cases ha : anyB (badP τ r) n
      · rfl
      · obtain ⟨k, hk, hb⟩ := anyB_iff.mp ha
        rw [hp k hk] at hb
        exact absurd hb (by decide)
    · show Q_sayings_L49 K92 K104 v1 v2 r (f + 1) (nI n) σ = _
      rw [Q_sayings_L49, e1, if_pos (nI_le (Nat.le_refl _) (by omega))]
  · intro i f _ hi hp
    have e19 : σ.1 19 r i = τ.1 6 0 (40 * r + i) := h.c.1.2 r hr i (by omega)
    obtain ⟨j, hj, ej⟩ := and15 (τ.1 6 0 (40 * r + i))
    have hL : Q_sayings_L49 K92 K104 v1 v2 r (f + 1) (nI i) σ = if τ.1 6 0 (40 * r + i) = (τ.1 6 0 (40 * r + i)).toInt8.toInt32 then (if Bk_hasCase (nI j) σ = 0 then K92 σ else Q_sayings_L49 K92 K104 v1 v2 r f (nI (i + 1)) σ) else K92 σ := by
      rw [Q_sayings_L49, e1, if_neg (nI_ge hi (by omega)), if_pos (inb_nI (by omega) (by decide)), nI_clamp (n := i) (by omega), e19, ej, nI_1]
    have hbad : ∀ z, badP τ r i = z → z = true → anyB (badP τ r) n = true := fun z e1 e2 => anyB_iff.mpr ⟨i, hi, e1.trans e2⟩
    by_cases c1 : τ.1 6 0 (40 * r + i) = (τ.1 6 0 (40 * r + i)).toInt8.toInt32
    · rcases case_both h hj with ⟨d1, d2, d3⟩ | ⟨d1, d2, d3⟩
      · right
        refine ⟨(), ?_, ?_⟩
        · show Q_sayings_L49 K92 K104 v1 v2 r (f + 1) (nI i) σ = Q_sayings_L49 K92 K104 v1 v2 r f (nI (i + 1)) σ
          rw [hL, if_pos c1, if_neg d2]
        · intro k hk
          by_cases e : k = i
          · subst e
            unfold badP
            rw [ej, decide_eq_false (fun z => z c1), decide_eq_false d3]; rfl
          · exact hp k (by omega)
      · left
        left
        refine ⟨hbad _ rfl ?_, ?_⟩
        · unfold badP
          rw [ej, decide_eq_true d3, Bool.or_true]
        · show Q_sayings_L49 K92 K104 v1 v2 r (f + 1) (nI i) σ = _
          rw [hL, if_pos c1, if_pos d2]
    · left
      left
      refine ⟨hbad _ rfl ?_, ?_⟩
      · unfold badP
        rw [decide_eq_true c1, Bool.true_or]
      · show Q_sayings_L49 K92 K104 v1 v2 r (f + 1) (nI i) σ = _
        rw [hL, if_neg c1]
theorem chk_m {τ : St} {r n : Nat} (hr : r < 6) (hn : n ≤ 40) (e1 : τ.1 5 0 r = nI n) (K : Int32 → St → Option (Int32 × St)) (v1 v2 : Int32) : M_sayings_L32 K v1 v2 (nI r) 1100 1 0 τ = K (bI (!anyB (badP τ r) n)) τ := by
  refine lpF (fun f i (b : Int32) => M_sayings_L32 K v1 v2 (nI r) f b (nI i) τ) (fun i => bI (!anyB (badP τ r) i)) _ n ?_ ?_ (n := 1100) (by omega)
  · intro f
    show M_sayings_L32 K v1 v2 (nI r) (f + 1) _ (nI n) τ = _
    rw [M_sayings_L32, if_pos (inb_nI hr (by decide)), nI_clamp (n := r) (by omega), e1, if_pos (nI_le (Nat.le_refl _) (by omega))]
  · intro i f hi
    show M_sayings_L32 K v1 v2 (nI r) (f + 1) (bI (!anyB (badP τ r) i)) (nI i) τ = M_sayings_L32 K v1 v2 (nI r) f (bI (!(anyB (badP τ r) i || badP τ r i))) (nI (i + 1)) τ
    rw [M_sayings_L32, if_pos (inb_nI hr (by decide)), nI_clamp (n := r) (by omega), e1, if_neg (nI_ge hi (by omega)), rowAt_eq _ hr (by omega)]
    simp only [Option.bind_some]
    unfold M_sayings_J86 M_sayings_J87
    rw [nI_1]
    have hb := byte_iff (τ.1 6 0 (40 * r + i))
    cases anyB (badP τ r) i
    · rw [if_neg (show ¬ bI (!false) = 0 by decide), Bool.false_or]
      unfold badP
      by_cases c1 : τ.1 6 0 (40 * r + i) = (τ.1 6 0 (40 * r + i)).toInt8.toInt32
      · rw [if_neg (fun z => hb.mp z c1), decide_eq_false (fun z => z c1), Bool.false_or]
        by_cases c2 : M_isCase (τ.1 6 0 (40 * r + i) &&& 15) τ = 0
        · rw [if_pos c2, decide_eq_true c2]; rfl
        · rw [if_neg c2, decide_eq_false c2]; rfl
      · rw [if_pos (hb.mpr c1), decide_eq_true c1, Bool.true_or]; rfl
    · rw [if_pos (show bI (!true) = 0 from rfl), Bool.true_or]; rfl
theorem many_lp {m y r n : Nat} (hr : r < 6) (hn : n ≤ 40) : ∀ d i σ τ f, i + d = n → d < f → Inv σ τ → m < nM τ → nS τ + d ≤ 24 → kO τ m + d ≤ 9 → tn (τ.1 13 0 m) ≤ y → y ≤ tn (τ.1 14 0 m) → y < 1000 → τ.1 5 0 r = nI n → σ.1 18 r 1 = nI n → (∀ k, k < n → badP τ r k = false) → ∃ σ' τ', Q_sayings_L126 (nI m) (nI y) r f (nI i) σ = some (nI n, σ') ∧ M_sayings_L145 (fun (s_57 : St) => if inb (nI r) 6 = true then some (s_57.1 5 0 ((nI r).toNatClampNeg), s_57) else none) (nI m) (nI y) (nI r) f (nI i) τ = some (nI n, τ') ∧ Inv σ' τ' := by
  intro d
  induction d with
  | zero =>
    intro i σ τ f hi hf h hm h1 h2 h3 h4 h5 e5 e18 hb
    obtain ⟨f, rfl⟩ : ∃ k, f = k + 1 := ⟨f - 1, by omega⟩
    have e : i = n := by omega
    subst e
    refine ⟨σ, τ, ?_, ?_, h⟩
    · rw [Q_sayings_L126, e18, if_pos (nI_le (Nat.le_refl _) (by omega))]
    · rw [M_sayings_L145, if_pos (inb_nI hr (by decide)), nI_clamp (n := r) (by omega), e5, if_pos (nI_le (Nat.le_refl _) (by omega)), if_pos (inb_nI hr (by decide))]
  | succ d ih =>
    intro i σ τ f hi hf h hm h1 h2 h3 h4 h5 e5 e18 hb
    obtain ⟨f, rfl⟩ : ∃ k, f = k + 1 := ⟨f - 1, by omega⟩
    have e19 : σ.1 19 r i = τ.1 6 0 (40 * r + i) := h.c.1.2 r hr i (by omega)
    obtain ⟨j, hj, ej⟩ := and15 (τ.1 6 0 (40 * r + i))
    obtain ⟨a, ha, ea⟩ := sh1 (τ.1 6 0 (40 * r + i))
    have hc : j < nC τ := by
      have := hb i (by omega)
      unfold badP at this
      rw [ej, Bool.or_eq_false_iff] at this
      rcases case_both h hj with ⟨d1, -⟩ | ⟨-, -, d3⟩
      · exact d1
      · exact absurd d3 (of_decide_eq_false this.2)
    obtain ⟨σ', τ', x1, x2, x3, x4, x5, x6, x7⟩ := new_say h (m := m) (c := j) (y := y) (a := a) (b := -9) (by omega) hm (by omega) hc h3 h4 h5 ha (Or.inl rfl)
    have k13 : τ'.1 13 0 = τ.1 13 0 := x5.fn (fun j => rfl) 0
    have k14 : τ'.1 14 0 = τ.1 14 0 := x5.fn (fun j => rfl) 0
    have k6 : τ'.1 6 0 = τ.1 6 0 := x5.fn (fun j => rfl) 0
    have k5 : τ'.1 5 0 = τ.1 5 0 := x5.fn (fun j => rfl) 0
    have vM : nM τ' = nM τ := by unfold nM; rw [x5.2 0 0 12 rfl]
    have f10 : τ'.1 0 0 10 = τ.1 0 0 10 := x5.2 _ _ _ rfl
    obtain ⟨σ'', τ'', y1, y2, y3⟩ := ih (i + 1) σ' τ' f (by omega) (by omega) x3 (by rw [vM]; exact hm) (by omega) (by omega) (by rw [k13]; exact h3) (by rw [k14]; exact h4) h5 (by rw [k5]; exact e5) ((x4.2 _ _ _ rfl).trans e18) (by
      intro k hk
      have := hb k hk
      unfold badP M_isCase at this ⊢
      rw [k6, f10]; exact this)
    refine ⟨σ'', τ'', ?_, ?_, y3⟩
    · rw [Q_sayings_L126, e18, if_neg (nI_ge (by omega) (by omega)), if_pos (inb_nI (by omega) (by decide)), nI_clamp (n := i) (by omega), e19, ej, ea, x1, Option.bind_some, nI_1]
      exact y1
    · rw [M_sayings_L145, if_pos (inb_nI hr (by decide)), nI_clamp (n := r) (by omega), e5, if_neg (nI_ge (by omega) (by omega)), rowAt_eq _ hr (by omega)]
      simp only [Option.bind_some]
      rw [ej, ea, x2, Option.bind_some, nI_1]
      rw [nI_clamp (n := r) (by omega)] at y2
      exact y2
theorem step_10 : Stp_10 Inv := by
  intro a1 a2 a3 σ τ h
  unfold Q_sayings M_sayings
  have hS := h.w.nS24
  have hM := h.w.nM8
  rcases year_eq h a1 a2 with ⟨m, y, hm, rfl, rfl, hy1, hy2, hyb, e1, e2⟩ | ⟨e1, e2⟩
  · have h9 := h.w.k9 m
    rw [e1, e2, Option.bind_some, Option.bind_some, if_neg (show ¬ (1 : Int32) = 0 by decide), if_neg (show ¬ (1 : Int32) = 0 by decide)]
    by_cases hx : ∃ j, j < 6 ∧ a3 = nI j
    · obtain ⟨r, hr, rfl⟩ := hx
      rw [if_neg (wi6 hr), if_pos (inb_nI hr (by decide)), nI_clamp (n := r) (by omega)]
      rcases row_sz h hr with ⟨z1, z2⟩ | ⟨n, hn, z1, z2⟩
      · obtain ⟨σ', τ', (h1 : Q_refuse 1 σ = _), (h2 : M_meets 1 τ = _), h3⟩ := refuse_eq h (f := 1) (by decide)
        rw [askedRow_no hr z1, z2, if_pos rfl, h1, h2]
        exact ⟨_, _, _, rfl, rfl, h3⟩
      · rw [askedRow_yes hr hn z1, z2, if_neg (nIm1 hn), Option.bind_some]
        dsimp only
        rw [if_pos (show (0 : Int32) ≤ 0 from by decide), chk_m hr hn z1]
        obtain ⟨x3, y3, (r1 : Q_refuse 3 σ = _), (r2 : M_meets 3 τ = _), r3⟩ := refuse_eq h (f := 3) (by decide)
        rcases chk_c h hr hn z2 (fun (s_17 : St) => Q_sayings_J92 s_17) (fun (s_20 : St) => Option.bind (Bk_hasRoom (nI m) (s_20.1 18 r 1) s_20) (fun r_21 => if r_21 = 0 then (some ((-2), s_20)) else (Q_sayings_L126 (nI m) (nI y) r 1100 0 s_20))) (nI m) (nI y) with ⟨b1, b2⟩ | ⟨b1, b2⟩
        · rw [b1, b2, if_pos (show bI (!true) = 0 from rfl), r2]
          unfold Q_sayings_J92
          rw [r1]
          exact ⟨_, _, _, rfl, rfl, r3⟩
        · rw [b1, b2, if_neg (show ¬ bI (!false) = 0 by decide), if_pos (inb_nI hr (by decide)), z1, z2, h.w.1.2.2.1.1, nI_add, sayingsOf_eq h.w (by omega), Option.bind_some, if_pos (inb_nI hr (by decide)), nI_add]
          have q1 := nI_ltI (a := 24) (b := nS τ + n) (by decide) (by omega)
          have q2 := nI_leI (a := kO τ m + n) (b := 9) (by omega) (by decide)
          by_cases c1 : 24 < nS τ + n
          · rw [rmN h hm hn (by omega), Option.bind_some, if_pos rfl, if_pos (show (24 : Int32) < nI (nS τ + n) from q1.mpr c1)]
            exact ⟨_, _, _, rfl, rfl, h⟩
          · rw [if_neg (show ¬ (24 : Int32) < nI (nS τ + n) from fun z => c1 (q1.mp z))]
            by_cases c2 : kO τ m + n ≤ 9
            · rw [rmY h hm hn (by omega), Option.bind_some, if_neg (show ¬ (1 : Int32) = 0 by decide), if_pos (show nI (kO τ m + n) ≤ (9 : Int32) from q2.mpr c2)]
              have hbad : ∀ k, k < n → badP τ r k = false := by
                intro k hk
                cases hz : badP τ r k
                · rfl
                · rw [anyB_iff.mpr ⟨k, hk, hz⟩] at b1
                  exact absurd b1 (by decide)
              obtain ⟨σ', τ', w1, w2, w3⟩ := many_lp (m := m) (y := y) hr hn n 0 σ τ 1100 (by omega) (by omega) h hm (by omega) (by omega) hy1 hy2 hyb z1 z2 hbad
              rw [nI_clamp (n := r) (by omega)] at w2
              exact ⟨_, _, _, w1, w2, w3⟩
            · rw [rmN h hm hn (by omega), Option.bind_some, if_pos rfl, if_neg (show ¬ nI (kO τ m + n) ≤ (9 : Int32) from fun z => c2 (q2.mp z))]
              exact ⟨_, _, _, rfl, rfl, h⟩
    · rw [if_pos (wo6 hx), askedRow_out τ hx]
      exact ⟨_, _, _, rfl, rfl, h⟩
  · rw [e1, e2, Option.bind_some, Option.bind_some, if_pos rfl, if_pos rfl]
    exact ⟨_, _, _, rfl, rfl, h⟩
