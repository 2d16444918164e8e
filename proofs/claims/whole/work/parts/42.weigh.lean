/-! ===== bits ===== -/
theorem nI_or {a b : Nat} (ha : a < 2 ^ 31) (hb : b < 2 ^ 31) : nI a ||| nI b = nI (a ||| b) := by
  apply Int32.toBitVec_inj.mp
  apply BitVec.eq_of_toNat_eq
  have h : a ||| b < 2 ^ 31 := Nat.or_lt_two_pow ha hb
  rw [Int32.toBitVec_or, BitVec.toNat_or, pk_tn (n := a) (by omega), pk_tn (n := b) (by omega), pk_tn (by omega)]
theorem nI_and {a b : Nat} (ha : a < 2 ^ 31) (hb : b < 2 ^ 31) : nI a &&& nI b = nI (a &&& b) := by
  apply Int32.toBitVec_inj.mp
  apply BitVec.eq_of_toNat_eq
  have h : a &&& b ≤ a := Nat.and_le_left
  rw [Int32.toBitVec_and, BitVec.toNat_and, pk_tn (n := a) (by omega), pk_tn (n := b) (by omega), pk_tn (by omega)]
def stN (k : Nat) : Nat := if k = 0 then 0 else if k = 1 then 1 else 513
theorem stv_shl : ∀ k, k < 9 → ∀ c, c < 3 → stv c <<< (nI k &&& 31) = nI (stN c * 2 ^ k) := by decide +kernel
theorem stN_lo : ∀ k, k < 9 → ∀ c, c < 3 → ∀ i, i < 9 → (stN c * 2 ^ k).testBit i = (decide (i = k) && decide (1 ≤ c)) := by decide +kernel
theorem stN_hi : ∀ k, k < 9 → ∀ c, c < 3 → ∀ i, i < 9 → (stN c * 2 ^ k).testBit (9 + i) = (decide (i = k) && decide (c = 2)) := by decide +kernel
theorem stN_lt : ∀ k, k < 9 → ∀ c, c < 3 → stN c * 2 ^ k < 262144 := by decide +kernel
theorem En_0 (L : Nat → Nat) : En L 0 0 := ⟨by decide, fun i _ => by simp, fun i _ => by simp⟩
theorem En_step {L : Nat → Nat} {k n : Nat} (h : En L k n) (hk : k < 9) (hL : L k ≤ 2) : ∃ n', nI n ||| (stv (L k) <<< (nI k &&& 31)) = nI n' ∧ En L (k + 1) n' := by
  obtain ⟨h1, h2, h3⟩ := h
  have hs := stN_lt k hk (L k) (by omega)
  refine ⟨n ||| stN (L k) * 2 ^ k, ?_, ?_, ?_, ?_⟩
  · rw [stv_shl k hk (L k) (by omega), nI_or (by omega) (by omega)]
  · exact Nat.or_lt_two_pow (n := 18) h1 hs
  · intro i hi
    rw [Nat.testBit_or, h2 i hi, stN_lo k hk (L k) (by omega) i hi]
    by_cases e : i = k
    · subst e; simp
    · have e2 : (i < k + 1) ↔ i < k := by omega
      simp [e, e2]
  · intro i hi
    rw [Nat.testBit_or, h3 i hi, stN_hi k hk (L k) (by omega) i hi]
    by_cases e : i = k
    · subst e; simp
    · have e2 : (i < k + 1) ↔ i < k := by omega
      simp [e, e2]
def lmin (a b : Nat) : Nat := if b ≤ a then b else a
theorem En_and {L L' : Nat → Nat} {k a b : Nat} (h : En L k a) (h' : En L' k b) (hL : ∀ i, L i ≤ 2) (hL' : ∀ i, L' i ≤ 2) : En (fun i => lmin (L i) (L' i)) k (a &&& b) := by
  obtain ⟨h1, h2, h3⟩ := h
  obtain ⟨h1', h2', h3'⟩ := h'
  refine ⟨Nat.lt_of_le_of_lt Nat.and_le_left h1, fun i hi => ?_, fun i hi => ?_⟩
  · rw [Nat.testBit_and, h2 i hi, h2' i hi]
    have e : (1 ≤ lmin (L i) (L' i)) ↔ 1 ≤ L i ∧ 1 ≤ L' i := by unfold lmin; split <;> omega
    by_cases c : i < k <;> simp [c, e]
  · rw [Nat.testBit_and, h3 i hi, h3' i hi]
    have a1 := hL i
    have a2 := hL' i
    have e : (lmin (L i) (L' i) = 2) ↔ L i = 2 ∧ L' i = 2 := by unfold lmin; split <;> omega
    by_cases c : i < k <;> simp [c, e]
theorem En_sub {L L' : Nat → Nat} {k a b : Nat} (h : En L k a) (h' : En L' k b) (hk : k ≤ 9) (hL : ∀ i, L i ≤ 2) (e : a &&& b = a) : ∀ i, i < k → L i ≤ L' i := by
  intro i hi
  obtain ⟨h1, h2, h3⟩ := h
  obtain ⟨h1', h2', h3'⟩ := h'
  have x1 := h2 i (by omega)
  have x2 := h2' i (by omega)
  have y1 := h3 i (by omega)
  have y2 := h3' i (by omega)
  have z1 : a.testBit i = (a.testBit i && b.testBit i) := by rw [← Nat.testBit_and, e]
  have z2 : a.testBit (9 + i) = (a.testBit (9 + i) && b.testBit (9 + i)) := by rw [← Nat.testBit_and, e]
  rw [x1, x2] at z1
  rw [y1, y2] at z2
  have a1 := hL i
  by_cases c0 : L i = 0
  · omega
  · by_cases c2 : L i = 2
    · simp [hi, c2] at z2
      omega
    · have c1 : 1 ≤ L i := by omega
      simp [hi, c1] at z1
      omega
theorem sl_le (r x a : Nat) (b : Int32) : sl r x a b ≤ 2 := by
  unfold sl
  split
  · omega
  · split
    · omega
    · split <;> omega
/-- the level of the i-th saying of m by the rule r -/
def lv (τ : St) (m r i : Nat) : Nat := sl r (sx τ (ow τ m i)) (sa τ (ow τ m i)) (τ.1 21 0 (ow τ m i))
theorem lv_le (τ : St) (m r i : Nat) : lv τ m r i ≤ 2 := sl_le _ _ _ _
theorem cR_lv (τ : St) (m r i : Nat) : cR τ m r i = pc_ (pA τ) (pS τ) (lv τ m r i) := rfl
theorem pc_mono (a s : Nat) {l l' : Nat} (h : l ≤ l') : pc_ a s l ≤ pc_ a s l' := by
  unfold pc_
  (repeat' split) <;> omega
theorem pc_lmin (a s l l' : Nat) : pc_ a s (lmin l l') = mn (pc_ a s l) (pc_ a s l') := by
  unfold lmin
  by_cases h : l' ≤ l
  · rw [if_pos h]
    have := pc_mono a s h
    unfold mn
    rw [if_pos this]
  · rw [if_neg h]
    have := pc_mono a s (show l ≤ l' by omega)
    unfold mn
    split <;> omega
/-! ===== the class's frames ===== -/
def pCs (kd j : Nat) : Bool := kd == 5 || kd == 11 || kd == 12 || kd == 13 || kd == 10 && (j == 4 || j == 5 || j == 6 || j == 7 || j == 8) || kd == 4 && (j == 2 || j == 3) || kd == 28 && j == 3 || kd == 20 && (j == 2 || j == 3)
def pCm (kd j : Nat) : Bool := pCs kd j || kd == 24 || kd == 25
theorem pCs_cm : ∀ k j, pCm k j = false → pCs k j = false := by
  intro k j h
  unfold pCm at h
  simp only [Bool.or_eq_false_iff] at h
  exact h.1.1
theorem Fr.eqc {σ σ' : St} (h : Fr pCm σ σ') : Eqc σ σ' := by
  refine ⟨fun kd hk => ?_, fun kd j hj => ?_, by rw [h.1], by rw [h.1]⟩
  · funext n j
    apply h.2
    unfold cP at hk
    unfold pCm pCs
    simp only [Bool.or_eq_true, beq_iff_eq] at hk
    have : kd ≠ 5 ∧ kd ≠ 11 ∧ kd ≠ 12 ∧ kd ≠ 13 ∧ kd ≠ 10 ∧ kd ≠ 4 ∧ kd ≠ 28 ∧ kd ≠ 20 ∧ kd ≠ 24 ∧ kd ≠ 25 := by omega
    simp [this]
  · intro n
    apply h.2
    unfold cI at hj
    unfold pCm pCs
    simp only [Bool.or_eq_true, Bool.and_eq_true, beq_iff_eq] at hj
    simp only [Bool.or_eq_false_iff, Bool.and_eq_false_iff, beq_eq_false_iff_ne]
    omega
theorem Fr.eqd {σ σ' : St} (h : Fr pCs σ σ') : Eqd σ σ' := by
  refine ⟨?_, ?_⟩
  · funext n j
    exact h.2 _ _ _ rfl
  · funext n j
    exact h.2 _ _ _ rfl
/-! ===== reading the invariant ===== -/
theorem RC.rul {σ τ : St} (c : RC σ τ) : σ.1 8 0 = owT ∧ σ.1 9 0 = lkT := c.2.2.2.2.2.2.2.1
theorem RC.ownr {σ τ : St} (c : RC σ τ) : R_own σ τ := c.2.2.2.2.2.1
theorem RC.say {σ τ : St} (c : RC σ τ) : R_say σ τ := c.2.2.2.2.1
theorem RC.mas {σ τ : St} (c : RC σ τ) : R_mas σ τ := c.2.2.2.1
theorem RC.case {σ τ : St} (c : RC σ τ) : R_case σ τ := c.2.2.1
theorem RC.pr {σ τ : St} (c : RC σ τ) : R_pr σ τ := c.2.2.2.2.2.2.1
theorem RC.own {σ τ : St} (c : RC σ τ) {m i : Nat} (hi : i < kO τ m) : σ.1 23 m i = nI (ow τ m i) := by
  obtain ⟨h1, h2, h3⟩ := ow_in hi
  have h := c.ownr.2 _ h1
  rw [h2, h3] at h
  exact h
theorem RC.many {σ τ : St} (c : RC σ τ) {m : Nat} (hm : m < 8) : σ.1 22 m 5 = nI (kO τ m) := c.ownr.1 m hm
/-- the class's traits of a saying's case -/
theorem RC.tr {σ τ : St} (w : WF τ) (c : RC σ τ) {s : Nat} (hs : s < nS τ) : σ.1 26 s 1 = nI (sc τ s) ∧ sc τ s < 12 ∧ σ.1 14 0 (sc τ s) = nI (sx τ s) ∧ sx τ s < 32 ∧ σ.1 26 s 3 = nI (sa τ s) ∧ sa τ s < 2 ∧ σ.1 26 s 4 = τ.1 21 0 s ∧ okB (τ.1 21 0 s) := by
  obtain ⟨h1, ⟨h2, h3⟩, ⟨h4, h5⟩, ⟨h6, h7⟩, h8⟩ := wfS w hs
  obtain ⟨-, e1, e2, e3, e4⟩ := c.say.2.1 s hs
  exact ⟨e1.trans h2, h3, (c.case.2 _ h3).trans h4, h5, e3.trans h6, h7, e4, h8⟩
theorem RC.prA {σ τ : St} (w : WF τ) (c : RC σ τ) : σ.1 10 0 0 = nI (pA τ) ∧ pA τ ≤ 99 ∧ σ.1 10 0 1 = nI (pS τ) ∧ pS τ ≤ 99 ∧ σ.1 10 0 2 = nI (pT τ) ∧ pT τ ≤ 99 := by
  obtain ⟨⟨a1, a2⟩, ⟨a3, a4⟩, ⟨a5, a6⟩⟩ := wfP w
  exact ⟨(c.pr 0 (by decide)).trans a1, a2, (c.pr 1 (by decide)).trans a3, a4, (c.pr 2 (by decide)).trans a5, a6⟩
/-! ===== the class weighs ===== -/
def pWg (kd j : Nat) : Bool := kd == 11 || kd == 12 || kd == 10 && (j == 4 || j == 5 || j == 6 || j == 7)
theorem pWg_cs : ∀ k j, pCs k j = false → pWg k j = false := by
  intro k j h
  unfold pCs at h
  unfold pWg
  simp only [Bool.or_eq_false_iff, Bool.and_eq_false_iff, beq_eq_false_iff_ne] at h ⊢
  omega
theorem Fr.fn {p : Nat → Nat → Bool} {a b : St} (h : Fr p a b) {kd : Nat} (hp : ∀ j, p kd j = false) (n : Nat) : b.1 kd n = a.1 kd n := by
  funext j
  exact h.2 _ _ _ (hp j)
/-- strains laid for k sayings of m -/
def Sng (τ s : St) (m k : Nat) : Prop := ∀ r, r < 244 → ∃ n, s.1 12 0 r = nI n ∧ En (lv τ m r) k n
theorem weigh_in {σ τ : St} (w : WF τ) (c : RC σ τ) (K : St → Option St) {m i : Nat} (hi : i < kO τ m) {s0 : St} (hf : Fr pWg σ s0) (h0 : Sng τ s0 m i) : ∃ s, Bn_weigh_L43 K m (nI i) (ow τ m i) (nI (sx τ (ow τ m i))) 1100 0 s0 = K s ∧ Fr pWg σ s ∧ Sng τ s m (i + 1) := by
  have hk := w.k9 m
  have hs := (ow_in hi).1
  obtain ⟨t1, t2, t3, t4, t5, t6, t7, t8⟩ := c.tr w hs
  have h := lpU (fun n r s => Bn_weigh_L43 K m (nI i) (ow τ m i) (nI (sx τ (ow τ m i))) n (nI r) s) (fun r s => Fr pWg σ s ∧ (∀ r', r' < r → ∃ n, s.1 12 0 r' = nI n ∧ En (lv τ m r') (i + 1) n) ∧ ∀ r', r ≤ r' → r' < 244 → ∃ n, s.1 12 0 r' = nI n ∧ En (lv τ m r') i n) K 244 (by
      intro n s hp
      show Bn_weigh_L43 K m (nI i) (ow τ m i) (nI (sx τ (ow τ m i))) (n + 1) (nI 244) s = K s
      rw [Bn_weigh_L43, if_pos (by decide)]) (by
      intro r n s hr hp
      obtain ⟨hf, ha, hb⟩ := hp
      have e8 : s.1 8 0 = owT := (hf.fn (fun j => rfl) 0).trans c.rul.1
      have e9 : s.1 9 0 = lkT := (hf.fn (fun j => rfl) 0).trans c.rul.2
      have e3 : s.1 26 (ow τ m i) 3 = nI (sa τ (ow τ m i)) := (hf.2 _ _ _ rfl).trans t5
      have e4 : s.1 26 (ow τ m i) 4 = τ.1 21 0 (ow τ m i) := (hf.2 _ _ _ rfl).trans t7
      obtain ⟨x, hx, hE⟩ := hb r (Nat.le_refl _) hr
      obtain ⟨x', hx', hE'⟩ := En_step hE (by omega) (lv_le τ m r i)
      refine ⟨sX s 12 0 r (nI x'), ?_, hf.st _ _ _ _ rfl, ?_, ?_⟩
      · show Bn_weigh_L43 K m (nI i) (ow τ m i) (nI (sx τ (ow τ m i))) (n + 1) (nI r) s = Bn_weigh_L43 K m (nI i) (ow τ m i) (nI (sx τ (ow τ m i))) n (nI (r + 1)) _
        rw [Bn_weigh_L43, if_neg (g244 hr), if_pos (inb_nI hr (by decide)), e3, e4, Ru_strain_eq e8 e9 hr t4 t6 t8, Option.bind_some, if_pos (inb_nI hr (by decide)), nI_clamp (by omega), hx]
        rw [← hx', nI_1]
        rfl
      · intro r' hr'
        by_cases e : r' = r
        · subst e; exact ⟨x', sX_s, hE'⟩
        · rw [sX_o (by omega)]; exact ha r' (by omega)
      · intro r' h1 h2
        rw [sX_o (by omega)]; exact hb r' (by omega) h2) (n := 1100) (s := s0) (by decide) ⟨hf, fun r' h => absurd h (Nat.not_lt_zero _), fun r' _ h => h0 r' h⟩
  obtain ⟨s, he, h1, h2, -⟩ := h
  exact ⟨s, he, h1, h2⟩
theorem weigh_a {σ τ : St} (w : WF τ) (c : RC σ τ) (K : St → Option St) {m : Nat} (hm : m < 8) : ∃ s, Bn_weigh_L11 K m 1100 0 (fillR σ 12 0 244 0) = K s ∧ Fr pWg σ s ∧ Sng τ s m (kO τ m) := by
  have hk := w.k9 m
  have hS := w.nS24
  have h := lpU (fun n i s => Bn_weigh_L11 K m n (nI i) s) (fun i s => Fr pWg σ s ∧ Sng τ s m i) K (kO τ m) (by
      intro n s hp
      show Bn_weigh_L11 K m (n + 1) (nI (kO τ m)) s = K s
      have e5 : s.1 22 m 5 = nI (kO τ m) := (hp.1.2 _ _ _ rfl).trans (c.many hm)
      rw [Bn_weigh_L11, e5, if_pos (nI_le (Nat.le_refl _) (by omega))]) (by
      intro i n s hi hp
      obtain ⟨hf, hg⟩ := hp
      have hs := (ow_in hi).1
      obtain ⟨t1, t2, t3, t4, t5, t6, t7, t8⟩ := c.tr w hs
      have e5 : s.1 22 m 5 = nI (kO τ m) := (hf.2 _ _ _ rfl).trans (c.many hm)
      have e23 : s.1 23 m i = nI (ow τ m i) := (hf.2 _ _ _ rfl).trans (c.own hi)
      have e1 : s.1 26 (ow τ m i) 1 = nI (sc τ (ow τ m i)) := (hf.2 _ _ _ rfl).trans t1
      have e14 : s.1 14 0 (sc τ (ow τ m i)) = nI (sx τ (ow τ m i)) := (hf.2 _ _ _ rfl).trans t3
      obtain ⟨s', h1, h2, h3⟩ := weigh_in w c (fun (s_19 : St) => (Bn_weigh_L11 K m n) (nI i + 1) s_19) hi hf hg
      refine ⟨s', ?_, h2, h3⟩
      show Bn_weigh_L11 K m (n + 1) (nI i) s = Bn_weigh_L11 K m n (nI (i + 1)) s'
      rw [Bn_weigh_L11, e5, if_neg (nI_ge hi (by omega)), if_pos (inb_nI (by omega) (by decide)), nI_clamp (n := i) (by omega), e23, if_pos (inb_nI (by omega) (by decide)), nI_clamp (n := ow τ m i) (by omega), e1, if_pos (inb_nI t2 (by decide)), nI_clamp (n := sc τ (ow τ m i)) (by omega), e14, h1, nI_1]) (n := 1100) (s := fillR σ 12 0 244 0) (by omega) ⟨⟨rfl, by
        intro kd n j hp
        unfold fillR sR
        dsimp only
        rw [if_neg]
        intro e
        rw [e.1, show pWg 12 j = true from rfl] at hp
        exact absurd hp (by decide)⟩, by
        intro r hr
        refine ⟨0, ?_, En_0 _⟩
        unfold fillR sR
        dsimp only
        rw [if_pos ⟨rfl, rfl⟩, if_pos hr]
        rfl⟩
  exact h
/-- weighed -/
def Wg (σ τ s : St) (m : Nat) : Prop := Fr pWg σ s ∧ Sng τ s m (kO τ m) ∧ (∀ r, r < 244 → s.1 11 0 r = nI (s1 τ m r)) ∧ s.1 10 0 4 = nI (lst τ m) ∧ s.1 10 0 5 = nI (lst τ m) ∧ s.1 10 0 6 = nI (fmI (s1 τ m) 244) ∧ s.1 10 0 7 = -9
theorem sumOf_s1 {σ τ s : St} (w : WF τ) (c : RC σ τ) {m r n : Nat} (h0 : s.1 10 0 0 = σ.1 10 0 0) (h1 : s.1 10 0 1 = σ.1 10 0 1) (hE : En (lv τ m r) (kO τ m) n) : Bn_sumOf (nI n) s = nI (s1 τ m r) := by
  obtain ⟨a1, a2, a3, a4, a5, a6⟩ := c.prA w
  exact sumOf_En (h0.trans a1) (h1.trans a3) a2 a4 (lv_le τ m r) (w.k9 m) hE
theorem weigh_b {σ τ : St} (w : WF τ) (c : RC σ τ) (K : St → Option St) {m : Nat} {s0 : St} (hf : Fr pWg σ s0) (hg : Sng τ s0 m (kO τ m)) : ∃ s, Bn_weigh_L100 K 1100 0 s0 = K s ∧ Fr pWg σ s ∧ Sng τ s m (kO τ m) ∧ (∀ r, r < 244 → s.1 11 0 r = nI (s1 τ m r)) ∧ s.1 10 0 4 = nI (lst τ m) ∧ s.1 10 0 6 = nI (fmI (s1 τ m) 244) := by
  have hb := s1_le w m
  have h := lpU (fun n i s => Bn_weigh_L100 K n (nI i) s) (fun i s => Fr pWg σ s ∧ Sng τ s m (kO τ m) ∧ (∀ r, r < i → s.1 11 0 r = nI (s1 τ m r)) ∧ (0 < i → s.1 10 0 4 = nI (s1 τ m (fmI (s1 τ m) i)) ∧ s.1 10 0 6 = nI (fmI (s1 τ m) i))) K 244 (by
      intro n s hp
      show Bn_weigh_L100 K (n + 1) (nI 244) s = K s
      rw [Bn_weigh_L100, if_pos (by decide)]) (by
      intro i n s hi hp
      obtain ⟨hf, hg, h11, hm⟩ := hp
      obtain ⟨x, hx, hE⟩ := hg i hi
      have hsum : Bn_sumOf (nI x) s = nI (s1 τ m i) := sumOf_s1 w c (hf.2 _ _ _ rfl) (hf.2 _ _ _ rfl) hE
      have hfm : fmI (s1 τ m) (i + 1) = if s1 τ m i < s1 τ m (fmI (s1 τ m) i) then i else fmI (s1 τ m) i := rfl
      have hrow : ∀ r, r < i + 1 → (sX s 11 0 i (nI (s1 τ m i))).1 11 0 r = nI (s1 τ m r) := by
        intro r hr
        by_cases e : r = i
        · subst e; rw [sX_s]
        · rw [sX_o (by omega)]; exact h11 r (by omega)
      have hg1 : Sng τ (sX s 11 0 i (nI (s1 τ m i))) m (kO τ m) := by
        intro r hr
        rw [sX_o (by omega)]; exact hg r hr
      have hf1 : Fr pWg σ (sX s 11 0 i (nI (s1 τ m i))) := hf.st _ _ _ _ rfl
      by_cases hc : i = 0 ∨ s1 τ m i < s1 τ m (fmI (s1 τ m) i)
      · refine ⟨sX (sX (sX s 11 0 i (nI (s1 τ m i))) 10 0 4 (nI (s1 τ m i))) 10 0 6 (nI i), ?_, (hf1.st _ _ _ _ rfl).st _ _ _ _ rfl, ?_, ?_, ?_⟩
        · show Bn_weigh_L100 K (n + 1) (nI i) s = Bn_weigh_L100 K n (nI (i + 1)) _
          rw [Bn_weigh_L100, if_neg (g244 hi), if_pos (inb_nI hi (by decide)), if_pos (inb_nI hi (by decide)), nI_clamp (n := i) (by omega), hx, hsum]
          have hJ : Bn_weigh_J145 (Bn_weigh_L100 K n) (nI i) (sX s 11 0 i (nI (s1 τ m i))) = Bn_weigh_L100 K n (nI (i + 1)) (sX (sX (sX s 11 0 i (nI (s1 τ m i))) 10 0 4 (nI (s1 τ m i))) 10 0 6 (nI i)) := by
            unfold Bn_weigh_J145 Bn_weigh_J162
            rw [if_pos (inb_nI hi (by decide)), nI_clamp (n := i) (by omega), sX_s, nI_1]
          rw [hJ]
          by_cases e : i = 0
          · subst e
            rw [if_pos (show nI 0 = 0 from rfl)]
          · rw [if_neg (nI_ne0 (by omega) (by omega)), if_pos (inb_nI hi (by decide)), sX_s, sX_o (by omega), (hm (by omega)).1, if_neg]
            rcases hc with hc | hc
            · exact absurd hc e
            · exact nI_ge hc (by have := hb (fmI (s1 τ m) i); omega)
        · intro r hr
          rw [sX_o (by omega), sX_o (by omega)]; exact hg1 r hr
        · intro r hr
          rw [sX_o (by omega), sX_o (by omega)]; exact hrow r hr
        · intro _
          have e : fmI (s1 τ m) (i + 1) = i := by
            rw [hfm]
            rcases hc with hc | hc
            · subst hc
              have e0 : fmI (s1 τ m) 0 = 0 := rfl
              rw [e0]; simp
            · rw [if_pos hc]
          rw [e]
          exact ⟨by rw [sX_o (by omega), sX_s], by rw [sX_s]⟩
      · have hc1 : ¬ i = 0 := fun x => hc (Or.inl x)
        have hc2 : ¬ s1 τ m i < s1 τ m (fmI (s1 τ m) i) := fun x => hc (Or.inr x)
        refine ⟨sX s 11 0 i (nI (s1 τ m i)), ?_, hf1, hg1, hrow, ?_⟩
        · show Bn_weigh_L100 K (n + 1) (nI i) s = Bn_weigh_L100 K n (nI (i + 1)) _
          rw [Bn_weigh_L100, if_neg (g244 hi), if_pos (inb_nI hi (by decide)), if_pos (inb_nI hi (by decide)), nI_clamp (n := i) (by omega), hx, hsum, if_neg (nI_ne0 (by omega) (by omega)), if_pos (inb_nI hi (by decide)), sX_s, sX_o (by omega), (hm (by omega)).1, if_pos (nI_le (by omega) (by have := hb i; omega))]
          unfold Bn_weigh_J162
          rw [nI_1]
        · intro _
          rw [hfm, if_neg hc2]
          rw [sX_o (by omega), sX_o (by omega)]
          exact hm (by omega)) (n := 1100) (s := s0) (by decide) ⟨hf, hg, fun r h => absurd h (Nat.not_lt_zero _), fun h => absurd h (Nat.lt_irrefl _)⟩
  obtain ⟨s, he, h1, h2, h3, h4⟩ := h
  exact ⟨s, he, h1, h2, h3, (h4 (by decide)).1, (h4 (by decide)).2⟩
theorem Bn_weigh_eq {σ τ : St} (w : WF τ) (c : RC σ τ) {m : Nat} (hm : m < 8) : ∃ s, Bn_weigh m σ = some s ∧ Wg σ τ s m := by
  obtain ⟨a, a1, a2, a3⟩ := weigh_a w c (fun (s_21 : St) => Bn_weigh_L100 (fun (s_40 : St) => some (sX (sX s_40 10 0 5 (s_40.1 10 0 4)) 10 0 7 (-9))) 1100 0 s_21) hm
  obtain ⟨b, b1, b2, b3, b4, b5, b6⟩ := weigh_b w c (fun (s_40 : St) => some (sX (sX s_40 10 0 5 (s_40.1 10 0 4)) 10 0 7 (-9))) a2 a3
  refine ⟨_, (show Bn_weigh m σ = _ from a1.trans b1), (b2.st _ _ _ _ rfl).st _ _ _ _ rfl, ?_, ?_, ?_, ?_, ?_, ?_⟩
  · intro r hr
    rw [sX_o (by omega), sX_o (by omega)]; exact b3 r hr
  · intro r hr
    rw [sX_o (by omega), sX_o (by omega)]; exact b4 r hr
  · rw [sX_o (by omega), sX_o (by omega)]; exact b5
  · rw [sX_o (by omega), sX_s]; exact b5
  · rw [sX_o (by omega), sX_o (by omega)]; exact b6
  · rw [sX_s]
