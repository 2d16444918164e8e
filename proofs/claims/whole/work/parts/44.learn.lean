/-! ===== a mind learns ===== -/
def tb (a : Int32) (x : Nat) : Bool := a.toBitVec.toNat.testBit x
theorem ush_tb {a : Int32} {x : Nat} (hx : x < 32) : ush a (nI x) &&& 1 = bI (tb a x) := by
  have hk : (((nI x).toUInt32 &&& Int32.toUInt32 31).toBitVec % 32).toNat = x := by
    have h : ∀ x, x < 32 → (((nI x).toUInt32 &&& Int32.toUInt32 31).toBitVec % 32).toNat = x := by decide +kernel
    exact h x hx
  have h1 := pk_and (ush a (nI x)) (m := 1) 1 (by decide)
  have h2 := pk_ushr a (nI x) x hk
  rw [h1, h2]
  unfold bI tb
  rw [Nat.testBit_eq_decide_div_mod_eq, show 2 ^ 1 = 2 from rfl]
  have h3 : a.toBitVec.toNat / 2 ^ x % 2 = 0 ∨ a.toBitVec.toNat / 2 ^ x % 2 = 1 := by omega
  rcases h3 with e | e
  · rw [e]; rfl
  · rw [e]; rfl
theorem tb_or (a b : Int32) (x : Nat) : tb (a ||| b) x = (tb a x || tb b x) := by
  unfold tb
  rw [Int32.toBitVec_or, BitVec.toNat_or, Nat.testBit_or]
theorem tb_not (a : Int32) {x : Nat} (hx : x < 32) : tb (a ^^^ (-1)) x = !(tb a x) := by
  have h : ∀ x, x < 32 → (-1 : Int32).toBitVec.toNat.testBit x = true := by decide +kernel
  unfold tb
  rw [Int32.toBitVec_xor, BitVec.toNat_xor, Nat.testBit_xor, h x hx]
  simp
theorem tb_0 (x : Nat) : tb 0 x = false := by
  unfold tb
  rw [show (0 : Int32).toBitVec.toNat = 0 from rfl, Nat.zero_testBit]
theorem tb_ow {r x : Nat} (hr : r < 244) (hx : x < 32) : tb (owT r) x = decide (vd r x = 1) := by
  have h := owT_vd r hr x hx
  rw [ush_tb hx] at h
  rcases vd_01 r x with e | e
  · rw [e] at h ⊢
    cases hb : tb (owT r) x
    · rfl
    · rw [hb] at h; exact absurd h (by decide)
  · rw [e] at h ⊢
    cases hb : tb (owT r) x
    · rw [hb] at h; exact absurd h (by decide)
    · rfl
def anyB (p : Nat → Bool) : Nat → Bool
  | 0 => false
  | n + 1 => anyB p n || p n
theorem anyB_iff {p : Nat → Bool} {n : Nat} : anyB p n = true ↔ ∃ i, i < n ∧ p i = true := by
  induction n with
  | zero => simp [anyB]
  | succ n ih =>
    unfold anyB
    rw [Bool.or_eq_true, ih]
    constructor
    · rintro (⟨i, h1, h2⟩ | h)
      · exact ⟨i, by omega, h2⟩
      · exact ⟨n, by omega, h⟩
    · rintro ⟨i, h1, h2⟩
      by_cases e : i = n
      · subst e; exact Or.inr h2
      · exact Or.inl ⟨i, by omega, h2⟩
theorem cnt_mono (p : Nat → Bool) {a b : Nat} (h : a ≤ b) : cnt p a ≤ cnt p b := by
  induction b with
  | zero => have e : a = 0 := by omega
            subst e; exact Nat.le_refl _
  | succ b ih =>
    by_cases e : a = b + 1
    · subst e; exact Nat.le_refl _
    · have := ih (by omega)
      show cnt p a ≤ cnt p b + _
      omega
theorem cnt_lt (p : Nat → Bool) {r n : Nat} (h : r < n) (hp : p r = true) : cnt p r < cnt p n := by
  have h1 : cnt p (r + 1) = cnt p r + 1 := by
    show cnt p r + _ = _
    rw [if_pos hp]
  have h2 := cnt_mono p (show r + 1 ≤ n from h)
  omega
def mO (τ : St) (m x r : Nat) : Bool := chp τ m r && decide (vd r x = 1)
def mN (τ : St) (m x r : Nat) : Bool := chp τ m r && decide (vd r x = 0)
/-- a mind as it must be -/
def Mnd (σ τ : St) (m : Nat) : Prop := (∃ v l g, Stl τ m v l g ∧ σ.1 24 m 1 = nI v ∧ σ.1 24 m 2 = nI l ∧ σ.1 24 m 3 = g) ∧ σ.1 24 m 5 = nI (cnt (chp τ m) 244) ∧ (∀ r, r < 244 → chp τ m r = true → σ.1 25 m (cnt (chp τ m) r) = nI r) ∧ (∀ x, x < 32 → tb (σ.1 24 m 6) x = anyB (mO τ m x) 244) ∧ ∀ x, x < 32 → tb (σ.1 24 m 7) x = anyB (mN τ m x) 244
/-- the minds that are known are as they must be -/
def RM (σ τ : St) : Prop := ∀ m, m < 8 → σ.1 24 m 0 = 0 ∨ (m < nM τ ∧ σ.1 24 m 0 = 1 ∧ Mnd σ τ m)
def Inv (σ τ : St) : Prop := WF τ ∧ RC σ τ ∧ RM σ τ
theorem Mnd_s {σ σ' τ : St} {m : Nat} (h1 : σ'.1 24 m = σ.1 24 m) (h2 : σ'.1 25 m = σ.1 25 m) (h : Mnd σ τ m) : Mnd σ' τ m := by
  unfold Mnd at h ⊢
  rw [h1, h2]
  exact h
theorem Mnd_t {σ τ τ' : St} {m : Nat} (hk : kO τ' m = kO τ m) (hc : ∀ i, i < kO τ m → ∀ r, cR τ' m r i = cR τ m r i) (hp : pT τ' = pT τ) (h : Mnd σ τ m) : Mnd σ τ' m := by
  have e1 : s1 τ' m = s1 τ m := by
    funext r
    unfold s1
    rw [hk]
    exact sumN_congr (fun i hi => hc i hi r)
  have e2 : s2 τ' m = s2 τ m := by
    funext a b
    unfold s2
    rw [hk, hp]
    congr 1
    exact sumN_congr (fun i hi => by rw [hc i hi a, hc i hi b])
  have e3 : lst τ' m = lst τ m := by unfold lst; rw [e1]
  have e4 : chp τ' m = chp τ m := by funext r; unfold chp; rw [e1, e3]
  unfold Mnd Stl mO mN at h ⊢
  rw [e1, e2, e3, e4]
  exact h
def FrP (p : Nat → Nat → Nat → Prop) (a b : St) : Prop := b.2 = a.2 ∧ ∀ kd n j, ¬ p kd n j → b.1 kd n j = a.1 kd n j
theorem FrP.rf (p : Nat → Nat → Nat → Prop) (a : St) : FrP p a a := ⟨rfl, fun _ _ _ _ => rfl⟩
theorem FrP.st {p : Nat → Nat → Nat → Prop} {a u : St} (h : FrP p a u) {kd n j : Nat} {v : Int32} (hp : p kd n j) : FrP p a (sX u kd n j v) := by
  refine ⟨(sX_2 ..).trans h.1, fun k n' j' hq => ?_⟩
  rw [sX_o]
  · exact h.2 k n' j' hq
  · rintro ⟨e1, e2, e3⟩
    subst e1; subst e2; subst e3
    exact hq hp
def pLr (m kd n _ : Nat) : Prop := (kd = 24 ∨ kd = 25) ∧ n = m
theorem learn_lp {τ s0 : St} {m : Nat} (w : WF τ) (h8 : s0.1 8 0 = owT) (h11 : ∀ r, r < 244 → s0.1 11 0 r = nI (s1 τ m r)) (h4 : s0.1 10 0 4 = nI (lst τ m)) (K : St → Option St) {a1 a2 a3 : Int32} {s1_ : St} (hf : FrP (pLr m) s0 s1_) (e1 : s1_.1 24 m 1 = a1) (e2 : s1_.1 24 m 2 = a2) (e3 : s1_.1 24 m 3 = a3) (e5 : s1_.1 24 m 5 = 0) (e6 : s1_.1 24 m 6 = 0) (e7 : s1_.1 24 m 7 = 0) : ∃ s, Mi_learn_L41 K m 1100 0 s1_ = K s ∧ FrP (pLr m) s0 s ∧ s.1 24 m 1 = a1 ∧ s.1 24 m 2 = a2 ∧ s.1 24 m 3 = a3 ∧ s.1 24 m 5 = nI (cnt (chp τ m) 244) ∧ (∀ r, r < 244 → chp τ m r = true → s.1 25 m (cnt (chp τ m) r) = nI r) ∧ (∀ x, x < 32 → tb (s.1 24 m 6) x = anyB (mO τ m x) 244) ∧ ∀ x, x < 32 → tb (s.1 24 m 7) x = anyB (mN τ m x) 244 := by
  refine lpU (fun n i s => Mi_learn_L41 K m n (nI i) s) (fun i s => FrP (pLr m) s0 s ∧ s.1 24 m 1 = a1 ∧ s.1 24 m 2 = a2 ∧ s.1 24 m 3 = a3 ∧ s.1 24 m 5 = nI (cnt (chp τ m) i) ∧ (∀ r, r < i → chp τ m r = true → s.1 25 m (cnt (chp τ m) r) = nI r) ∧ (∀ x, x < 32 → tb (s.1 24 m 6) x = anyB (mO τ m x) i) ∧ ∀ x, x < 32 → tb (s.1 24 m 7) x = anyB (mN τ m x) i) K 244 ?_ ?_ (n := 1100) (s := s1_) (by decide) ⟨hf, e1, e2, e3, e5, fun r h => absurd h (Nat.not_lt_zero _), fun x _ => by rw [e6]; exact tb_0 x, fun x _ => by rw [e7]; exact tb_0 x⟩
  · intro n s hp
    show Mi_learn_L41 K m (n + 1) (nI 244) s = K s
    rw [Mi_learn_L41, if_pos (by decide)]
  · intro i n s hi hp
    obtain ⟨hf, e1, e2, e3, e5, e25, e6, e7⟩ := hp
    have hb := s1_le w m
    have hl := lst_le w m
    have k11 : s.1 11 0 i = nI (s1 τ m i) := (hf.2 _ _ _ (fun h => by unfold pLr at h; omega)).trans (h11 i hi)
    have k4 : s.1 10 0 4 = nI (lst τ m) := (hf.2 _ _ _ (fun h => by unfold pLr at h; omega)).trans h4
    have k8 : s.1 8 0 i = owT i := (hf.2 _ _ _ (fun h => by unfold pLr at h; omega)).trans (by rw [h8])
    have heq := nI_eq (a := s1 τ m i) (b := lst τ m) (by have := hb i; omega) (by omega)
    have hq := cnt_le (chp τ m) i
    have hcs : cnt (chp τ m) (i + 1) = cnt (chp τ m) i + (if chp τ m i = true then 1 else 0) := rfl
    by_cases c : chp τ m i = true
    · have c' : s1 τ m i = lst τ m := by unfold chp at c; exact of_decide_eq_true c
      rw [if_pos c] at hcs
      refine ⟨sX (sX (sX (sX s 25 m (cnt (chp τ m) i) (nI i)) 24 m 5 (nI (cnt (chp τ m) i + 1))) 24 m 6 (s.1 24 m 6 ||| owT i)) 24 m 7 (s.1 24 m 7 ||| (owT i ^^^ (-1))), ?_, ?_, ?_, ?_, ?_, ?_, ?_, ?_, ?_⟩
      · show Mi_learn_L41 K m (n + 1) (nI i) s = Mi_learn_L41 K m n (nI (i + 1)) _
        rw [Mi_learn_L41, if_neg (g244 hi), if_pos (inb_nI hi (by decide)), nI_clamp (n := i) (by omega), k11, k4, if_pos (heq.mpr c'), e5, if_pos (inb_nI (by omega) (by decide)), if_pos (inb_nI hi (by decide)), if_pos (inb_nI hi (by decide)), nI_clamp (n := cnt (chp τ m) i) (by omega)]
        unfold Mi_learn_J116
        rw [nI_1]
        have x1 : ∀ v, (sX s 25 m (cnt (chp τ m) i) v).1 24 m 5 = nI (cnt (chp τ m) i) := fun v => by rw [sX_o (by omega), e5]
        have x2 : ∀ v v', (sX (sX s 25 m (cnt (chp τ m) i) v) 24 m 5 v').1 24 m 6 = s.1 24 m 6 := fun v v' => by rw [sX_o (by omega), sX_o (by omega)]
        have x3 : ∀ v v', (sX (sX s 25 m (cnt (chp τ m) i) v) 24 m 5 v').1 8 0 i = owT i := fun v v' => by rw [sX_o (by omega), sX_o (by omega), k8]
        have x4 : ∀ v v' v'', (sX (sX (sX s 25 m (cnt (chp τ m) i) v) 24 m 5 v') 24 m 6 v'').1 24 m 7 = s.1 24 m 7 := fun v v' v'' => by rw [sX_o (by omega), sX_o (by omega), sX_o (by omega)]
        have x5 : ∀ v v' v'', (sX (sX (sX s 25 m (cnt (chp τ m) i) v) 24 m 5 v') 24 m 6 v'').1 8 0 i = owT i := fun v v' v'' => by rw [sX_o (by omega), sX_o (by omega), sX_o (by omega), k8]
        rw [x4, x5, x2, x3, x1, nI_1]
      · exact (((hf.st ⟨Or.inr rfl, rfl⟩).st ⟨Or.inl rfl, rfl⟩).st ⟨Or.inl rfl, rfl⟩).st ⟨Or.inl rfl, rfl⟩
      · rw [sX_o (by omega), sX_o (by omega), sX_o (by omega), sX_o (by omega)]; exact e1
      · rw [sX_o (by omega), sX_o (by omega), sX_o (by omega), sX_o (by omega)]; exact e2
      · rw [sX_o (by omega), sX_o (by omega), sX_o (by omega), sX_o (by omega)]; exact e3
      · rw [sX_o (by omega), sX_o (by omega), sX_s, hcs]
      · intro r hr hc
        rw [sX_o (by omega), sX_o (by omega), sX_o (by omega)]
        by_cases e : r = i
        · subst e; rw [sX_s]
        · have := cnt_lt (chp τ m) (show r < i by omega) hc
          rw [sX_o (by omega)]; exact e25 r (by omega) hc
      · intro x hx
        rw [sX_o (by omega), sX_s, tb_or, e6 x hx, tb_ow hi hx]
        show _ = (anyB (mO τ m x) i || (chp τ m i && decide (vd i x = 1)))
        rw [c, Bool.true_and]
      · intro x hx
        rw [sX_s, tb_or, e7 x hx, tb_not _ hx, tb_ow hi hx]
        show _ = (anyB (mN τ m x) i || (chp τ m i && decide (vd i x = 0)))
        rw [c, Bool.true_and]
        rcases vd_01 i x with e | e <;> rw [e] <;> rfl
    · have c' : ¬ s1 τ m i = lst τ m := fun h => c (by unfold chp; exact decide_eq_true h)
      have c0 : chp τ m i = false := by
        cases hx : chp τ m i
        · rfl
        · exact absurd hx c
      rw [if_neg c, Nat.add_zero] at hcs
      refine ⟨s, ?_, hf, e1, e2, e3, ?_, ?_, ?_, ?_⟩
      · show Mi_learn_L41 K m (n + 1) (nI i) s = Mi_learn_L41 K m n (nI (i + 1)) _
        rw [Mi_learn_L41, if_neg (g244 hi), if_pos (inb_nI hi (by decide)), nI_clamp (n := i) (by omega), k11, k4, if_neg (fun x => c' (heq.mp x))]
        unfold Mi_learn_J116
        rw [nI_1]
      · rw [hcs]; exact e5
      · intro r hr hc
        by_cases e : r = i
        · subst e; exact absurd hc c
        · exact e25 r (by omega) hc
      · intro x hx
        rw [e6 x hx]
        show _ = (anyB (mO τ m x) i || (chp τ m i && decide (vd i x = 1)))
        rw [c0, Bool.false_and, Bool.or_false]
      · intro x hx
        rw [e7 x hx]
        show _ = (anyB (mN τ m x) i || (chp τ m i && decide (vd i x = 0)))
        rw [c0, Bool.false_and, Bool.or_false]
theorem Mi_learn_eq {τ s0 : St} {m v l : Nat} {g : Int32} (w : WF τ) (h8 : s0.1 8 0 = owT) (h11 : ∀ r, r < 244 → s0.1 11 0 r = nI (s1 τ m r)) (h4 : s0.1 10 0 4 = nI (lst τ m)) (hS : Stl τ m v l g) (h5 : s0.1 10 0 5 = nI v) (h6 : s0.1 10 0 6 = nI l) (h7 : s0.1 10 0 7 = g) : ∃ s, Mi_learn m s0 = some s ∧ FrP (pLr m) s0 s ∧ s.1 24 m 0 = 1 ∧ Mnd s τ m := by
  unfold Mi_learn
  have x1 : ∀ v, (sX s0 24 m 1 v).1 10 0 6 = nI l := fun v => by rw [sX_o (by omega), h6]
  have x2 : ∀ v v', (sX (sX s0 24 m 1 v) 24 m 2 v').1 10 0 7 = g := fun v v' => by rw [sX_o (by omega), sX_o (by omega), h7]
  rw [x2, x1, h5]
  obtain ⟨s, y1, y2, y3, y4, y5, y6, y7, y8, y9⟩ := learn_lp w h8 h11 h4 (fun (s_16 : St) => some (sX s_16 24 m 0 1)) (a1 := nI v) (a2 := nI l) (a3 := g) (s1_ := sX (sX (sX (sX (sX (sX s0 24 m 1 (nI v)) 24 m 2 (nI l)) 24 m 3 g) 24 m 5 0) 24 m 6 0) 24 m 7 0) (((((((FrP.rf _ _).st ⟨Or.inl rfl, rfl⟩).st ⟨Or.inl rfl, rfl⟩).st ⟨Or.inl rfl, rfl⟩).st ⟨Or.inl rfl, rfl⟩).st ⟨Or.inl rfl, rfl⟩).st ⟨Or.inl rfl, rfl⟩) (by rw [sX_o (by omega), sX_o (by omega), sX_o (by omega), sX_o (by omega), sX_o (by omega), sX_s]) (by rw [sX_o (by omega), sX_o (by omega), sX_o (by omega), sX_o (by omega), sX_s]) (by rw [sX_o (by omega), sX_o (by omega), sX_o (by omega), sX_s]) (by rw [sX_o (by omega), sX_o (by omega), sX_s]) (by rw [sX_o (by omega), sX_s]) (by rw [sX_s])
  refine ⟨sX s 24 m 0 1, y1, y2.st ⟨Or.inl rfl, rfl⟩, sX_s, ⟨v, l, g, hS, ?_, ?_, ?_⟩, ?_, ?_, ?_, ?_⟩
  · rw [sX_o (by omega)]; exact y3
  · rw [sX_o (by omega)]; exact y4
  · rw [sX_o (by omega)]; exact y5
  · rw [sX_o (by omega)]; exact y6
  · intro r hr hc
    rw [sX_o (by omega)]; exact y7 r hr hc
  · intro x hx
    rw [sX_o (by omega)]; exact y8 x hx
  · intro x hx
    rw [sX_o (by omega)]; exact y9 x hx
theorem Fr.cm {s s' : St} {m : Nat} (h : FrP (pLr m) s s') : Fr pCm s s' := by
  refine ⟨h.1, fun kd n j hp => h.2 kd n j (fun e => ?_)⟩
  unfold pCm at hp
  simp only [Bool.or_eq_false_iff, beq_eq_false_iff_ne] at hp
  unfold pLr at e
  omega
/-- all minds made known -/
theorem settled_eq {σ τ : St} (h : Inv σ τ) : ∃ s, Bk_settled σ = some s ∧ Inv s τ ∧ Fr pCm σ s ∧ ∀ m, m < nM τ → Mnd s τ m := by
  obtain ⟨w, c, d⟩ := h
  have hM := w.nM8
  have e5 : σ.1 3 0 5 = nI (nM τ) := c.mas.1.trans w.1.2.1.1
  have h := lpU (fun n i s => Bk_settled_L2 n (nI i) s) (fun i s => Fr pCm σ s ∧ RM s τ ∧ ∀ m, m < i → Mnd s τ m) some (nM τ) (by
      intro n s hp
      have e : s.1 3 0 5 = nI (nM τ) := (hp.1.2 _ _ _ rfl).trans e5
      show Bk_settled_L2 (n + 1) (nI (nM τ)) s = some s
      rw [Bk_settled_L2, e, if_pos (nI_le (Nat.le_refl _) (by omega))]) (by
      intro i n s hi hp
      obtain ⟨hf, hR, hK⟩ := hp
      have e : s.1 3 0 5 = nI (nM τ) := (hf.2 _ _ _ rfl).trans e5
      have c' : RC s τ := RC_eqc hf.eqc c
      rcases hR i (by omega) with h0 | ⟨h1, h2, h3⟩
      · obtain ⟨a, a1, a2⟩ := Bn_weigh_eq w c' (m := i) (by omega)
        obtain ⟨b, v, l, g, b1, b2, b3, b4, b5, b6⟩ := Bn_two_eq w c' a2
        have hfb : Fr pCs s b := (a2.1.wk pWg_cs).tr (b2.wk pT2_cs)
        obtain ⟨t, t1, t2, t3, t4⟩ := Mi_learn_eq (m := i) (s0 := b) w ((hfb.fn (fun j => rfl) 0).trans c'.rul.1) (fun r hr => (b2.2 _ _ _ rfl).trans (a2.2.2.1 r hr)) ((b2.2 _ _ _ rfl).trans a2.2.2.2.1) b3 b4 b5 b6
        have hmm : ∀ m, m ≠ i → t.1 24 m = s.1 24 m ∧ t.1 25 m = s.1 25 m := by
          intro m hm
          refine ⟨?_, ?_⟩
          · funext j
            rw [t2.2 24 m j (fun e => hm e.2)]
            exact hfb.2 _ _ _ rfl
          · funext j
            rw [t2.2 25 m j (fun e => hm e.2)]
            exact hfb.2 _ _ _ rfl
        refine ⟨t, ?_, hf.tr ((hfb.wk pCs_cm).tr (Fr.cm t2)), ?_, ?_⟩
        · show Bk_settled_L2 (n + 1) (nI i) s = Bk_settled_L2 n (nI (i + 1)) t
          rw [Bk_settled_L2, e, if_neg (nI_ge hi (by omega)), if_pos (inb_nI (by omega) (by decide)), nI_clamp (n := i) (by omega), if_pos h0, if_pos (inb_nI (by omega) (by decide)), a1, Option.bind_some, b1, Option.bind_some, if_pos (inb_nI (by omega) (by decide)), t1, Option.bind_some]
          unfold Bk_settled_J76
          rw [nI_1]
        · intro m hm
          by_cases em : m = i
          · subst em; exact Or.inr ⟨hi, t3, t4⟩
          · obtain ⟨x1, x2⟩ := hmm m em
            rcases hR m hm with y | ⟨y1, y2, y3⟩
            · exact Or.inl (by rw [x1]; exact y)
            · exact Or.inr ⟨y1, by rw [x1]; exact y2, Mnd_s x1 x2 y3⟩
        · intro m hm
          by_cases em : m = i
          · subst em; exact t4
          · obtain ⟨x1, x2⟩ := hmm m em
            exact Mnd_s x1 x2 (hK m (by omega))
      · refine ⟨s, ?_, hf, hR, ?_⟩
        · show Bk_settled_L2 (n + 1) (nI i) s = Bk_settled_L2 n (nI (i + 1)) s
          rw [Bk_settled_L2, e, if_neg (nI_ge hi (by omega)), if_pos (inb_nI (by omega) (by decide)), nI_clamp (n := i) (by omega), h2, if_neg (by decide)]
          unfold Bk_settled_J76
          rw [nI_1]
        · intro m hm
          by_cases em : m = i
          · subst em; exact h3
          · exact hK m (by omega)) (n := 1100) (s := σ) (by omega) ⟨Fr.rf _ _, d, fun m hm => absurd hm (Nat.not_lt_zero _)⟩
  obtain ⟨s, he, hf, hR, hK⟩ := h
  exact ⟨s, he, ⟨w, RC_eqc hf.eqc c, hR⟩, hf, hK⟩
