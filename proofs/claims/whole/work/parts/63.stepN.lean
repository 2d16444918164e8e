/-! ===== changed ===== -/
def Yo (τ : St) (m i : Nat) : Nat := sy τ (ow τ m i)
def aC (τ : St) (m y r i : Nat) : Nat := if Yo τ m i < y then cR τ m r i else 0
def fC (τ : St) (m y r i : Nat) : Nat := if Yo τ m i < y then 0 else cR τ m r i
def mR (f : Nat → Nat) : Nat := f (fmI f 244)
/-- the least ahead of a year, and from it on -/
def lA (τ : St) (m y : Nat) : Nat := mR (fun r => sumN (aC τ m y r) (kO τ m))
def lF (τ : St) (m y : Nat) : Nat := mR (fun r => sumN (fC τ m y r) (kO τ m))
theorem Yo_b {σ τ : St} (h : Inv σ τ) {m i : Nat} (hi : i < kO τ m) : Yo τ m i < 1000 := (sy_b h (ow_in hi).1).2
theorem sumN_le9 {τ : St} (w : WF τ) {m : Nat} {f : Nat → Nat} (h : ∀ i, f i ≤ 99) : sumN f (kO τ m) ≤ 891 := by
  have := sumN_le (f := f) (n := kO τ m) (c := 99) (fun i _ => h i)
  have := w.k9 m
  omega
theorem aC_le {τ : St} (w : WF τ) (m y r i : Nat) : aC τ m y r i ≤ 99 ∧ fC τ m y r i ≤ 99 := by
  have : cR τ m r i ≤ 99 := co_le w _ _
  unfold aC fC
  split <;> omega
theorem lA_le {τ : St} (w : WF τ) (m y : Nat) : lA τ m y ≤ 891 ∧ lF τ m y ≤ 891 :=
  ⟨sumN_le9 w (fun i => (aC_le w m y _ i).1), sumN_le9 w (fun i => (aC_le w m y _ i).2)⟩
def mL (τ : St) (m y i : Nat) : Nat := if Yo τ m i < y then 2 else 0
theorem mL_le (τ : St) (m y i : Nat) : mL τ m y i ≤ 2 := by unfold mL; split <;> omega
theorem En_skip {L : Nat → Nat} {k n : Nat} (h : En L k n) (h0 : L k = 0) : En L (k + 1) n := by
  obtain ⟨h1, h2, h3⟩ := h
  refine ⟨h1, fun i hi => ?_, fun i hi => ?_⟩
  · rw [h2 i hi]
    by_cases e : i = k
    · subst e; simp [h0]
    · have e2 : (i < k + 1) ↔ i < k := by omega
      simp [e2]
  · rw [h3 i hi]
    by_cases e : i = k
    · subst e; simp [h0]
    · have e2 : (i < k + 1) ↔ i < k := by omega
      simp [e2]
theorem nI_andnot {n a : Nat} (hn : n < 2 ^ 31) (ha : a < 2 ^ 31) : nI n &&& (nI a ^^^ (-1)) = nI (n &&& (a ^^^ 4294967295)) := by
  apply Int32.toBitVec_inj.mp
  apply BitVec.eq_of_toNat_eq
  have h : n &&& (a ^^^ 4294967295) ≤ n := Nat.and_le_left
  rw [Int32.toBitVec_and, BitVec.toNat_and, Int32.toBitVec_xor, BitVec.toNat_xor, pk_tn (n := n) (by omega), pk_tn (n := a) (by omega), show (-1 : Int32).toBitVec.toNat = 4294967295 from by decide, pk_tn (by omega)]
theorem ones_tb : ∀ i, i < 18 → (4294967295 : Nat).testBit i = true := by decide +kernel
theorem En_not {τ : St} {L : Nat → Nat} {m y k n a : Nat} (h : En L k n) (h' : En (mL τ m y) k a) : En (fun i => if Yo τ m i < y then 0 else L i) k (n &&& (a ^^^ 4294967295)) := by
  obtain ⟨h1, h2, h3⟩ := h
  obtain ⟨g1, g2, g3⟩ := h'
  refine ⟨Nat.lt_of_le_of_lt Nat.and_le_left h1, fun i hi => ?_, fun i hi => ?_⟩
  · rw [Nat.testBit_and, Nat.testBit_xor, h2 i hi, g2 i hi, ones_tb i (by omega)]
    unfold mL
    by_cases c : i < k
    · by_cases d : Yo τ m i < y <;> simp [c, d]
    · simp [c]
  · rw [Nat.testBit_and, Nat.testBit_xor, h3 i hi, g3 i hi, ones_tb (9 + i) (by omega)]
    unfold mL
    by_cases c : i < k
    · by_cases d : Yo τ m i < y <;> simp [c, d]
    · simp [c]
theorem ahead_eq {s σ τ : St} (h : Inv σ τ) (hf : Fr pCs σ s) {m y : Nat} (hm : m < 8) (hy : y < 2000) : ∃ a, Bn_sayingsAhead (nI y) m s = some (nI a) ∧ En (mL τ m y) (kO τ m) a := by
  have hk := h.w.k9 m
  have hS := h.w.nS24
  have e5 : s.1 22 m 5 = nI (kO τ m) := (hf.2 _ _ _ rfl).trans (h.c.many hm)
  have hh := lpU (fun n i (v : Int32) => Bn_sayingsAhead_L6 (nI y) m s n v (nI i)) (fun i v => ∃ a, v = nI a ∧ En (mL τ m y) i a) some (kO τ m) (by
    intro n v hp
    show Bn_sayingsAhead_L6 (nI y) m s (n + 1) v (nI (kO τ m)) = some v
    rw [Bn_sayingsAhead_L6, e5, if_pos (nI_le (Nat.le_refl _) (by omega))]) (by
    intro i n v hi hp
    obtain ⟨a, e, hE⟩ := hp
    subst e
    have hs := (ow_in hi).1
    have e23 : s.1 23 m i = nI (ow τ m i) := (hf.2 _ _ _ rfl).trans (h.c.own hi)
    have e2 : s.1 26 (ow τ m i) 2 = nI (Yo τ m i) := (hf.2 _ _ _ rfl).trans ((h.c.say.2.1 _ hs).2.2.1.trans (h.w.say _ hs).2.2.1.1)
    have hb := Yo_b h hi
    have hle := nI_leI (a := y) (b := Yo τ m i) (by omega) (by omega)
    have hL : Bn_sayingsAhead_L6 (nI y) m s (n + 1) (nI a) (nI i) = Bn_sayingsAhead_L6 (nI y) m s n (if nI y ≤ nI (Yo τ m i) then nI a else nI a ||| (513 <<< (nI i &&& 31))) (nI (i + 1)) := by
      rw [Bn_sayingsAhead_L6, e5, if_neg (nI_ge hi (by omega)), if_pos (inb_nI (by omega) (by decide)), nI_clamp (n := i) (by omega), e23, if_pos (inb_nI (by omega) (by decide)), nI_clamp (n := ow τ m i) (by omega), e2]
      unfold Bn_sayingsAhead_J42
      rw [nI_1]
      split <;> rfl
    by_cases c : Yo τ m i < y
    · obtain ⟨a', ha', hE'⟩ := En_step hE (by omega) (mL_le τ m y i)
      have e2 : mL τ m y i = 2 := by unfold mL; rw [if_pos c]
      rw [e2] at ha'
      refine ⟨nI a', ?_, a', rfl, hE'⟩
      show Bn_sayingsAhead_L6 (nI y) m s (n + 1) (nI a) (nI i) = Bn_sayingsAhead_L6 (nI y) m s n _ (nI (i + 1))
      rw [hL, if_neg (fun z => by have := hle.mp z; omega), ← ha']
      rfl
    · have e2 : mL τ m y i = 0 := by unfold mL; rw [if_neg c]
      refine ⟨nI a, ?_, a, rfl, En_skip hE e2⟩
      show Bn_sayingsAhead_L6 (nI y) m s (n + 1) (nI a) (nI i) = Bn_sayingsAhead_L6 (nI y) m s n _ (nI (i + 1))
      rw [hL, if_pos (hle.mpr (by omega))]) (n := 1100) (s := (0 : Int32)) (by omega) ⟨0, rfl, En_0 _⟩
  obtain ⟨v, v1, a, e, hE⟩ := hh
  subst e
  exact ⟨a, v1, hE⟩
theorem parted_eq {s σ τ : St} (w : WF τ) (c : RC σ τ) {m y a : Nat} (hpr : ∀ j, j < 3 → s.1 10 0 j = σ.1 10 0 j) (hg : Sng τ s m (kO τ m)) (hE : En (mL τ m y) (kO τ m) a) : Bn_costParted (nI a) s = some (nI (lA τ m y + lF τ m y)) := by
  obtain ⟨p1, p2, p3, p4, p5, p6⟩ := c.prA w
  have e0 : s.1 10 0 0 = nI (pA τ) := (hpr 0 (by decide)).trans p1
  have e1 : s.1 10 0 1 = nI (pS τ) := (hpr 1 (by decide)).trans p3
  have hal := hE.1
  have hA : ∀ r, r < 244 → Bn_sumOf (s.1 12 0 r &&& nI a) s = nI (sumN (aC τ m y r) (kO τ m)) := by
    intro r hr
    obtain ⟨n, hn, hEn⟩ := hg r hr
    have hnl := hEn.1
    rw [hn, nI_and (by omega) (by omega), sumOf_En e0 e1 p2 p4 (L := fun i => lmin (lv τ m r i) (mL τ m y i)) (fun i => by have := lv_le τ m r i; have := mL_le τ m y i; unfold lmin; split <;> omega) (w.k9 m) (En_and hEn hE (lv_le τ m r) (mL_le τ m y))]
    congr 1
    refine sumN_congr (fun i _ => ?_)
    unfold aC mL lmin
    have hl := lv_le τ m r i
    by_cases d : Yo τ m i < y
    · rw [if_pos d, if_pos d]
      by_cases d2 : 2 ≤ lv τ m r i
      · rw [if_pos d2, cR_lv, show lv τ m r i = 2 by omega]
      · rw [if_neg d2, cR_lv]
    · rw [if_neg d, if_neg d, if_pos (Nat.zero_le _)]; rfl
  have hF : ∀ r, r < 244 → Bn_sumOf (s.1 12 0 r &&& (nI a ^^^ (-1))) s = nI (sumN (fC τ m y r) (kO τ m)) := by
    intro r hr
    obtain ⟨n, hn, hEn⟩ := hg r hr
    have hnl := hEn.1
    rw [hn, nI_andnot (by omega) (by omega), sumOf_En e0 e1 p2 p4 (L := fun i => if Yo τ m i < y then 0 else lv τ m r i) (fun i => by have := lv_le τ m r i; split <;> omega) (w.k9 m) (En_not hEn hE)]
    congr 1
    refine sumN_congr (fun i _ => ?_)
    unfold fC
    by_cases d : Yo τ m i < y
    · rw [if_pos d, if_pos d]; rfl
    · rw [if_neg d, if_neg d, cR_lv]
  have ba : ∀ r, sumN (aC τ m y r) (kO τ m) ≤ 891 := fun r => sumN_le9 w (fun i => (aC_le w m y r i).1)
  have bf : ∀ r, sumN (fC τ m y r) (kO τ m) ≤ 891 := fun r => sumN_le9 w (fun i => (aC_le w m y r i).2)
  unfold Bn_costParted
  rw [hA 0 (by decide), hF 0 (by decide)]
  have hh := lpV (fun n r (p : Int32 × Int32) => Bn_costParted_L31 (nI a) s n p.1 p.2 (nI r)) (fun r p => 0 < r ∧ p = (nI (sumN (aC τ m y (fmI (fun r => sumN (aC τ m y r) (kO τ m)) r)) (kO τ m)), nI (sumN (fC τ m y (fmI (fun r => sumN (fC τ m y r) (kO τ m)) r)) (kO τ m)))) (fun p => some (p.1 + p.2)) 1 244 (by
    intro n p _
    show Bn_costParted_L31 (nI a) s (n + 1) p.1 p.2 (nI 244) = _
    rw [Bn_costParted_L31, if_pos (by decide)]) (by
    intro r n p hr hp
    obtain ⟨h0, e⟩ := hp
    subst e
    have hi : inb (nI r) 244 = true := inb_nI hr (by decide)
    have f1 : fmI (fun r => sumN (aC τ m y r) (kO τ m)) (r + 1) = if sumN (aC τ m y r) (kO τ m) < sumN (aC τ m y (fmI (fun r => sumN (aC τ m y r) (kO τ m)) r)) (kO τ m) then r else fmI (fun r => sumN (aC τ m y r) (kO τ m)) r := rfl
    have f2 : fmI (fun r => sumN (fC τ m y r) (kO τ m)) (r + 1) = if sumN (fC τ m y r) (kO τ m) < sumN (fC τ m y (fmI (fun r => sumN (fC τ m y r) (kO τ m)) r)) (kO τ m) then r else fmI (fun r => sumN (fC τ m y r) (kO τ m)) r := rfl
    refine ⟨(nI (sumN (aC τ m y (fmI (fun r => sumN (aC τ m y r) (kO τ m)) (r + 1))) (kO τ m)), nI (sumN (fC τ m y (fmI (fun r => sumN (fC τ m y r) (kO τ m)) (r + 1))) (kO τ m))), ?_, by omega, rfl⟩
    show Bn_costParted_L31 (nI a) s (n + 1) _ _ (nI r) = Bn_costParted_L31 (nI a) s n (nI (sumN (aC τ m y (fmI (fun r => sumN (aC τ m y r) (kO τ m)) (r + 1))) (kO τ m))) (nI (sumN (fC τ m y (fmI (fun r => sumN (fC τ m y r) (kO τ m)) (r + 1))) (kO τ m))) (nI (r + 1))
    rw [Bn_costParted_L31, if_neg (g244 hr), if_pos hi, if_pos hi, nI_clamp (n := r) (by omega), hA r hr, hF r hr, imin_nI (by have := ba (fmI (fun r => sumN (aC τ m y r) (kO τ m)) r); omega) (by have := ba r; omega), imin_nI (by have := bf (fmI (fun r => sumN (fC τ m y r) (kO τ m)) r); omega) (by have := bf r; omega), nI_1, f1, f2]
    congr 2
    · split <;> rfl
    · split <;> rfl) (n := 1100) (s := (nI (sumN (aC τ m y 0) (kO τ m)), nI (sumN (fC τ m y 0) (kO τ m)))) (by decide) (by decide) ⟨by decide, by
      have e0 : ∀ f : Nat → Nat, fmI f 1 = 0 := fun f => by have := fmI_lt f 1 (by decide); omega
      rw [e0, e0]⟩
  obtain ⟨p, h1, -, e⟩ := hh
  subst e
  refine (show _ = _ from h1).trans ?_
  dsimp only
  rw [nI_add]
  rfl
/-! the year: the least cost, and of those the first year -/
def LM (C : Nat → Nat) (S : Nat → Prop) (c y : Nat) : Prop := S y ∧ c = C y ∧ ∀ z, S z → C y < C z ∨ C y = C z ∧ y ≤ z
theorem LM_uniq {C : Nat → Nat} {S : Nat → Prop} {c y c' y' : Nat} (h : LM C S c y) (h' : LM C S c' y') : c = c' ∧ y = y' := by
  obtain ⟨a1, a2, a3⟩ := h
  obtain ⟨b1, b2, b3⟩ := h'
  have x := a3 y' b1
  have z := b3 y a1
  have e : y = y' := by omega
  subst e
  exact ⟨a2.trans b2.symm, rfl⟩
theorem LM_step {C : Nat → Nat} {S S' : Nat → Prop} {c y z : Nat} (h : LM C S c y) (hS : ∀ x, S' x ↔ S x ∨ x = z) : LM C S' (if C z < c ∨ C z = c ∧ z < y then C z else c) (if C z < c ∨ C z = c ∧ z < y then z else y) := by
  obtain ⟨a1, a2, a3⟩ := h
  by_cases k : C z < c ∨ C z = c ∧ z < y
  · rw [if_pos k, if_pos k]
    refine ⟨(hS z).mpr (Or.inr rfl), rfl, fun x hx => ?_⟩
    rcases (hS x).mp hx with e | e
    · have := a3 x e; omega
    · subst e; exact Or.inr ⟨rfl, Nat.le_refl _⟩
  · rw [if_neg k, if_neg k]
    refine ⟨(hS y).mpr (Or.inl a1), a2, fun x hx => ?_⟩
    rcases (hS x).mp hx with e | e
    · exact a3 x e
    · subst e; omega
def cY (τ : St) (m B y : Nat) : Nat := if y = B then lst τ m else lA τ m y + lF τ m y
def SY (τ : St) (m B D i y : Nat) : Prop := y = B ∨ ∃ j, j < i ∧ y = Yo τ m j + 1 ∧ y ≤ D
theorem first_eq {s σ τ : St} (h : Inv σ τ) {m B D : Nat} (hm : m < nM τ) (hB : τ.1 13 0 m = nI B) (hD : τ.1 14 0 m = nI D) (hBD : B ≤ D) (hD9 : D < 1000) (hW : Wg σ τ s m) : ∃ c y, Bn_firstChange m s = some (nI y, sX s 10 0 8 (nI (lst τ m) - nI c)) ∧ LM (cY τ m B) (SY τ m B D (kO τ m)) c y := by
  have hM := h.w.nM8
  have hk := h.w.k9 m
  have hS := h.w.nS24
  obtain ⟨hf, hg, h11, h4, h5, h6, h7⟩ := hW
  have hfc : Fr pCs σ s := hf.wk pWg_cs
  have e5 : s.1 22 m 5 = nI (kO τ m) := (hf.2 _ _ _ rfl).trans (h.c.many (by omega))
  have e0 : s.1 22 m 0 = nI B := (hf.2 _ _ _ rfl).trans ((h.c.mas.2.1 m hm).1.trans hB)
  have e1 : s.1 22 m 1 = nI D := (hf.2 _ _ _ rfl).trans ((h.c.mas.2.1 m hm).2.1.trans hD)
  have hl := lst_le h.w m
  have hcb : ∀ y, cY τ m B y ≤ 1782 := fun y => by
    have := lA_le h.w m y
    unfold cY
    split <;> omega
  have hh := lpU (fun n i (p : Int32 × Int32) => Bn_firstChange_L14 (fun (v3_36 : Int32) (v4_37 : Int32) (s_38 : St) => some (v4_37, sX s_38 10 0 8 ((s_38.1 10 0 4) - v3_36))) m n p.1 p.2 (nI i) s) (fun i p => ∃ c y, p = (nI c, nI y) ∧ LM (cY τ m B) (SY τ m B D i) c y ∧ c ≤ 1782 ∧ y ≤ 1000) (fun p => some (p.2, sX s 10 0 8 ((s.1 10 0 4) - p.1))) (kO τ m) (by
    intro n p hp
    show Bn_firstChange_L14 _ m (n + 1) p.1 p.2 (nI (kO τ m)) s = _
    rw [Bn_firstChange_L14, e5, if_pos (nI_le (Nat.le_refl _) (by omega))]) (by
    intro i n p hi hp
    obtain ⟨c, y, e, hLM, hc, hy⟩ := hp
    subst e
    have hs := (ow_in hi).1
    have e23 : s.1 23 m i = nI (ow τ m i) := (hf.2 _ _ _ rfl).trans (h.c.own hi)
    have e2 : s.1 26 (ow τ m i) 2 = nI (Yo τ m i) := (hf.2 _ _ _ rfl).trans ((h.c.say.2.1 _ hs).2.2.1.trans (h.w.say _ hs).2.2.1.1)
    have hYb := Yo_b h hi
    have hYB : B ≤ Yo τ m i := by
      have := (h.w.say _ hs).2.2.1.2.1
      rw [(ow_in hi).2.1, hB, tn_nI (by omega)] at this
      exact this
    have hle := nI_leI (a := Yo τ m i + 1) (b := D) (by omega) (by omega)
    show ∃ p' : Int32 × Int32, Bn_firstChange_L14 _ m (n + 1) (nI c) (nI y) (nI i) s = Bn_firstChange_L14 _ m n p'.1 p'.2 (nI (i + 1)) s ∧ _
    rw [Bn_firstChange_L14, e5, if_neg (nI_ge hi (by omega)), if_pos (inb_nI (by omega) (by decide)), nI_clamp (n := i) (by omega), e23, if_pos (inb_nI (by omega) (by decide)), nI_clamp (n := ow τ m i) (by omega), e2, nI_1, e1]
    unfold Bn_firstChange_J84 Bn_firstChange_J91
    rw [nI_1]
    by_cases cD : Yo τ m i + 1 ≤ D
    · obtain ⟨a, a1, a2⟩ := ahead_eq h hfc (m := m) (y := Yo τ m i + 1) (by omega) (by omega)
      have hpc := parted_eq h.w h.c (y := Yo τ m i + 1) (fun j hj => by
        have : j = 0 ∨ j = 1 ∨ j = 2 := by omega
        rcases this with e | e | e <;> subst e <;> exact hf.2 _ _ _ rfl) hg a2
      have eC : lA τ m (Yo τ m i + 1) + lF τ m (Yo τ m i + 1) = cY τ m B (Yo τ m i + 1) := by unfold cY; rw [if_neg (by omega)]
      rw [eC] at hpc
      have hcz := hcb (Yo τ m i + 1)
      have q1 := nI_ltI (a := cY τ m B (Yo τ m i + 1)) (b := c) (by omega) (by omega)
      have q2 := nI_eq (a := cY τ m B (Yo τ m i + 1)) (b := c) (by omega) (by omega)
      have q3 := nI_leI (a := y) (b := Yo τ m i + 1) (by omega) (by omega)
      have hst := LM_step (S' := SY τ m B D (i + 1)) (z := Yo τ m i + 1) hLM (by
        intro x
        unfold SY
        constructor
        · rintro (e | ⟨j, j1, j2, j3⟩)
          · exact Or.inl (Or.inl e)
          · by_cases ej : j = i
            · subst ej; exact Or.inr j2
            · exact Or.inl (Or.inr ⟨j, by omega, j2, j3⟩)
        · rintro ((e | ⟨j, j1, j2, j3⟩) | e)
          · exact Or.inl e
          · exact Or.inr ⟨j, by omega, j2, j3⟩
          · exact Or.inr ⟨i, by omega, e, by omega⟩)
      rw [if_pos (hle.mpr cD), a1, Option.bind_some, hpc, Option.bind_some]
      refine ⟨(nI (if cY τ m B (Yo τ m i + 1) < c ∨ cY τ m B (Yo τ m i + 1) = c ∧ Yo τ m i + 1 < y then cY τ m B (Yo τ m i + 1) else c), nI (if cY τ m B (Yo τ m i + 1) < c ∨ cY τ m B (Yo τ m i + 1) = c ∧ Yo τ m i + 1 < y then Yo τ m i + 1 else y)), ?_, _, _, rfl, hst, by split <;> omega, by split <;> omega⟩
      dsimp only
      by_cases k1 : cY τ m B (Yo τ m i + 1) < c
      · rw [if_pos (q1.mpr k1), if_pos (Or.inl k1), if_pos (Or.inl k1)]
      · rw [if_neg (fun z => k1 (q1.mp z))]
        by_cases k2 : cY τ m B (Yo τ m i + 1) = c
        · rw [if_pos (q2.mpr k2)]
          by_cases k3 : y ≤ Yo τ m i + 1
          · rw [if_pos (q3.mpr k3), if_neg (by omega), if_neg (by omega)]
          · rw [if_neg (fun z => k3 (q3.mp z)), if_pos (by omega), if_pos (by omega)]
        · rw [if_neg (fun z => k2 (q2.mp z)), if_neg (by omega), if_neg (by omega)]
    · rw [if_neg (fun z => cD (hle.mp z))]
      refine ⟨(nI c, nI y), rfl, c, y, rfl, ?_, hc, hy⟩
      have eS : SY τ m B D (i + 1) = SY τ m B D i := by
        funext x
        apply propext
        unfold SY
        constructor
        · rintro (e | ⟨j, j1, j2, j3⟩)
          · exact Or.inl e
          · exact Or.inr ⟨j, by by_cases ej : j = i; (subst ej; omega); omega, j2, j3⟩
        · rintro (e | ⟨j, j1, j2, j3⟩)
          · exact Or.inl e
          · exact Or.inr ⟨j, by omega, j2, j3⟩
      rw [eS]; exact hLM) (n := 1100) (s := (nI (lst τ m), nI B)) (by omega) ⟨lst τ m, B, rfl, ⟨Or.inl rfl, by unfold cY; rw [if_pos rfl], fun z hz => by
        rcases hz with e | ⟨j, j1, -⟩
        · subst e; exact Or.inr ⟨rfl, Nat.le_refl _⟩
        · exact absurd j1 (Nat.not_lt_zero _)⟩, by omega, by omega⟩
  obtain ⟨p, p1, c, y, e, hLM, -, -⟩ := hh
  subst e
  refine ⟨c, y, ?_, hLM⟩
  unfold Bn_firstChange
  rw [h4, e0]
  refine (show _ = _ from p1).trans ?_
  rw [h4]
/-! the reference -/
theorem M_in_iff {a b c : Nat} (ha : a < 2000) (hb : b < 2000) (hc : c < 2000) : (M_in (nI a) (nI b) (nI c) = 0) ↔ ¬ (b ≤ a ∧ a ≤ c) := by
  unfold M_in
  have q1 := nI_ltI (a := a) (b := b) (by omega) (by omega)
  have q2 := nI_ltI (a := c) (b := a) (by omega) (by omega)
  by_cases c1 : a < b
  · rw [if_pos (q1.mpr c1)]; exact ⟨fun _ => by omega, fun _ => rfl⟩
  · rw [if_neg (fun z => c1 (q1.mp z))]
    by_cases c2 : c < a
    · rw [if_pos (q2.mpr c2)]; exact ⟨fun _ => by omega, fun _ => rfl⟩
    · rw [if_neg (fun z => c2 (q2.mp z))]
      exact ⟨fun z => absurd z (by decide), fun z => absurd ⟨by omega, by omega⟩ z⟩
def gC (τ : St) (m b c r i : Nat) : Nat := if b ≤ Yo τ m i ∧ Yo τ m i ≤ c then cR τ m r i else 0
theorem gC_le {τ : St} (w : WF τ) (m b c r i : Nat) : gC τ m b c r i ≤ 99 := by
  have : cR τ m r i ≤ 99 := co_le w _ _
  unfold gC
  split <;> omega
theorem least_in {σ τ u : St} (h : Inv σ τ) (hu : Fr pScr τ u) {m b c r : Nat} (hT : Tab τ u m) (hm : m < 1000) (hb : b < 2000) (hc : c < 2000) (hr : r < 244) (K : Int32 → Option Int32) (v4 : Int32) : M_leastIn_L24 K (nI m) (nI b) (nI c) v4 (nI r) u 1100 0 0 0 = K (nI (sumN (gC τ m b c r) (kO τ m))) := by
  have hS := h.w.nS24
  have hk := h.w.k9 m
  have e16 : u.1 0 0 16 = nI (nS τ) := (hu.2 _ _ _ rfl).trans h.w.1.2.2.1.1
  refine lpF (fun n s (p : Int32 × Int32) => M_leastIn_L24 K (nI m) (nI b) (nI c) v4 (nI r) u n p.1 p.2 (nI s)) (fun s => (nI (sumN (gC τ m b c r) (nO τ m s)), nI (nO τ m s))) _ (nS τ) ?_ ?_ (n := 1100) (by omega)
  · intro n
    show M_leastIn_L24 K (nI m) (nI b) (nI c) v4 (nI r) u (n + 1) _ _ (nI (nS τ)) = _
    rw [M_leastIn_L24, e16, if_pos (nI_le (Nat.le_refl _) (by omega))]
    rfl
  · intro s n hs
    show M_leastIn_L24 K (nI m) (nI b) (nI c) v4 (nI r) u (n + 1) (nI (sumN (gC τ m b c r) (nO τ m s))) (nI (nO τ m s)) (nI s) = M_leastIn_L24 K (nI m) (nI b) (nI c) v4 (nI r) u n (nI (sumN (gC τ m b c r) (nO τ m (s + 1)))) (nI (nO τ m (s + 1))) (nI (s + 1))
    have h17 : u.1 17 0 s = nI (sm τ s) := (hu.2 _ _ _ rfl).trans (h.w.say s hs).1.1
    have h19 : u.1 19 0 s = nI (sy τ s) := (hu.2 _ _ _ rfl).trans (h.w.say s hs).2.2.1.1
    obtain ⟨b1, b2⟩ := sy_b h hs
    have q := nI_eq (a := sm τ s) (b := m) (by omega) (by omega)
    have hi : inb (nI s) 24 = true := inb_nI (by omega) (by decide)
    rw [M_leastIn_L24, e16, if_neg (nI_ge hs (by omega)), if_pos hi, nI_clamp (n := s) (by omega), h17, h19, if_pos hi]
    unfold M_leastIn_J79 M_leastIn_J85
    rw [nI_1, nI_1, nO_s]
    by_cases e : sm τ s = m
    · have hlt : nO τ m s < kO τ m := nO_lt τ hs e
      have how : ow τ m (nO τ m s) = s := ow_at hs e
      have eY : Yo τ m (nO τ m s) = sy τ s := by unfold Yo; rw [how]
      have hsum : sumN (gC τ m b c r) (nO τ m s + 1) = sumN (gC τ m b c r) (nO τ m s) + gC τ m b c r (nO τ m s) := rfl
      rw [if_pos (q.mpr e), if_pos e, hsum]
      have hin := M_in_iff (a := sy τ s) (b := b) (c := c) (by omega) hb hc
      by_cases d : b ≤ sy τ s ∧ sy τ s ≤ c
      · have eg : gC τ m b c r (nO τ m s) = cR τ m r (nO τ m s) := by unfold gC; rw [eY, if_pos d]
        rw [if_neg (fun z => hin.mp z d), tab_ix (by omega) hr, if_pos (inb_nI (by omega) (by decide)), nI_clamp (by omega), hT.2 _ hlt r hr, nI_add, eg]
      · have eg : gC τ m b c r (nO τ m s) = 0 := by unfold gC; rw [eY, if_neg d]
        rw [if_pos (hin.mpr d), eg, Int32.add_zero, Nat.add_zero (sumN (gC τ m b c r) (nO τ m s))]
    · rw [if_neg (fun z => e (q.mp z)), if_neg e]; rfl
theorem leastIn_eq {σ τ u : St} (h : Inv σ τ) (hu : Fr pScr τ u) {m b c : Nat} (hT : Tab τ u m) (hm : m < 1000) (hb : b < 2000) (hc : c < 2000) : M_leastIn (nI m) (nI b) (nI c) u = some (nI (mR (fun r => sumN (gC τ m b c r) (kO τ m)))) := by
  have bf : ∀ r, sumN (gC τ m b c r) (kO τ m) ≤ 891 := fun r => sumN_le9 h.w (fun i => gC_le h.w m b c r i)
  have hh := lpU (fun n r (v : Int32) => M_leastIn_L7 (nI m) (nI b) (nI c) u n v (nI r)) (fun r v => (r = 0 ∧ v = 1000000) ∨ (0 < r ∧ v = nI (sumN (gC τ m b c (fmI (fun r => sumN (gC τ m b c r) (kO τ m)) r)) (kO τ m)))) some 244 (by
    intro n v _
    show M_leastIn_L7 (nI m) (nI b) (nI c) u (n + 1) v (nI 244) = some v
    rw [M_leastIn_L7, if_pos (by decide)]) (by
    intro r n v hr hor
    refine ⟨nI (sumN (gC τ m b c (fmI (fun r => sumN (gC τ m b c r) (kO τ m)) (r + 1))) (kO τ m)), ?_, Or.inr ⟨by omega, rfl⟩⟩
    show M_leastIn_L7 (nI m) (nI b) (nI c) u (n + 1) v (nI r) = M_leastIn_L7 (nI m) (nI b) (nI c) u n _ (nI (r + 1))
    rw [M_leastIn_L7, if_neg (g244 hr), least_in h hu hT hm hb hc hr, nI_1]
    have hf : fmI (fun r => sumN (gC τ m b c r) (kO τ m)) (r + 1) = if sumN (gC τ m b c r) (kO τ m) < sumN (gC τ m b c (fmI (fun r => sumN (gC τ m b c r) (kO τ m)) r)) (kO τ m) then r else fmI (fun r => sumN (gC τ m b c r) (kO τ m)) r := rfl
    rw [hf]
    rcases hor with ⟨e, e'⟩ | ⟨e, e'⟩
    · subst e; subst e'
      have hn : ¬ (1000000 : Int32) ≤ nI (sumN (gC τ m b c 0) (kO τ m)) := nI_ge (b := 1000000) (by have := bf 0; omega) (by decide)
      have e0 : fmI (fun r => sumN (gC τ m b c r) (kO τ m)) 0 = 0 := rfl
      rw [if_neg hn, e0, if_neg (Nat.lt_irrefl _)]
    · subst e'
      have q := nI_leI (a := sumN (gC τ m b c (fmI (fun r => sumN (gC τ m b c r) (kO τ m)) r)) (kO τ m)) (b := sumN (gC τ m b c r) (kO τ m)) (by have := bf (fmI (fun r => sumN (gC τ m b c r) (kO τ m)) r); omega) (by have := bf r; omega)
      by_cases k : sumN (gC τ m b c r) (kO τ m) < sumN (gC τ m b c (fmI (fun r => sumN (gC τ m b c r) (kO τ m)) r)) (kO τ m)
      · rw [if_neg (fun z => by have := q.mp z; omega), if_pos k]
      · rw [if_pos (q.mpr (by omega)), if_neg k]) (n := 1100) (s := (1000000 : Int32)) (by decide) (Or.inl ⟨rfl, rfl⟩)
  obtain ⟨v, v1, hor⟩ := hh
  rcases hor with ⟨e, -⟩ | ⟨-, e⟩
  · exact absurd e (by decide)
  · subst e; exact v1
theorem isSaid_eq {σ τ u : St} (h : Inv σ τ) (hu : Fr pScr τ u) {m y : Nat} (hm : m < 1000) (hy : y < 2000) : M_isSaid (nI m) (nI y) u = some (bI (anyB (fun s => decide (sm τ s = m) && decide (sy τ s = y)) (nS τ))) := by
  have hS := h.w.nS24
  have e16 : u.1 0 0 16 = nI (nS τ) := (hu.2 _ _ _ rfl).trans h.w.1.2.2.1.1
  refine lpF (fun n s (v : Int32) => M_isSaid_L5 (nI m) (nI y) u n v (nI s)) (fun i => bI (anyB (fun s => decide (sm τ s = m) && decide (sy τ s = y)) i)) _ (nS τ) ?_ ?_ (n := 1100) (by omega)
  · intro n
    show M_isSaid_L5 (nI m) (nI y) u (n + 1) _ (nI (nS τ)) = _
    rw [M_isSaid_L5, e16, if_pos (nI_le (Nat.le_refl _) (by omega)), if_pos (bI_01 _)]
  · intro s n hs
    show M_isSaid_L5 (nI m) (nI y) u (n + 1) (bI (anyB (fun s => decide (sm τ s = m) && decide (sy τ s = y)) s)) (nI s) = M_isSaid_L5 (nI m) (nI y) u n (bI (anyB (fun s => decide (sm τ s = m) && decide (sy τ s = y)) s || (decide (sm τ s = m) && decide (sy τ s = y)))) (nI (s + 1))
    have h17 : u.1 17 0 s = nI (sm τ s) := (hu.2 _ _ _ rfl).trans (h.w.say s hs).1.1
    have h19 : u.1 19 0 s = nI (sy τ s) := (hu.2 _ _ _ rfl).trans (h.w.say s hs).2.2.1.1
    obtain ⟨b1, b2⟩ := sy_b h hs
    have q1 := nI_eq (a := sm τ s) (b := m) (by omega) (by omega)
    have q2 := nI_eq (a := sy τ s) (b := y) (by omega) (by omega)
    have hi : inb (nI s) 24 = true := inb_nI (by omega) (by decide)
    rw [M_isSaid_L5, e16, if_neg (nI_ge hs (by omega)), if_pos hi, if_pos hi, nI_clamp (n := s) (by omega), h17, h19]
    unfold M_isSaid_J45
    rw [nI_1]
    cases anyB (fun s => decide (sm τ s = m) && decide (sy τ s = y)) s
    · rw [if_pos (show bI false = 0 from rfl), Bool.false_or]
      by_cases c1 : sm τ s = m
      · rw [if_pos (q1.mpr c1), decide_eq_true c1, Bool.true_and]
        by_cases c2 : sy τ s = y
        · rw [if_pos (q2.mpr c2), decide_eq_true c2]; rfl
        · rw [if_neg (fun z => c2 (q2.mp z)), decide_eq_false c2]; rfl
      · rw [if_neg (fun z => c1 (q1.mp z)), decide_eq_false c1, Bool.false_and]; rfl
    · rw [if_neg (show ¬ bI true = 0 by decide), Bool.true_or]; rfl
def SR (τ : St) (m B D y x : Nat) : Prop := x = B ∨ (∃ j, j < kO τ m ∧ x = Yo τ m j + 1 ∧ x ≤ D) ∧ x < y
theorem said_iff {τ : St} {m y : Nat} : anyB (fun s => decide (sm τ s = m) && decide (sy τ s = y)) (nS τ) = true ↔ ∃ j, j < kO τ m ∧ Yo τ m j = y := by
  rw [anyB_iff]
  constructor
  · rintro ⟨s, hs, hp⟩
    rw [Bool.and_eq_true] at hp
    have e1 : sm τ s = m := of_decide_eq_true hp.1
    have e2 : sy τ s = y := of_decide_eq_true hp.2
    refine ⟨nO τ m s, nO_lt τ hs e1, ?_⟩
    unfold Yo
    rw [ow_at hs e1]; exact e2
  · rintro ⟨j, hj, e⟩
    obtain ⟨h1, h2, h3⟩ := ow_in hj
    refine ⟨ow τ m j, h1, ?_⟩
    rw [Bool.and_eq_true]
    exact ⟨decide_eq_true h2, decide_eq_true e⟩
theorem chg_lp {σ τ u : St} (h : Inv σ τ) (hu : Fr pScr τ u) {m B D : Nat} (hm : m < nM τ) (hT : Tab τ u m) (hB : τ.1 13 0 m = nI B) (hD : τ.1 14 0 m = nI D) (hBD : B ≤ D) (hD9 : D < 1000) (K : Int32 → Int32 → St → Option (Int32 × St)) (v2 : Int32) : ∃ c y, M_changed_L45 K (nI m) v2 1100 (nI B) (nI (lst τ m)) (nI B + 1) u = K (nI y) (nI c) u ∧ LM (cY τ m B) (SY τ m B D (kO τ m)) c y := by
  have hM := h.w.nM8
  have hl := lst_le h.w m
  have e14 : u.1 14 0 m = nI D := (hu.2 _ _ _ rfl).trans hD
  have hi : inb (nI m) 8 = true := inb_nI (by omega) (by decide)
  have hcb : ∀ y, cY τ m B y ≤ 1782 := fun y => by
    have := lA_le h.w m y
    unfold cY
    split <;> omega
  have hh := lpV (fun n y (p : Int32 × Int32) => M_changed_L45 K (nI m) v2 n p.1 p.2 (nI y) u) (fun x p => B < x ∧ ∃ c y, p = (nI y, nI c) ∧ LM (cY τ m B) (SR τ m B D x) c y ∧ c ≤ 1782 ∧ y < x) (fun p => K p.1 p.2 u) (B + 1) (D + 1) (by
    intro n p _
    show M_changed_L45 K (nI m) v2 (n + 1) p.1 p.2 (nI (D + 1)) u = _
    rw [M_changed_L45, if_pos hi, nI_clamp (n := m) (by omega), e14, if_pos (nI_lt (by omega) (by omega))]) (by
    intro x n p hx hp
    obtain ⟨hBx, c, y, e, hLM, hc, hyx⟩ := hp
    subst e
    obtain ⟨x', rfl⟩ : ∃ k, x = k + 1 := ⟨x - 1, by omega⟩
    show ∃ p' : Int32 × Int32, M_changed_L45 K (nI m) v2 (n + 1) (nI y) (nI c) (nI (x' + 1)) u = M_changed_L45 K (nI m) v2 n p'.1 p'.2 (nI (x' + 1 + 1)) u ∧ _
    have hAeq : mR (fun r => sumN (gC τ m 0 x' r) (kO τ m)) = lA τ m (x' + 1) := by
      unfold lA
      congr 1
      funext r
      refine sumN_congr (fun i _ => ?_)
      unfold gC aC
      by_cases k : Yo τ m i < x' + 1
      · rw [if_pos k, if_pos ⟨Nat.zero_le _, by omega⟩]
      · rw [if_neg k, if_neg (fun z => k (by omega))]
    have hFeq : mR (fun r => sumN (gC τ m (x' + 1) 999 r) (kO τ m)) = lF τ m (x' + 1) := by
      unfold lF
      congr 1
      funext r
      refine sumN_congr (fun i hi => ?_)
      have := Yo_b h hi
      unfold gC fC
      by_cases k : Yo τ m i < x' + 1
      · rw [if_pos k, if_neg (fun z => by omega)]
      · rw [if_neg k, if_pos ⟨by omega, by omega⟩]
    have hl1 : M_leastIn (nI m) 0 (nI x') u = some (nI (lA τ m (x' + 1))) := by
      have := leastIn_eq h hu hT (m := m) (b := 0) (c := x') (by omega) (by omega) (by omega)
      rw [hAeq] at this
      exact this
    have hl2 : M_leastIn (nI m) (nI (x' + 1)) 999 u = some (nI (lF τ m (x' + 1))) := by
      have := leastIn_eq h hu hT (m := m) (b := x' + 1) (c := 999) (by omega) (by omega) (by omega)
      rw [hFeq] at this
      exact this
    have eC : lA τ m (x' + 1) + lF τ m (x' + 1) = cY τ m B (x' + 1) := by unfold cY; rw [if_neg (by omega)]
    rw [M_changed_L45, if_pos hi, nI_clamp (n := m) (by omega), e14, if_neg (nI_nlt (by omega) (by omega)), nI_pred, isSaid_eq h hu (by omega) (by omega), Option.bind_some, hl1, Option.bind_some, hl2, Option.bind_some, nI_add, eC]
    unfold M_changed_J121
    rw [nI_1]
    have hcz := hcb (x' + 1)
    have q := nI_leI (a := c) (b := cY τ m B (x' + 1)) (by omega) (by omega)
    cases hb : anyB (fun s => decide (sm τ s = m) && decide (sy τ s = x')) (nS τ) with
    | true =>
      obtain ⟨j, hj, ej⟩ := said_iff.mp hb
      have hst := LM_step (S' := SR τ m B D (x' + 1 + 1)) (z := x' + 1) hLM (by
        intro z
        unfold SR
        constructor
        · rintro (e | ⟨⟨j, j1, j2, j3⟩, j4⟩)
          · exact Or.inl (Or.inl e)
          · by_cases ez : z = x' + 1
            · exact Or.inr ez
            · exact Or.inl (Or.inr ⟨⟨j, j1, j2, j3⟩, by omega⟩)
        · rintro ((e | ⟨⟨j, j1, j2, j3⟩, j4⟩) | e)
          · exact Or.inl e
          · exact Or.inr ⟨⟨j, j1, j2, j3⟩, by omega⟩
          · exact Or.inr ⟨⟨j, hj, by omega, by omega⟩, by omega⟩)
      rw [if_neg (show ¬ bI true = 0 by decide)]
      refine ⟨(nI (if cY τ m B (x' + 1) < c ∨ cY τ m B (x' + 1) = c ∧ x' + 1 < y then x' + 1 else y), nI (if cY τ m B (x' + 1) < c ∨ cY τ m B (x' + 1) = c ∧ x' + 1 < y then cY τ m B (x' + 1) else c)), ?_, by omega, _, _, rfl, hst, by split <;> omega, by split <;> omega⟩
      dsimp only
      by_cases k : c ≤ cY τ m B (x' + 1)
      · rw [if_pos (q.mpr k), if_pos (q.mpr k), if_neg (by omega), if_neg (by omega)]
      · rw [if_neg (fun z => k (q.mp z)), if_neg (fun z => k (q.mp z)), if_pos (by omega), if_pos (by omega)]
    | false =>
      rw [if_pos (show bI false = 0 from rfl)]
      refine ⟨(nI y, nI c), rfl, by omega, c, y, rfl, ?_, hc, by omega⟩
      have eS : SR τ m B D (x' + 1 + 1) = SR τ m B D (x' + 1) := by
        funext z
        apply propext
        unfold SR
        constructor
        · rintro (e | ⟨⟨j, j1, j2, j3⟩, j4⟩)
          · exact Or.inl e
          · refine Or.inr ⟨⟨j, j1, j2, j3⟩, ?_⟩
            by_cases ez : z = x' + 1
            · exfalso
              have : anyB (fun s => decide (sm τ s = m) && decide (sy τ s = x')) (nS τ) = true := said_iff.mpr ⟨j, j1, by omega⟩
              rw [hb] at this
              exact absurd this (by decide)
            · omega
        · rintro (e | ⟨⟨j, j1, j2, j3⟩, j4⟩)
          · exact Or.inl e
          · exact Or.inr ⟨⟨j, j1, j2, j3⟩, by omega⟩
      rw [eS]; exact hLM) (n := 1100) (s := (nI B, nI (lst τ m))) (by omega) (by omega) ⟨by omega, lst τ m, B, rfl, ⟨Or.inl rfl, by unfold cY; rw [if_pos rfl], fun z hz => by
        rcases hz with e | ⟨⟨j, j1, j2, j3⟩, j4⟩
        · subst e; exact Or.inr ⟨rfl, Nat.le_refl _⟩
        · exfalso
          have hs := (ow_in j1).1
          have := (h.w.say _ hs).2.2.1.2.1
          rw [(ow_in j1).2.1, hB, tn_nI (by omega)] at this
          unfold Yo at j2
          omega⟩, by omega, by omega⟩
  obtain ⟨p, p1, -, c, y, e, hLM, -, -⟩ := hh
  subst e
  refine ⟨c, y, ?_, ?_⟩
  · rw [nI_1]; exact p1
  · have eS : SR τ m B D (D + 1) = SY τ m B D (kO τ m) := by
      funext z
      apply propext
      unfold SR SY
      constructor
      · rintro (e | ⟨⟨j, j1, j2, j3⟩, j4⟩)
        · exact Or.inl e
        · exact Or.inr ⟨j, j1, j2, j3⟩
      · rintro (e | ⟨j, j1, j2, j3⟩)
        · exact Or.inl e
        · exact Or.inr ⟨⟨j, j1, j2, j3⟩, by omega⟩
    rw [eS] at hLM; exact hLM
theorem step_28 : Stp_28 Inv := by
  intro a1 σ τ h
  unfold Q_changed M_changed
  by_cases hx : ∃ j, j < nM τ ∧ a1 = nI j
  · obtain ⟨m, hm, rfl⟩ := hx
    have hM := h.w.nM8
    have hi : inb (nI m) 8 = true := inb_nI (by omega) (by decide)
    have hc : (nI m).toNatClampNeg = m := nI_clamp (by omega)
    obtain ⟨B, D, x1, x2, x3, x4, x5, x6⟩ := life_at h hm
    obtain ⟨s, z1, z2⟩ := Bn_weigh_eq h.w h.c (m := m) (by omega)
    obtain ⟨c, y, f1, f2⟩ := first_eq h hm x3 x4 x1 x2 z2
    obtain ⟨t, t1, t2, t3⟩ := M_setTable_eq h.w (m := m) (by omega)
    have ht : Fr pScr τ t := t2.wk pTb_scr
    have hw : M_leastIn (nI m) 0 999 t = some (nI (lst τ m)) := by
      have := leastIn_eq h ht t3 (m := m) (b := 0) (c := 999) (by omega) (by omega) (by omega)
      have e : mR (fun r => sumN (gC τ m 0 999 r) (kO τ m)) = lst τ m := by
        have e1 : (fun r => sumN (gC τ m 0 999 r) (kO τ m)) = s1 τ m := by
          funext r
          unfold s1
          refine sumN_congr (fun i hi => ?_)
          have := Yo_b h hi
          unfold gC
          rw [if_pos ⟨Nat.zero_le _, by omega⟩]
        rw [e1]; rfl
      rw [e] at this
      exact this
    obtain ⟨c', y', g1, g2⟩ := chg_lp h ht hm t3 x3 x4 x1 x2 (fun (v3_35 : Int32) (v4_36 : Int32) (s_37 : St) => Option.bind (M_ask (nI (lst τ m) - v4_36) v3_35 s_37) (fun r_38 => some (r_38.1, r_38.2))) (nI (lst τ m))
    obtain ⟨e1, e2⟩ := LM_uniq f2 g2
    subst e1; subst e2
    have e13 : t.1 13 0 m = nI B := (ht.2 _ _ _ rfl).trans x3
    rw [if_neg (hasM_in h hm).1, if_neg (hasM_in h hm).2]
    unfold Bk_changeYear
    rw [if_pos hi, hc, z1, Option.bind_some, if_pos hi, f1, t1]
    simp only [Option.bind_some]
    rw [hw]
    simp only [Option.bind_some]
    rw [if_pos hi, if_pos hi, e13, g1, sX_s]
    refine ⟨_, _, _, rfl, rfl, Inv_tell (Inv_ms (Inv_fr ?_ h) ht) _⟩
    exact (z2.1.wk pWg_cs).st _ _ _ _ rfl
  · rw [if_pos (hasM_out h hx).1, if_pos (hasM_out h hx).2]
    exact ⟨_, _, _, rfl, rfl, h⟩
