/-! ===== loops ===== -/
theorem lpE {S R : Type} (L : Nat → Nat → S → Option R) (P : Nat → S → Prop) (Q : Option R → Prop) (N : Nat) (h0 : ∀ n s, P N s → Q (L (n + 1) N s)) (h1 : ∀ i n s, i < N → P i s → Q (L (n + 1) i s) ∨ ∃ s', L (n + 1) i s = L n (i + 1) s' ∧ P (i + 1) s') : ∀ d i n s, i + d = N → d < n → P i s → Q (L n i s) := by
  intro d
  induction d with
  | zero =>
    intro i n s hi hn hp
    obtain ⟨n, rfl⟩ : ∃ n', n = n' + 1 := ⟨n - 1, by omega⟩
    have e : i = N := by omega
    rw [e] at hp ⊢
    exact h0 n s hp
  | succ d ih =>
    intro i n s hi hn hp
    obtain ⟨n, rfl⟩ : ∃ n', n = n' + 1 := ⟨n - 1, by omega⟩
    rcases h1 i n s (by omega) hp with h | ⟨s', h2, h3⟩
    · exact h
    · rw [h2]
      exact ih (i + 1) n s' (by omega) (by omega) h3
/-- a loop that runs to its end, from i0 -/
theorem lpV {S R : Type} (L : Nat → Nat → S → Option R) (P : Nat → S → Prop) (Z : S → Option R) (i0 N : Nat) (h0 : ∀ n s, P N s → L (n + 1) N s = Z s) (h1 : ∀ i n s, i < N → P i s → ∃ s', L (n + 1) i s = L n (i + 1) s' ∧ P (i + 1) s') {n : Nat} {s : S} (hi : i0 ≤ N) (hn : N < n) (hp : P i0 s) : ∃ s', L n i0 s = Z s' ∧ P N s' :=
  lpE L P (fun o => ∃ s', o = Z s' ∧ P N s') N (fun n s h => ⟨s, h0 n s h, h⟩) (fun i n s hi hp => Or.inr (h1 i n s hi hp)) (N - i0) i0 n s (by omega) (by omega) hp
/-- a loop that runs to its end -/
theorem lpU {S R : Type} (L : Nat → Nat → S → Option R) (P : Nat → S → Prop) (Z : S → Option R) (N : Nat) (h0 : ∀ n s, P N s → L (n + 1) N s = Z s) (h1 : ∀ i n s, i < N → P i s → ∃ s', L (n + 1) i s = L n (i + 1) s' ∧ P (i + 1) s') {n : Nat} {s : S} (hn : N < n) (hp : P 0 s) : ∃ s', L n 0 s = Z s' ∧ P N s' :=
  lpV L P Z 0 N h0 h1 (Nat.zero_le _) hn hp
/-- a loop whose state is known -/
theorem lpF {S R : Type} (L : Nat → Nat → S → Option R) (f : Nat → S) (z : Option R) (N : Nat) (h0 : ∀ n, L (n + 1) N (f N) = z) (h1 : ∀ i n, i < N → L (n + 1) i (f i) = L n (i + 1) (f (i + 1))) {n : Nat} (hn : N < n) : L n 0 (f 0) = z :=
  lpE L (fun i s => s = f i) (fun o => o = z) N (fun n s h => by rw [h]; exact h0 n) (fun i n s hi hp => Or.inr ⟨f (i + 1), by rw [hp]; exact h1 i n hi, rfl⟩) N 0 n (f 0) (by omega) hn rfl
theorem g244 {i : Nat} (hi : i < 244) : ¬ (244 : Int32) ≤ nI i := nI_ge (b := 244) hi (by decide)
theorem sX_o {σ : St} {kd n j : Nat} {v : Int32} {a b c : Nat} (h : ¬ (a = kd ∧ b = n ∧ c = j)) : (sX σ kd n j v).1 a b c = σ.1 a b c := by
  rw [sX_at, if_neg h]
theorem sX_s {σ : St} {kd n j : Nat} {v : Int32} : (sX σ kd n j v).1 kd n j = v := by
  rw [sX_at, if_pos ⟨rfl, rfl, rfl⟩]
/-! ===== what a master is settled by ===== -/
def oL (l : Nat) : Option (Nat × Nat) → Nat
  | none => l
  | some p => p.1
def oG : Option (Nat × Nat) → Int32
  | none => -9
  | some p => nI p.2
def DA (a b : Nat) : Prop := a < b ∧ b < 244
def De (i a b : Nat) : Prop := a < b ∧ b < 244 ∧ a < i
def Dt (i j a b : Nat) : Prop := a < b ∧ b < 244 ∧ (a < i ∨ a = i ∧ b < j)
def Stl (τ : St) (m v l : Nat) (g : Int32) : Prop := ∃ o, Bst (s2 τ m) DA (lst τ m) v o ∧ l = oL (fmI (s1 τ m) 244) o ∧ g = oG o
theorem Stl_uniq {τ : St} {m v l v' l' : Nat} {g g' : Int32} (h : Stl τ m v l g) (h' : Stl τ m v' l' g') : v = v' ∧ l = l' ∧ g = g' := by
  obtain ⟨o, h1, h2, h3⟩ := h
  obtain ⟨o', h1', h2', h3'⟩ := h'
  obtain ⟨e1, e2⟩ := Bst_uniq h1 h1'
  subst e2
  exact ⟨e1, h2.trans h2'.symm, h3.trans h3'.symm⟩
theorem lst_le {τ : St} (w : WF τ) (m : Nat) : lst τ m ≤ 891 := s1_le w m _
theorem Stl_b {τ : St} (w : WF τ) {m v l : Nat} {g : Int32} (h : Stl τ m v l g) : v ≤ 891 ∧ l < 244 := by
  obtain ⟨o, h1, h2, h3⟩ := h
  have hl := lst_le w m
  have hf := fmI_lt (s1 τ m) 244 (by decide)
  cases o with
  | none =>
    have e : v = lst τ m := h1.1
    have e2 : l = fmI (s1 τ m) 244 := h2
    omega
  | some p =>
    obtain ⟨a, b⟩ := p
    have e2 : l = a := h2
    have h4 : a < b ∧ b < 244 := h1.1
    have h5 : v < lst τ m := h1.2.2.1
    omega
theorem Bst_exit {F : Nat → Nat → Nat} {i v0 v : Nat} {o : Option (Nat × Nat)} (hge : ∀ a b, v ≤ F a b) (h : Bst F (De i) v0 v o) : Bst F DA v0 v o := by
  cases o with
  | none =>
    have h1 : v = v0 := h.1
    exact ⟨h1, fun a b _ => by have := hge a b; omega⟩
  | some p =>
    obtain ⟨l, g⟩ := p
    obtain ⟨⟨d1, d2, d3⟩, a2, a3, a4, a5⟩ := h
    exact ⟨⟨d1, d2⟩, a2, a3, fun a b _ => hge a b, fun a b hd hl => a5 a b ⟨hd.1, hd.2, by omega⟩ hl⟩
theorem s2_ge (τ : St) (m a b : Nat) : pT τ ≤ s2 τ m a b := by
  unfold s2
  omega
def pSt (kd j : Nat) : Bool := kd == 25 || kd == 0 && (j == 26 || j == 27 || j == 28 || j == 29 || j == 30)
theorem pSt_scr : ∀ k j, pScr k j = false → pSt k j = false := by
  intro k j h
  unfold pScr at h
  unfold pSt
  simp only [Bool.or_eq_false_iff, Bool.and_eq_false_iff, beq_eq_false_iff_ne] at h ⊢
  omega
theorem pTb_st : ∀ k j, pSt k j = false → pTb k j = false := by
  intro k j h
  unfold pSt at h
  unfold pTb
  simp only [Bool.or_eq_false_iff, Bool.and_eq_false_iff, beq_eq_false_iff_ne] at h ⊢
  omega
theorem Tab.st {τ u : St} {m j : Nat} {v : Int32} (h : Tab τ u m) (hj : j ≠ 26) : Tab τ (sX u 0 0 j v) m := by
  refine ⟨?_, ?_⟩
  · rw [sX_o (by omega)]; exact h.1
  · intro i hi r hr
    rw [sX_o (by omega)]; exact h.2 i hi r hr
theorem settles_a {τ : St} (w : WF τ) {m : Nat} (K : St → Option St) {u0 : St} (hf : Fr pSt τ u0) (hT : Tab τ u0 m) (h28 : u0.1 0 0 28 = 0) (h29 : u0.1 0 0 29 = -9) (h30 : u0.1 0 0 30 = 1000000) : ∃ u, M_settles_L24 K 1100 0 u0 = K u ∧ Fr pSt τ u ∧ Tab τ u m ∧ u.1 0 0 28 = nI (fmI (s1 τ m) 244) ∧ u.1 0 0 29 = -9 ∧ u.1 0 0 30 = nI (lst τ m) := by
  have hb := s1_le w m
  have h := lpU (fun n i u => M_settles_L24 K n (nI i) u) (fun i u => Fr pSt τ u ∧ Tab τ u m ∧ u.1 0 0 29 = -9 ∧ ((i = 0 ∧ u.1 0 0 28 = 0 ∧ u.1 0 0 30 = 1000000) ∨ (0 < i ∧ u.1 0 0 28 = nI (fmI (s1 τ m) i) ∧ u.1 0 0 30 = nI (s1 τ m (fmI (s1 τ m) i))))) K 244 (by
      intro n u hp
      show M_settles_L24 K (n + 1) (nI 244) u = K u
      rw [M_settles_L24, if_pos (by decide)]) (by
      intro i n u hi hp
      obtain ⟨hf, hT, h29, hor⟩ := hp
      have key : (if u.1 0 0 30 ≤ nI (s1 τ m i) then u.1 0 0 28 else nI i) = nI (fmI (s1 τ m) (i + 1)) ∧ (if u.1 0 0 30 ≤ nI (s1 τ m i) then u.1 0 0 30 else nI (s1 τ m i)) = nI (s1 τ m (fmI (s1 τ m) (i + 1))) := by
        have hfm : fmI (s1 τ m) (i + 1) = if s1 τ m i < s1 τ m (fmI (s1 τ m) i) then i else fmI (s1 τ m) i := rfl
        rcases hor with ⟨e, a, b⟩ | ⟨e, a, b⟩
        · subst e
          have hn : ¬ (1000000 : Int32) ≤ nI (s1 τ m 0) := nI_ge (a := s1 τ m 0) (b := 1000000) (by have := hb 0; omega) (by decide)
          rw [a, b, if_neg hn, if_neg hn, hfm]
          have e0 : fmI (s1 τ m) 0 = 0 := rfl
          rw [e0, if_neg (by omega)]
          exact ⟨rfl, rfl⟩
        · have hle := nI_leI (a := s1 τ m (fmI (s1 τ m) i)) (b := s1 τ m i) (by have := hb (fmI (s1 τ m) i); omega) (by have := hb i; omega)
          rw [a, b, hfm]
          by_cases c : s1 τ m i < s1 τ m (fmI (s1 τ m) i)
          · have hn : ¬ nI (s1 τ m (fmI (s1 τ m) i)) ≤ nI (s1 τ m i) := fun x => by have := hle.mp x; omega
            rw [if_neg hn, if_neg hn, if_pos c]
            exact ⟨rfl, rfl⟩
          · have hn : nI (s1 τ m (fmI (s1 τ m) i)) ≤ nI (s1 τ m i) := hle.mpr (by omega)
            rw [if_pos hn, if_pos hn, if_neg c]
            exact ⟨rfl, rfl⟩
      refine ⟨sX (sX u 0 0 28 (nI (fmI (s1 τ m) (i + 1)))) 0 0 30 (nI (s1 τ m (fmI (s1 τ m) (i + 1)))), ?_, ?_, ?_, ?_, ?_⟩
      · show M_settles_L24 K (n + 1) (nI i) u = M_settles_L24 K n (nI (i + 1)) _
        rw [M_settles_L24, if_neg (g244 hi), M_sumBy_eq w hT hi, Option.bind_some, sX_o (by decide), key.1, key.2, nI_1]
      · exact (hf.st _ _ _ _ rfl).st _ _ _ _ rfl
      · exact (hT.st (by decide)).st (by decide)
      · rw [sX_o (by decide), sX_o (by decide)]; exact h29
      · refine Or.inr ⟨by omega, ?_, ?_⟩
        · rw [sX_o (by decide), sX_s]
        · rw [sX_s]) (n := 1100) (s := u0) (by decide) ⟨hf, hT, h29, Or.inl ⟨rfl, h28, h30⟩⟩
  obtain ⟨u, he, h1, h2, h3, h4⟩ := h
  rcases h4 with ⟨e, -⟩ | ⟨-, h5, h6⟩
  · exact absurd e (by decide)
  · exact ⟨u, he, h1, h2, h5, h3, h6⟩
def SB (τ : St) (m : Nat) (D : Nat → Nat → Prop) (u : St) : Prop := Fr pSt τ u ∧ Tab τ u m ∧ ∃ v o, Bst (s2 τ m) D (lst τ m) v o ∧ v ≤ lst τ m ∧ u.1 0 0 27 = nI v ∧ u.1 0 0 28 = nI (oL (fmI (s1 τ m) 244) o) ∧ u.1 0 0 29 = oG o
theorem Dt_0 (i : Nat) : Dt i (i + 1) = De i := by
  funext a b
  apply propext
  unfold Dt De
  omega
theorem Dt_e (i : Nat) : Dt i 244 = De (i + 1) := by
  funext a b
  apply propext
  unfold Dt De
  omega
theorem De_e : De 244 = DA := by
  funext a b
  apply propext
  unfold DA De
  omega
theorem settles_b {τ : St} (w : WF τ) {m : Nat} (K : St → Option St) {i : Nat} (hi : i < 244) {u0 : St} (h0 : SB τ m (De i) u0) : ∃ u, M_settles_L117 K (nI i) 1100 (nI (i + 1)) u0 = K u ∧ SB τ m (De (i + 1)) u := by
  have h := lpV (fun n j u => M_settles_L117 K (nI i) n (nI j) u) (fun j u => i < j ∧ SB τ m (Dt i j) u) K (i + 1) 244 (by
      intro n u hp
      show M_settles_L117 K (nI i) (n + 1) (nI 244) u = K u
      rw [M_settles_L117, if_pos (by decide)]) (by
      intro j n u hj hp
      obtain ⟨hij, hf, hT, v, o, hB, hv, h27, h28, h29⟩ := hp
      have hl := lst_le w m
      have h2 := s2_le w m i j
      have hs := Bst_step (a := i) (b := j) (D' := Dt i (j + 1)) hB hv (by intro a b; unfold Dt; omega) (by intro a b; unfold Dt; omega)
      have h24 : u.1 24 0 2 = τ.1 24 0 2 := hf.2 _ _ _ rfl
      have hle := nI_leI (a := v) (b := s2 τ m i j) (by omega) (by omega)
      by_cases c : s2 τ m i j < v
      · rw [if_pos c, if_pos c] at hs
        refine ⟨sX (sX (sX u 0 0 27 (nI (s2 τ m i j))) 0 0 28 (nI i)) 0 0 29 (nI j), ?_, by omega, ?_, ?_, s2 τ m i j, some (i, j), hs, by omega, ?_, ?_, ?_⟩
        · show M_settles_L117 K (nI i) (n + 1) (nI j) u = M_settles_L117 K (nI i) n (nI (j + 1)) _
          rw [M_settles_L117, if_neg (g244 hj), M_sumByTwo_eq w hT h24 hi hj, Option.bind_some, h27, if_neg (fun x => by have := hle.mp x; omega)]
          show M_settles_L117 K (nI i) n (nI j + 1) _ = _
          rw [nI_1]
        · exact ((hf.st _ _ _ _ rfl).st _ _ _ _ rfl).st _ _ _ _ rfl
        · exact ((hT.st (by decide)).st (by decide)).st (by decide)
        · rw [sX_o (by decide), sX_o (by decide), sX_s]
        · rw [sX_o (by decide), sX_s]; rfl
        · rw [sX_s]; rfl
      · rw [if_neg c, if_neg c] at hs
        refine ⟨u, ?_, by omega, hf, hT, v, o, hs, hv, h27, h28, h29⟩
        show M_settles_L117 K (nI i) (n + 1) (nI j) u = M_settles_L117 K (nI i) n (nI (j + 1)) _
        rw [M_settles_L117, if_neg (g244 hj), M_sumByTwo_eq w hT h24 hi hj, Option.bind_some, h27, if_pos (hle.mpr (by omega))]
        show M_settles_L117 K (nI i) n (nI j + 1) _ = _
        rw [nI_1]) (n := 1100) (s := u0) (by omega) (by decide) ⟨by omega, by rw [Dt_0]; exact h0⟩
  obtain ⟨u, he, -, h1⟩ := h
  rw [Dt_e] at h1
  exact ⟨u, he, h1⟩
theorem settles_c {τ : St} (w : WF τ) {m : Nat} {u0 : St} (h0 : SB τ m (De 0) u0) : ∃ u, M_settles_L93 1100 0 u0 = some u ∧ SB τ m DA u := by
  refine lpE (fun n i u => M_settles_L93 n (nI i) u) (fun i u => SB τ m (De i) u) (fun o => ∃ u, o = some u ∧ SB τ m DA u) 244 ?_ ?_ 244 0 1100 u0 (by decide) (by decide) h0
  · intro n u hp
    refine ⟨u, ?_, ?_⟩
    · show M_settles_L93 (n + 1) (nI 244) u = some u
      rw [M_settles_L93, if_pos (by decide)]
    · rw [De_e] at hp; exact hp
  · intro i n u hi hp
    have hl := lst_le w m
    have hpT := (wfP w).2.2
    obtain ⟨hf, hT, v, o, hB, hv, h27, h28, h29⟩ := hp
    have h24 : u.1 24 0 2 = nI (pT τ) := (hf.2 _ _ _ rfl).trans hpT.1
    have hle := nI_leI (a := v) (b := pT τ) (by omega) (by have := hpT.2; omega)
    by_cases c : v ≤ pT τ
    · refine Or.inl ⟨u, ?_, hf, hT, v, o, Bst_exit (fun a b => Nat.le_trans c (s2_ge τ m a b)) hB, hv, h27, h28, h29⟩
      show M_settles_L93 (n + 1) (nI i) u = some u
      rw [M_settles_L93, if_neg (g244 hi), h27, h24, if_pos (hle.mpr c)]
    · refine Or.inr ?_
      obtain ⟨u', h1, h2⟩ := settles_b w (fun (s_28 : St) => (M_settles_L93 n) (nI i + 1) s_28) hi ⟨hf, hT, v, o, hB, hv, h27, h28, h29⟩
      refine ⟨u', ?_, h2⟩
      show M_settles_L93 (n + 1) (nI i) u = M_settles_L93 n (nI (i + 1)) u'
      rw [M_settles_L93, if_neg (g244 hi), h27, h24, if_neg (fun x => c (hle.mp x))]
      rw [nI_1] at h1 ⊢
      exact h1
theorem M_settles_eq {τ : St} (w : WF τ) {m : Nat} (hm : m < 1000) : ∃ u v l g, M_settles (nI m) τ = some u ∧ Fr pSt τ u ∧ Stl τ m v l g ∧ u.1 0 0 27 = nI v ∧ u.1 0 0 28 = nI l ∧ u.1 0 0 29 = g := by
  obtain ⟨t, ht, hf, hT⟩ := M_setTable_eq w hm
  obtain ⟨a, a1, a2, a3, a4, a5, a6⟩ := settles_a w (fun (s_11 : St) => M_settles_L93 1100 0 (sX s_11 0 0 27 (s_11.1 0 0 30))) (u0 := sX (sX (sX t 0 0 28 0) 0 0 29 (-9)) 0 0 30 1000000) ((((hf.wk pTb_st).st _ _ _ _ rfl).st _ _ _ _ rfl).st _ _ _ _ rfl) (((hT.st (by decide)).st (by decide)).st (by decide)) (by rw [sX_o (by decide), sX_o (by decide), sX_s]) (by rw [sX_o (by decide), sX_s]) (by rw [sX_s])
  obtain ⟨u, b1, b2, b3, v, o, b4, b5, b6, b7, b8⟩ := settles_c w (m := m) (u0 := sX a 0 0 27 (a.1 0 0 30)) ⟨a2.st _ _ _ _ rfl, a3.st (by decide), lst τ m, none, ⟨rfl, fun i j hd => absurd hd.2.2 (Nat.not_lt_zero _)⟩, Nat.le_refl _, by rw [sX_s, a6], by rw [sX_o (by decide), a4]; rfl, by rw [sX_o (by decide), a5]; rfl⟩
  refine ⟨u, v, _, _, ?_, b2, ⟨o, b4, rfl, rfl⟩, b6, b7, b8⟩
  unfold M_settles
  rw [ht, Option.bind_some, a1]
  exact b1
/-! ===== the cheap rules ===== -/
def chp (τ : St) (m r : Nat) : Bool := decide (s1 τ m r = lst τ m)
def bI (b : Bool) : Int32 := if b = true then 1 else 0
theorem nar_bI (b : Bool) : vp_nar .boolean (bI b) = bI b := by
  cases b <;> rfl
def pCh (kd j : Nat) : Bool := kd == 25 || kd == 31 || kd == 0 && j == 26
theorem pCh_scr : ∀ k j, pScr k j = false → pCh k j = false := by
  intro k j h
  unfold pScr at h
  unfold pCh
  simp only [Bool.or_eq_false_iff, Bool.and_eq_false_iff, beq_eq_false_iff_ne] at h ⊢
  omega
theorem pTb_ch : ∀ k j, pCh k j = false → pTb k j = false := by
  intro k j h
  unfold pCh at h
  unfold pTb
  simp only [Bool.or_eq_false_iff, Bool.and_eq_false_iff, beq_eq_false_iff_ne] at h ⊢
  omega
theorem setCheap_a {τ t : St} (w : WF τ) {m : Nat} (hT : Tab τ t m) (K : Int32 → St → Option St) : M_setCheap_L10 K 1100 1000000 0 t = K (nI (lst τ m)) t := by
  have hb := s1_le w m
  have h := lpU (fun n i v => M_setCheap_L10 K n v (nI i) t) (fun i v => (i = 0 ∧ v = 1000000) ∨ (0 < i ∧ v = nI (s1 τ m (fmI (s1 τ m) i)))) (fun v => K v t) 244 (by
      intro n v hp
      show M_setCheap_L10 K (n + 1) v (nI 244) t = K v t
      rw [M_setCheap_L10, if_pos (by decide)]) (by
      intro i n v hi hor
      refine ⟨nI (s1 τ m (fmI (s1 τ m) (i + 1))), ?_, Or.inr ⟨by omega, rfl⟩⟩
      show M_setCheap_L10 K (n + 1) v (nI i) t = M_setCheap_L10 K n _ (nI (i + 1)) t
      have key : (if v ≤ nI (s1 τ m i) then v else nI (s1 τ m i)) = nI (s1 τ m (fmI (s1 τ m) (i + 1))) := by
        have hfm : fmI (s1 τ m) (i + 1) = if s1 τ m i < s1 τ m (fmI (s1 τ m) i) then i else fmI (s1 τ m) i := rfl
        rcases hor with ⟨e, b⟩ | ⟨e, b⟩
        · subst e
          have hn : ¬ (1000000 : Int32) ≤ nI (s1 τ m 0) := nI_ge (a := s1 τ m 0) (b := 1000000) (by have := hb 0; omega) (by decide)
          rw [b, if_neg hn, hfm]
          have e0 : fmI (s1 τ m) 0 = 0 := rfl
          rw [e0, if_neg (by omega)]
        · have hle := nI_leI (a := s1 τ m (fmI (s1 τ m) i)) (b := s1 τ m i) (by have := hb (fmI (s1 τ m) i); omega) (by have := hb i; omega)
          rw [b, hfm]
          by_cases c : s1 τ m i < s1 τ m (fmI (s1 τ m) i)
          · have hn : ¬ nI (s1 τ m (fmI (s1 τ m) i)) ≤ nI (s1 τ m i) := fun x => by have := hle.mp x; omega
            rw [if_neg hn, if_pos c]
          · have hn : nI (s1 τ m (fmI (s1 τ m) i)) ≤ nI (s1 τ m i) := hle.mpr (by omega)
            rw [if_pos hn, if_neg c]
      rw [M_setCheap_L10, if_neg (g244 hi), M_sumBy_eq w hT hi, Option.bind_some, key, nI_1]) (n := 1100) (s := 1000000) (by decide) (Or.inl ⟨rfl, rfl⟩)
  obtain ⟨v, he, h4⟩ := h
  rcases h4 with ⟨e, -⟩ | ⟨-, h5⟩
  · exact absurd e (by decide)
  · subst h5
    exact he
theorem M_setCheap_eq {τ : St} (w : WF τ) {m : Nat} (hm : m < 1000) : ∃ u, M_setCheap (nI m) τ = some u ∧ Fr pCh τ u ∧ ∀ r, r < 244 → u.1 31 0 r = bI (chp τ m r) := by
  obtain ⟨t, ht, hf, hT⟩ := M_setTable_eq w hm
  have hb := s1_le w m
  have hl := lst_le w m
  have h := lpU (fun n i u => M_setCheap_L45 (nI (lst τ m)) n (nI i) u) (fun i u => Fr pCh τ u ∧ Tab τ u m ∧ ∀ r, r < i → u.1 31 0 r = bI (chp τ m r)) some 244 (by
      intro n u hp
      show M_setCheap_L45 (nI (lst τ m)) (n + 1) (nI 244) u = some u
      rw [M_setCheap_L45, if_pos (by decide)]) (by
      intro i n u hi hp
      obtain ⟨hf, hT, hc⟩ := hp
      have key : (if nI (s1 τ m i) = nI (lst τ m) then 1 else 0 : Int32) = bI (chp τ m i) := by
        have h1 := nI_eq (a := s1 τ m i) (b := lst τ m) (by have := hb i; omega) (by omega)
        unfold bI chp
        simp only [h1, decide_eq_true_eq]
      refine ⟨sX u 31 0 i (bI (chp τ m i)), ?_, hf.st _ _ _ _ rfl, ?_, ?_⟩
      · show M_setCheap_L45 (nI (lst τ m)) (n + 1) (nI i) u = M_setCheap_L45 (nI (lst τ m)) n (nI (i + 1)) _
        rw [M_setCheap_L45, if_neg (g244 hi), M_sumBy_eq w hT hi, Option.bind_some, if_pos (inb_nI hi (by decide)), nI_clamp (by omega), key, nar_bI, nI_1]
      · refine ⟨?_, ?_⟩
        · rw [sX_o (by omega)]; exact hT.1
        · intro k hk r hr
          rw [sX_o (by omega)]; exact hT.2 k hk r hr
      · intro r hr
        by_cases e : r = i
        · subst e; rw [sX_s]
        · rw [sX_o (by omega)]; exact hc r (by omega)) (n := 1100) (s := t) (by decide) ⟨hf.wk pTb_ch, hT, fun r hr => absurd hr (Nat.not_lt_zero _)⟩
  obtain ⟨u, he, h1, -, h3⟩ := h
  refine ⟨u, ?_, h1, h3⟩
  unfold M_setCheap
  rw [ht, Option.bind_some, setCheap_a w hT]
  exact he
