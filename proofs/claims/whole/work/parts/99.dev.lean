/-! ===== loops ===== -/
theorem lpE {S R : Type} (L : Nat → Nat → S → Option R) (P : Nat → S → Prop) (Q : Option R → Prop) (N : Nat) (h0 : ∀ n s, P N s → Q (L (n + 1) N s)) (h1 : ∀ i n s, i < N → P i s → Q (L (n + 1) i s) ∨ ∃ s', L (n + 1) i s = L n (i + 1) s' ∧ P (i + 1) s') : ∀ d i n s, i + d = N → d < n → P i s → Q (L n i s) := by
  intro d
  induction d with
  | zero =>
    intro i n s hi hn hp
    obtain ⟨n, rfl⟩ : ∃ n', n = n' + 1 := ⟨n - 1, by omega⟩
    have e : i = N := by omega
    rw [e] at hp ⊢
    exact h0 n s hp
  | succ d ih =>
    intro i n s hi hn hp
    obtain ⟨n, rfl⟩ : ∃ n', n = n' + 1 := ⟨n - 1, by omega⟩
    rcases h1 i n s (by omega) hp with h | ⟨s', h2, h3⟩
    · exact h
    · rw [h2]
      exact ih (i + 1) n s' (by omega) (by omega) h3
/-- a loop that runs to its end, from i0 -/
theorem lpV {S R : Type} (L : Nat → Nat → S → Option R) (P : Nat → S → Prop) (Z : S → Option R) (i0 N : Nat) (h0 : ∀ n s, P N s → L (n + 1) N s = Z s) (h1 : ∀ i n s, i < N → P i s → ∃ s', L (n + 1) i s = L n (i + 1) s' ∧ P (i + 1) s') {n : Nat} {s : S} (hi : i0 ≤ N) (hn : N < n) (hp : P i0 s) : ∃ s', L n i0 s = Z s' ∧ P N s' :=
  lpE L P (fun o => ∃ s', o = Z s' ∧ P N s') N (fun n s h => ⟨s, h0 n s h, h⟩) (fun i n s hi hp => Or.inr (h1 i n s hi hp)) (N - i0) i0 n s (by omega) (by omega) hp
/-- a loop that runs to its end -/
theorem lpU {S R : Type} (L : Nat → Nat → S → Option R) (P : Nat → S → Prop) (Z : S → Option R) (N : Nat) (h0 : ∀ n s, P N s → L (n + 1) N s = Z s) (h1 : ∀ i n s, i < N → P i s → ∃ s', L (n + 1) i s = L n (i + 1) s' ∧ P (i + 1) s') {n : Nat} {s : S} (hn : N < n) (hp : P 0 s) : ∃ s', L n 0 s = Z s' ∧ P N s' :=
  lpV L P Z 0 N h0 h1 (Nat.zero_le _) hn hp
/-- a loop whose state is known -/
theorem lpF {S R : Type} (L : Nat → Nat → S → Option R) (f : Nat → S) (z : Option R) (N : Nat) (h0 : ∀ n, L (n + 1) N (f N) = z) (h1 : ∀ i n, i < N → L (n + 1) i (f i) = L n (i + 1) (f (i + 1))) {n : Nat} (hn : N < n) : L n 0 (f 0) = z :=
  lpE L (fun i s => s = f i) (fun o => o = z) N (fun n s h => by rw [h]; exact h0 n) (fun i n s hi hp => Or.inr ⟨f (i + 1), by rw [hp]; exact h1 i n hi, rfl⟩) N 0 n (f 0) (by omega) hn rfl
theorem g244 {i : Nat} (hi : i < 244) : ¬ (244 : Int32) ≤ nI i := nI_ge (b := 244) hi (by decide)
theorem sX_o {σ : St} {kd n j : Nat} {v : Int32} {a b c : Nat} (h : ¬ (a = kd ∧ b = n ∧ c = j)) : (sX σ kd n j v).1 a b c = σ.1 a b c := by
  rw [sX_at, if_neg h]
theorem sX_s {σ : St} {kd n j : Nat} {v : Int32} : (sX σ kd n j v).1 kd n j = v := by
  rw [sX_at, if_pos ⟨rfl, rfl, rfl⟩]
/-! ===== what a master is settled by ===== -/
def oL (l : Nat) : Option (Nat × Nat) → Nat
  | none => l
  | some p => p.1
def oG : Option (Nat × Nat) → Int32
  | none => -9
  | some p => nI p.2
def DA (a b : Nat) : Prop := a < b ∧ b < 244
def De (i a b : Nat) : Prop := a < b ∧ b < 244 ∧ a < i
def Dt (i j a b : Nat) : Prop := a < b ∧ b < 244 ∧ (a < i ∨ a = i ∧ b < j)
def Stl (τ : St) (m v l : Nat) (g : Int32) : Prop := ∃ o, Bst (s2 τ m) DA (lst τ m) v o ∧ l = oL (fmI (s1 τ m) 244) o ∧ g = oG o
theorem Stl_uniq {τ : St} {m v l v' l' : Nat} {g g' : Int32} (h : Stl τ m v l g) (h' : Stl τ m v' l' g') : v = v' ∧ l = l' ∧ g = g' := by
  obtain ⟨o, h1, h2, h3⟩ := h
  obtain ⟨o', h1', h2', h3'⟩ := h'
  obtain ⟨e1, e2⟩ := Bst_uniq h1 h1'
  subst e2
  exact ⟨e1, h2.trans h2'.symm, h3.trans h3'.symm⟩
theorem lst_le {τ : St} (w : WF τ) (m : Nat) : lst τ m ≤ 891 := s1_le w m _
theorem Stl_b {τ : St} (w : WF τ) {m v l : Nat} {g : Int32} (h : Stl τ m v l g) : v ≤ 891 ∧ l < 244 := by
  obtain ⟨o, h1, h2, h3⟩ := h
  have hl := lst_le w m
  have hf := fmI_lt (s1 τ m) 244 (by decide)
  cases o with
  | none =>
    have e : v = lst τ m := h1.1
    have e2 : l = fmI (s1 τ m) 244 := h2
    omega
  | some p =>
    obtain ⟨a, b⟩ := p
    have e2 : l = a := h2
    have h4 : a < b ∧ b < 244 := h1.1
    have h5 : v < lst τ m := h1.2.2.1
    omega
theorem Bst_exit {F : Nat → Nat → Nat} {i v0 v : Nat} {o : Option (Nat × Nat)} (hge : ∀ a b, v ≤ F a b) (h : Bst F (De i) v0 v o) : Bst F DA v0 v o := by
  cases o with
  | none =>
    have h1 : v = v0 := h.1
    exact ⟨h1, fun a b _ => by have := hge a b; omega⟩
  | some p =>
    obtain ⟨l, g⟩ := p
    obtain ⟨⟨d1, d2, d3⟩, a2, a3, a4, a5⟩ := h
    exact ⟨⟨d1, d2⟩, a2, a3, fun a b _ => hge a b, fun a b hd hl => a5 a b ⟨hd.1, hd.2, by omega⟩ hl⟩
theorem s2_ge (τ : St) (m a b : Nat) : pT τ ≤ s2 τ m a b := by
  unfold s2
  omega
def pSt (kd j : Nat) : Bool := kd == 25 || kd == 0 && (j == 26 || j == 27 || j == 28 || j == 29 || j == 30)
theorem pSt_scr : ∀ k j, pScr k j = false → pSt k j = false := by
  intro k j h
  unfold pScr at h
  unfold pSt
  simp only [Bool.or_eq_false_iff, Bool.and_eq_false_iff, beq_eq_false_iff_ne] at h ⊢
  omega
theorem pTb_st : ∀ k j, pSt k j = false → pTb k j = false := by
  intro k j h
  unfold pSt at h
  unfold pTb
  simp only [Bool.or_eq_false_iff, Bool.and_eq_false_iff, beq_eq_false_iff_ne] at h ⊢
  omega
theorem Tab.st {τ u : St} {m j : Nat} {v : Int32} (h : Tab τ u m) (hj : j ≠ 26) : Tab τ (sX u 0 0 j v) m := by
  refine ⟨?_, ?_⟩
  · rw [sX_o (by omega)]; exact h.1
  · intro i hi r hr
    rw [sX_o (by omega)]; exact h.2 i hi r hr
theorem settles_a {τ : St} (w : WF τ) {m : Nat} (K : St → Option St) {u0 : St} (hf : Fr pSt τ u0) (hT : Tab τ u0 m) (h28 : u0.1 0 0 28 = 0) (h29 : u0.1 0 0 29 = -9) (h30 : u0.1 0 0 30 = 1000000) : ∃ u, M_settles_L24 K 1100 0 u0 = K u ∧ Fr pSt τ u ∧ Tab τ u m ∧ u.1 0 0 28 = nI (fmI (s1 τ m) 244) ∧ u.1 0 0 29 = -9 ∧ u.1 0 0 30 = nI (lst τ m) := by
  have hb := s1_le w m
  have h := lpU (fun n i u => M_settles_L24 K n (nI i) u) (fun i u => Fr pSt τ u ∧ Tab τ u m ∧ u.1 0 0 29 = -9 ∧ ((i = 0 ∧ u.1 0 0 28 = 0 ∧ u.1 0 0 30 = 1000000) ∨ (0 < i ∧ u.1 0 0 28 = nI (fmI (s1 τ m) i) ∧ u.1 0 0 30 = nI (s1 τ m (fmI (s1 τ m) i))))) K 244 (by
      intro n u hp
      show M_settles_L24 K (n + 1) (nI 244) u = K u
      rw [M_settles_L24, if_pos (by decide)]) (by
      intro i n u hi hp
      obtain ⟨hf, hT, h29, hor⟩ := hp
      have key : (if u.1 0 0 30 ≤ nI (s1 τ m i) then u.1 0 0 28 else nI i) = nI (fmI (s1 τ m) (i + 1)) ∧ (if u.1 0 0 30 ≤ nI (s1 τ m i) then u.1 0 0 30 else nI (s1 τ m i)) = nI (s1 τ m (fmI (s1 τ m) (i + 1))) := by
        have hfm : fmI (s1 τ m) (i + 1) = if s1 τ m i < s1 τ m (fmI (s1 τ m) i) then i else fmI (s1 τ m) i := rfl
        rcases hor with ⟨e, a, b⟩ | ⟨e, a, b⟩
        · subst e
          have hn : ¬ (1000000 : Int32) ≤ nI (s1 τ m 0) := nI_ge (a := s1 τ m 0) (b := 1000000) (by have := hb 0; omega) (by decide)
          rw [a, b, if_neg hn, if_neg hn, hfm]
          have e0 : fmI (s1 τ m) 0 = 0 := rfl
          rw [e0, if_neg (by omega)]
          exact ⟨rfl, rfl⟩
        · have hle := nI_leI (a := s1 τ m (fmI (s1 τ m) i)) (b := s1 τ m i) (by have := hb (fmI (s1 τ m) i); omega) (by have := hb i; omega)
          rw [a, b, hfm]
          by_cases c : s1 τ m i < s1 τ m (fmI (s1 τ m) i)
          · have hn : ¬ nI (s1 τ m (fmI (s1 τ m) i)) ≤ nI (s1 τ m i) := fun x => by have := hle.mp x; omega
            rw [if_neg hn, if_neg hn, if_pos c]
            exact ⟨rfl, rfl⟩
          · have hn : nI (s1 τ m (fmI (s1 τ m) i)) ≤ nI (s1 τ m i) := hle.mpr (by omega)
            rw [if_pos hn, if_pos hn, if_neg c]
            exact ⟨rfl, rfl⟩
      refine ⟨sX (sX u 0 0 28 (nI (fmI (s1 τ m) (i + 1)))) 0 0 30 (nI (s1 τ m (fmI (s1 τ m) (i + 1)))), ?_, ?_, ?_, ?_, ?_⟩
      · show M_settles_L24 K (n + 1) (nI i) u = M_settles_L24 K n (nI (i + 1)) _
        rw [M_settles_L24, if_neg (g244 hi), M_sumBy_eq w hT hi, Option.bind_some, sX_o (by decide), key.1, key.2, nI_1]
      · exact (hf.st _ _ _ _ rfl).st _ _ _ _ rfl
      · exact (hT.st (by decide)).st (by decide)
      · rw [sX_o (by decide), sX_o (by decide)]; exact h29
      · refine Or.inr ⟨by omega, ?_, ?_⟩
        · rw [sX_o (by decide), sX_s]
        · rw [sX_s]) (n := 1100) (s := u0) (by decide) ⟨hf, hT, h29, Or.inl ⟨rfl, h28, h30⟩⟩
  obtain ⟨u, he, h1, h2, h3, h4⟩ := h
  rcases h4 with ⟨e, -⟩ | ⟨-, h5, h6⟩
  · exact absurd e (by decide)
  · exact ⟨u, he, h1, h2, h5, h3, h6⟩
def SB (τ : St) (m : Nat) (D : Nat → Nat → Prop) (u : St) : Prop := Fr pSt τ u ∧ Tab τ u m ∧ ∃ v o, Bst (s2 τ m) D (lst τ m) v o ∧ v ≤ lst τ m ∧ u.1 0 0 27 = nI v ∧ u.1 0 0 28 = nI (oL (fmI (s1 τ m) 244) o) ∧ u.1 0 0 29 = oG o
theorem Dt_0 (i : Nat) : Dt i (i + 1) = De i := by
  funext a b
  apply propext
  unfold Dt De
  omega
theorem Dt_e (i : Nat) : Dt i 244 = De (i + 1) := by
  funext a b
  apply propext
  unfold Dt De
  omega
theorem De_e : De 244 = DA := by
  funext a b
  apply propext
  unfold DA De
  omega
theorem settles_b {τ : St} (w : WF τ) {m : Nat} (K : St → Option St) {i : Nat} (hi : i < 244) {u0 : St} (h0 : SB τ m (De i) u0) : ∃ u, M_settles_L117 K (nI i) 1100 (nI (i + 1)) u0 = K u ∧ SB τ m (De (i + 1)) u := by
  have h := lpV (fun n j u => M_settles_L117 K (nI i) n (nI j) u) (fun j u => i < j ∧ SB τ m (Dt i j) u) K (i + 1) 244 (by
      intro n u hp
      show M_settles_L117 K (nI i) (n + 1) (nI 244) u = K u
      rw [M_settles_L117, if_pos (by decide)]) (by
      intro j n u hj hp
      obtain ⟨hij, hf, hT, v, o, hB, hv, h27, h28, h29⟩ := hp
      have hl := lst_le w m
      have h2 := s2_le w m i j
      have hs := Bst_step (a := i) (b := j) (D' := Dt i (j + 1)) hB hv (by intro a b; unfold Dt; omega) (by intro a b; unfold Dt; omega)
      have h24 : u.1 24 0 2 = τ.1 24 0 2 := hf.2 _ _ _ rfl
      have hle := nI_leI (a := v) (b := s2 τ m i j) (by omega) (by omega)
      by_cases c : s2 τ m i j < v
      · rw [if_pos c, if_pos c] at hs
        refine ⟨sX (sX (sX u 0 0 27 (nI (s2 τ m i j))) 0 0 28 (nI i)) 0 0 29 (nI j), ?_, by omega, ?_, ?_, s2 τ m i j, some (i, j), hs, by omega, ?_, ?_, ?_⟩
        · show M_settles_L117 K (nI i) (n + 1) (nI j) u = M_settles_L117 K (nI i) n (nI (j + 1)) _
          rw [M_settles_L117, if_neg (g244 hj), M_sumByTwo_eq w hT h24 hi hj, Option.bind_some, h27, if_neg (fun x => by have := hle.mp x; omega)]
          show M_settles_L117 K (nI i) n (nI j + 1) _ = _
          rw [nI_1]
        · exact ((hf.st _ _ _ _ rfl).st _ _ _ _ rfl).st _ _ _ _ rfl
        · exact ((hT.st (by decide)).st (by decide)).st (by decide)
        · rw [sX_o (by decide), sX_o (by decide), sX_s]
        · rw [sX_o (by decide), sX_s]; rfl
        · rw [sX_s]; rfl
      · rw [if_neg c, if_neg c] at hs
        refine ⟨u, ?_, by omega, hf, hT, v, o, hs, hv, h27, h28, h29⟩
        show M_settles_L117 K (nI i) (n + 1) (nI j) u = M_settles_L117 K (nI i) n (nI (j + 1)) _
        rw [M_settles_L117, if_neg (g244 hj), M_sumByTwo_eq w hT h24 hi hj, Option.bind_some, h27, if_pos (hle.mpr (by omega))]
        show M_settles_L117 K (nI i) n (nI j + 1) _ = _
        rw [nI_1]) (n := 1100) (s := u0) (by omega) (by decide) ⟨by omega, by rw [Dt_0]; exact h0⟩
  obtain ⟨u, he, -, h1⟩ := h
  rw [Dt_e] at h1
  exact ⟨u, he, h1⟩
theorem settles_c {τ : St} (w : WF τ) {m : Nat} {u0 : St} (h0 : SB τ m (De 0) u0) : ∃ u, M_settles_L93 1100 0 u0 = some u ∧ SB τ m DA u := by
  refine lpE (fun n i u => M_settles_L93 n (nI i) u) (fun i u => SB τ m (De i) u) (fun o => ∃ u, o = some u ∧ SB τ m DA u) 244 ?_ ?_ 244 0 1100 u0 (by decide) (by decide) h0
  · intro n u hp
    refine ⟨u, ?_, ?_⟩
    · show M_settles_L93 (n + 1) (nI 244) u = some u
      rw [M_settles_L93, if_pos (by decide)]
    · rw [De_e] at hp; exact hp
  · intro i n u hi hp
    have hl := lst_le w m
    have hpT := (wfP w).2.2
    obtain ⟨hf, hT, v, o, hB, hv, h27, h28, h29⟩ := hp
    have h24 : u.1 24 0 2 = nI (pT τ) := (hf.2 _ _ _ rfl).trans hpT.1
    have hle := nI_leI (a := v) (b := pT τ) (by omega) (by have := hpT.2; omega)
    by_cases c : v ≤ pT τ
    · refine Or.inl ⟨u, ?_, hf, hT, v, o, Bst_exit (fun a b => Nat.le_trans c (s2_ge τ m a b)) hB, hv, h27, h28, h29⟩
      show M_settles_L93 (n + 1) (nI i) u = some u
      rw [M_settles_L93, if_neg (g244 hi), h27, h24, if_pos (hle.mpr c)]
    · refine Or.inr ?_
      obtain ⟨u', h1, h2⟩ := settles_b w (fun (s_28 : St) => (M_settles_L93 n) (nI i + 1) s_28) hi ⟨hf, hT, v, o, hB, hv, h27, h28, h29⟩
      refine ⟨u', ?_, h2⟩
      show M_settles_L93 (n + 1) (nI i) u = M_settles_L93 n (nI (i + 1)) u'
      rw [M_settles_L93, if_neg (g244 hi), h27, h24, if_neg (fun x => c (hle.mp x))]
      rw [nI_1] at h1 ⊢
      exact h1
theorem M_settles_eq {τ : St} (w : WF τ) {m : Nat} (hm : m < 1000) : ∃ u v l g, M_settles (nI m) τ = some u ∧ Fr pSt τ u ∧ Stl τ m v l g ∧ u.1 0 0 27 = nI v ∧ u.1 0 0 28 = nI l ∧ u.1 0 0 29 = g := by
  obtain ⟨t, ht, hf, hT⟩ := M_setTable_eq w hm
  obtain ⟨a, a1, a2, a3, a4, a5, a6⟩ := settles_a w (fun (s_11 : St) => M_settles_L93 1100 0 (sX s_11 0 0 27 (s_11.1 0 0 30))) (u0 := sX (sX (sX t 0 0 28 0) 0 0 29 (-9)) 0 0 30 1000000) ((((hf.wk pTb_st).st _ _ _ _ rfl).st _ _ _ _ rfl).st _ _ _ _ rfl) (((hT.st (by decide)).st (by decide)).st (by decide)) (by rw [sX_o (by decide), sX_o (by decide), sX_s]) (by rw [sX_o (by decide), sX_s]) (by rw [sX_s])
  obtain ⟨u, b1, b2, b3, v, o, b4, b5, b6, b7, b8⟩ := settles_c w (m := m) (u0 := sX a 0 0 27 (a.1 0 0 30)) ⟨a2.st _ _ _ _ rfl, a3.st (by decide), lst τ m, none, ⟨rfl, fun i j hd => absurd hd.2.2 (Nat.not_lt_zero _)⟩, Nat.le_refl _, by rw [sX_s, a6], by rw [sX_o (by decide), a4]; rfl, by rw [sX_o (by decide), a5]; rfl⟩
  refine ⟨u, v, _, _, ?_, b2, ⟨o, b4, rfl, rfl⟩, b6, b7, b8⟩
  unfold M_settles
  rw [ht, Option.bind_some, a1]
  exact b1
/-! ===== the cheap rules ===== -/
def chp (τ : St) (m r : Nat) : Bool := decide (s1 τ m r = lst τ m)
def bI (b : Bool) : Int32 := if b = true then 1 else 0
theorem nar_bI (b : Bool) : vp_nar .boolean (bI b) = bI b := by
  cases b <;> rfl
def pCh (kd j : Nat) : Bool := kd == 25 || kd == 31 || kd == 0 && j == 26
theorem pCh_scr : ∀ k j, pScr k j = false → pCh k j = false := by
  intro k j h
  unfold pScr at h
  unfold pCh
  simp only [Bool.or_eq_false_iff, Bool.and_eq_false_iff, beq_eq_false_iff_ne] at h ⊢
  omega
theorem pTb_ch : ∀ k j, pCh k j = false → pTb k j = false := by
  intro k j h
  unfold pCh at h
  unfold pTb
  simp only [Bool.or_eq_false_iff, Bool.and_eq_false_iff, beq_eq_false_iff_ne] at h ⊢
  omega
theorem setCheap_a {τ t : St} (w : WF τ) {m : Nat} (hT : Tab τ t m) (K : Int32 → St → Option St) : M_setCheap_L10 K 1100 1000000 0 t = K (nI (lst τ m)) t := by
  have hb := s1_le w m
  have h := lpU (fun n i v => M_setCheap_L10 K n v (nI i) t) (fun i v => (i = 0 ∧ v = 1000000) ∨ (0 < i ∧ v = nI (s1 τ m (fmI (s1 τ m) i)))) (fun v => K v t) 244 (by
      intro n v hp
      show M_setCheap_L10 K (n + 1) v (nI 244) t = K v t
      rw [M_setCheap_L10, if_pos (by decide)]) (by
      intro i n v hi hor
      refine ⟨nI (s1 τ m (fmI (s1 τ m) (i + 1))), ?_, Or.inr ⟨by omega, rfl⟩⟩
      show M_setCheap_L10 K (n + 1) v (nI i) t = M_setCheap_L10 K n _ (nI (i + 1)) t
      have key : (if v ≤ nI (s1 τ m i) then v else nI (s1 τ m i)) = nI (s1 τ m (fmI (s1 τ m) (i + 1))) := by
        have hfm : fmI (s1 τ m) (i + 1) = if s1 τ m i < s1 τ m (fmI (s1 τ m) i) then i else fmI (s1 τ m) i := rfl
        rcases hor with ⟨e, b⟩ | ⟨e, b⟩
        · subst e
          have hn : ¬ (1000000 : Int32) ≤ nI (s1 τ m 0) := nI_ge (a := s1 τ m 0) (b := 1000000) (by have := hb 0; omega) (by decide)
          rw [b, if_neg hn, hfm]
          have e0 : fmI (s1 τ m) 0 = 0 := rfl
          rw [e0, if_neg (by omega)]
        · have hle := nI_leI (a := s1 τ m (fmI (s1 τ m) i)) (b := s1 τ m i) (by have := hb (fmI (s1 τ m) i); omega) (by have := hb i; omega)
          rw [b, hfm]
          by_cases c : s1 τ m i < s1 τ m (fmI (s1 τ m) i)
          · have hn : ¬ nI (s1 τ m (fmI (s1 τ m) i)) ≤ nI (s1 τ m i) := fun x => by have := hle.mp x; omega
            rw [if_neg hn, if_pos c]
          · have hn : nI (s1 τ m (fmI (s1 τ m) i)) ≤ nI (s1 τ m i) := hle.mpr (by omega)
            rw [if_pos hn, if_neg c]
      rw [M_setCheap_L10, if_neg (g244 hi), M_sumBy_eq w hT hi, Option.bind_some, key, nI_1]) (n := 1100) (s := 1000000) (by decide) (Or.inl ⟨rfl, rfl⟩)
  obtain ⟨v, he, h4⟩ := h
  rcases h4 with ⟨e, -⟩ | ⟨-, h5⟩
  · exact absurd e (by decide)
  · subst h5
    exact he
theorem M_setCheap_eq {τ : St} (w : WF τ) {m : Nat} (hm : m < 1000) : ∃ u, M_setCheap (nI m) τ = some u ∧ Fr pCh τ u ∧ ∀ r, r < 244 → u.1 31 0 r = bI (chp τ m r) := by
  obtain ⟨t, ht, hf, hT⟩ := M_setTable_eq w hm
  have hb := s1_le w m
  have hl := lst_le w m
  have h := lpU (fun n i u => M_setCheap_L45 (nI (lst τ m)) n (nI i) u) (fun i u => Fr pCh τ u ∧ Tab τ u m ∧ ∀ r, r < i → u.1 31 0 r = bI (chp τ m r)) some 244 (by
      intro n u hp
      show M_setCheap_L45 (nI (lst τ m)) (n + 1) (nI 244) u = some u
      rw [M_setCheap_L45, if_pos (by decide)]) (by
      intro i n u hi hp
      obtain ⟨hf, hT, hc⟩ := hp
      have key : (if nI (s1 τ m i) = nI (lst τ m) then 1 else 0 : Int32) = bI (chp τ m i) := by
        have h1 := nI_eq (a := s1 τ m i) (b := lst τ m) (by have := hb i; omega) (by omega)
        unfold bI chp
        simp only [h1, decide_eq_true_eq]
      refine ⟨sX u 31 0 i (bI (chp τ m i)), ?_, hf.st _ _ _ _ rfl, ?_, ?_⟩
      · show M_setCheap_L45 (nI (lst τ m)) (n + 1) (nI i) u = M_setCheap_L45 (nI (lst τ m)) n (nI (i + 1)) _
        rw [M_setCheap_L45, if_neg (g244 hi), M_sumBy_eq w hT hi, Option.bind_some, if_pos (inb_nI hi (by decide)), nI_clamp (by omega), key, nar_bI, nI_1]
      · refine ⟨?_, ?_⟩
        · rw [sX_o (by omega)]; exact hT.1
        · intro k hk r hr
          rw [sX_o (by omega)]; exact hT.2 k hk r hr
      · intro r hr
        by_cases e : r = i
        · subst e; rw [sX_s]
        · rw [sX_o (by omega)]; exact hc r (by omega)) (n := 1100) (s := t) (by decide) ⟨hf.wk pTb_ch, hT, fun r hr => absurd hr (Nat.not_lt_zero _)⟩
  obtain ⟨u, he, h1, -, h3⟩ := h
  refine ⟨u, ?_, h1, h3⟩
  unfold M_setCheap
  rw [ht, Option.bind_some, setCheap_a w hT]
  exact he
/-! ===== bits ===== -/
theorem nI_or {a b : Nat} (ha : a < 2 ^ 31) (hb : b < 2 ^ 31) : nI a ||| nI b = nI (a ||| b) := by
  apply Int32.toBitVec_inj.mp
  apply BitVec.eq_of_toNat_eq
  have h : a ||| b < 2 ^ 31 := Nat.or_lt_two_pow ha hb
  rw [Int32.toBitVec_or, BitVec.toNat_or, pk_tn (n := a) (by omega), pk_tn (n := b) (by omega), pk_tn (by omega)]
theorem nI_and {a b : Nat} (ha : a < 2 ^ 31) (hb : b < 2 ^ 31) : nI a &&& nI b = nI (a &&& b) := by
  apply Int32.toBitVec_inj.mp
  apply BitVec.eq_of_toNat_eq
  have h : a &&& b ≤ a := Nat.and_le_left
  rw [Int32.toBitVec_and, BitVec.toNat_and, pk_tn (n := a) (by omega), pk_tn (n := b) (by omega), pk_tn (by omega)]
def stN (k : Nat) : Nat := if k = 0 then 0 else if k = 1 then 1 else 513
theorem stv_shl : ∀ k, k < 9 → ∀ c, c < 3 → stv c <<< (nI k &&& 31) = nI (stN c * 2 ^ k) := by decide +kernel
theorem stN_lo : ∀ k, k < 9 → ∀ c, c < 3 → ∀ i, i < 9 → (stN c * 2 ^ k).testBit i = (decide (i = k) && decide (1 ≤ c)) := by decide +kernel
theorem stN_hi : ∀ k, k < 9 → ∀ c, c < 3 → ∀ i, i < 9 → (stN c * 2 ^ k).testBit (9 + i) = (decide (i = k) && decide (c = 2)) := by decide +kernel
theorem stN_lt : ∀ k, k < 9 → ∀ c, c < 3 → stN c * 2 ^ k < 262144 := by decide +kernel
theorem En_0 (L : Nat → Nat) : En L 0 0 := ⟨by decide, fun i _ => by simp, fun i _ => by simp⟩
theorem En_step {L : Nat → Nat} {k n : Nat} (h : En L k n) (hk : k < 9) (hL : L k ≤ 2) : ∃ n', nI n ||| (stv (L k) <<< (nI k &&& 31)) = nI n' ∧ En L (k + 1) n' := by
  obtain ⟨h1, h2, h3⟩ := h
  have hs := stN_lt k hk (L k) (by omega)
  refine ⟨n ||| stN (L k) * 2 ^ k, ?_, ?_, ?_, ?_⟩
  · rw [stv_shl k hk (L k) (by omega), nI_or (by omega) (by omega)]
  · exact Nat.or_lt_two_pow (n := 18) h1 hs
  · intro i hi
    rw [Nat.testBit_or, h2 i hi, stN_lo k hk (L k) (by omega) i hi]
    by_cases e : i = k
    · subst e; simp
    · have e2 : (i < k + 1) ↔ i < k := by omega
      simp [e, e2]
  · intro i hi
    rw [Nat.testBit_or, h3 i hi, stN_hi k hk (L k) (by omega) i hi]
    by_cases e : i = k
    · subst e; simp
    · have e2 : (i < k + 1) ↔ i < k := by omega
      simp [e, e2]
def lmin (a b : Nat) : Nat := if b ≤ a then b else a
theorem En_and {L L' : Nat → Nat} {k a b : Nat} (h : En L k a) (h' : En L' k b) (hL : ∀ i, L i ≤ 2) (hL' : ∀ i, L' i ≤ 2) : En (fun i => lmin (L i) (L' i)) k (a &&& b) := by
  obtain ⟨h1, h2, h3⟩ := h
  obtain ⟨h1', h2', h3'⟩ := h'
  refine ⟨Nat.lt_of_le_of_lt Nat.and_le_left h1, fun i hi => ?_, fun i hi => ?_⟩
  · rw [Nat.testBit_and, h2 i hi, h2' i hi]
    have e : (1 ≤ lmin (L i) (L' i)) ↔ 1 ≤ L i ∧ 1 ≤ L' i := by unfold lmin; split <;> omega
    by_cases c : i < k <;> simp [c, e]
  · rw [Nat.testBit_and, h3 i hi, h3' i hi]
    have a1 := hL i
    have a2 := hL' i
    have e : (lmin (L i) (L' i) = 2) ↔ L i = 2 ∧ L' i = 2 := by unfold lmin; split <;> omega
    by_cases c : i < k <;> simp [c, e]
theorem En_sub {L L' : Nat → Nat} {k a b : Nat} (h : En L k a) (h' : En L' k b) (hk : k ≤ 9) (hL : ∀ i, L i ≤ 2) (e : a &&& b = a) : ∀ i, i < k → L i ≤ L' i := by
  intro i hi
  obtain ⟨h1, h2, h3⟩ := h
  obtain ⟨h1', h2', h3'⟩ := h'
  have x1 := h2 i (by omega)
  have x2 := h2' i (by omega)
  have y1 := h3 i (by omega)
  have y2 := h3' i (by omega)
  have z1 : a.testBit i = (a.testBit i && b.testBit i) := by rw [← Nat.testBit_and, e]
  have z2 : a.testBit (9 + i) = (a.testBit (9 + i) && b.testBit (9 + i)) := by rw [← Nat.testBit_and, e]
  rw [x1, x2] at z1
  rw [y1, y2] at z2
  have a1 := hL i
  by_cases c0 : L i = 0
  · omega
  · by_cases c2 : L i = 2
    · simp [hi, c2] at z2
      omega
    · have c1 : 1 ≤ L i := by omega
      simp [hi, c1] at z1
      omega
theorem sl_le (r x a : Nat) (b : Int32) : sl r x a b ≤ 2 := by
  unfold sl
  split
  · omega
  · split
    · omega
    · split <;> omega
/-- the level of the i-th saying of m by the rule r -/
def lv (τ : St) (m r i : Nat) : Nat := sl r (sx τ (ow τ m i)) (sa τ (ow τ m i)) (τ.1 21 0 (ow τ m i))
theorem lv_le (τ : St) (m r i : Nat) : lv τ m r i ≤ 2 := sl_le _ _ _ _
theorem cR_lv (τ : St) (m r i : Nat) : cR τ m r i = pc_ (pA τ) (pS τ) (lv τ m r i) := rfl
theorem pc_mono (a s : Nat) {l l' : Nat} (h : l ≤ l') : pc_ a s l ≤ pc_ a s l' := by
  unfold pc_
  (repeat' split) <;> omega
theorem pc_lmin (a s l l' : Nat) : pc_ a s (lmin l l') = mn (pc_ a s l) (pc_ a s l') := by
  unfold lmin
  by_cases h : l' ≤ l
  · rw [if_pos h]
    have := pc_mono a s h
    unfold mn
    rw [if_pos this]
  · rw [if_neg h]
    have := pc_mono a s (show l ≤ l' by omega)
    unfold mn
    split <;> omega
/-! ===== the class's frames ===== -/
def pCs (kd j : Nat) : Bool := kd == 5 || kd == 11 || kd == 12 || kd == 13 || kd == 10 && (j == 4 || j == 5 || j == 6 || j == 7 || j == 8) || kd == 4 && (j == 2 || j == 3) || kd == 28 && j == 3 || kd == 20 && (j == 2 || j == 3)
def pCm (kd j : Nat) : Bool := pCs kd j || kd == 24 || kd == 25
theorem pCs_cm : ∀ k j, pCm k j = false → pCs k j = false := by
  intro k j h
  unfold pCm at h
  simp only [Bool.or_eq_false_iff] at h
  exact h.1.1
theorem Fr.eqc {σ σ' : St} (h : Fr pCm σ σ') : Eqc σ σ' := by
  refine ⟨fun kd hk => ?_, fun kd j hj => ?_, by rw [h.1], by rw [h.1]⟩
  · funext n j
    apply h.2
    unfold cP at hk
    unfold pCm pCs
    simp only [Bool.or_eq_true, beq_iff_eq] at hk
    have : kd ≠ 5 ∧ kd ≠ 11 ∧ kd ≠ 12 ∧ kd ≠ 13 ∧ kd ≠ 10 ∧ kd ≠ 4 ∧ kd ≠ 28 ∧ kd ≠ 20 ∧ kd ≠ 24 ∧ kd ≠ 25 := by omega
    simp [this]
  · intro n
    apply h.2
    unfold cI at hj
    unfold pCm pCs
    simp only [Bool.or_eq_true, Bool.and_eq_true, beq_iff_eq] at hj
    simp only [Bool.or_eq_false_iff, Bool.and_eq_false_iff, beq_eq_false_iff_ne]
    omega
theorem Fr.eqd {σ σ' : St} (h : Fr pCs σ σ') : Eqd σ σ' := by
  refine ⟨?_, ?_⟩
  · funext n j
    exact h.2 _ _ _ rfl
  · funext n j
    exact h.2 _ _ _ rfl
/-! ===== reading the invariant ===== -/
theorem RC.rul {σ τ : St} (c : RC σ τ) : σ.1 8 0 = owT ∧ σ.1 9 0 = lkT := c.2.2.2.2.2.2.2.1
theorem RC.ownr {σ τ : St} (c : RC σ τ) : R_own σ τ := c.2.2.2.2.2.1
theorem RC.say {σ τ : St} (c : RC σ τ) : R_say σ τ := c.2.2.2.2.1
theorem RC.mas {σ τ : St} (c : RC σ τ) : R_mas σ τ := c.2.2.2.1
theorem RC.case {σ τ : St} (c : RC σ τ) : R_case σ τ := c.2.2.1
theorem RC.pr {σ τ : St} (c : RC σ τ) : R_pr σ τ := c.2.2.2.2.2.2.1
theorem RC.own {σ τ : St} (c : RC σ τ) {m i : Nat} (hi : i < kO τ m) : σ.1 23 m i = nI (ow τ m i) := by
  obtain ⟨h1, h2, h3⟩ := ow_in hi
  have h := c.ownr.2 _ h1
  rw [h2, h3] at h
  exact h
theorem RC.many {σ τ : St} (c : RC σ τ) {m : Nat} (hm : m < 8) : σ.1 22 m 5 = nI (kO τ m) := c.ownr.1 m hm
/-- the class's traits of a saying's case -/
theorem RC.tr {σ τ : St} (w : WF τ) (c : RC σ τ) {s : Nat} (hs : s < nS τ) : σ.1 26 s 1 = nI (sc τ s) ∧ sc τ s < 12 ∧ σ.1 14 0 (sc τ s) = nI (sx τ s) ∧ sx τ s < 32 ∧ σ.1 26 s 3 = nI (sa τ s) ∧ sa τ s < 2 ∧ σ.1 26 s 4 = τ.1 21 0 s ∧ okB (τ.1 21 0 s) := by
  obtain ⟨h1, ⟨h2, h3⟩, ⟨h4, h5⟩, ⟨h6, h7⟩, h8⟩ := wfS w hs
  obtain ⟨-, e1, e2, e3, e4⟩ := c.say.2.1 s hs
  exact ⟨e1.trans h2, h3, (c.case.2 _ h3).trans h4, h5, e3.trans h6, h7, e4, h8⟩
theorem RC.prA {σ τ : St} (w : WF τ) (c : RC σ τ) : σ.1 10 0 0 = nI (pA τ) ∧ pA τ ≤ 99 ∧ σ.1 10 0 1 = nI (pS τ) ∧ pS τ ≤ 99 ∧ σ.1 10 0 2 = nI (pT τ) ∧ pT τ ≤ 99 := by
  obtain ⟨⟨a1, a2⟩, ⟨a3, a4⟩, ⟨a5, a6⟩⟩ := wfP w
  exact ⟨(c.pr 0 (by decide)).trans a1, a2, (c.pr 1 (by decide)).trans a3, a4, (c.pr 2 (by decide)).trans a5, a6⟩
/-! ===== the class weighs ===== -/
def pWg (kd j : Nat) : Bool := kd == 11 || kd == 12 || kd == 10 && (j == 4 || j == 5 || j == 6 || j == 7)
theorem pWg_cs : ∀ k j, pCs k j = false → pWg k j = false := by
  intro k j h
  unfold pCs at h
  unfold pWg
  simp only [Bool.or_eq_false_iff, Bool.and_eq_false_iff, beq_eq_false_iff_ne] at h ⊢
  omega
theorem Fr.fn {p : Nat → Nat → Bool} {a b : St} (h : Fr p a b) {kd : Nat} (hp : ∀ j, p kd j = false) (n : Nat) : b.1 kd n = a.1 kd n := by
  funext j
  exact h.2 _ _ _ (hp j)
/-- strains laid for k sayings of m -/
def Sng (τ s : St) (m k : Nat) : Prop := ∀ r, r < 244 → ∃ n, s.1 12 0 r = nI n ∧ En (lv τ m r) k n
theorem weigh_in {σ τ : St} (w : WF τ) (c : RC σ τ) (K : St → Option St) {m i : Nat} (hi : i < kO τ m) {s0 : St} (hf : Fr pWg σ s0) (h0 : Sng τ s0 m i) : ∃ s, Bn_weigh_L43 K m (nI i) (ow τ m i) (nI (sx τ (ow τ m i))) 1100 0 s0 = K s ∧ Fr pWg σ s ∧ Sng τ s m (i + 1) := by
  have hk := w.k9 m
  have hs := (ow_in hi).1
  obtain ⟨t1, t2, t3, t4, t5, t6, t7, t8⟩ := c.tr w hs
  have h := lpU (fun n r s => Bn_weigh_L43 K m (nI i) (ow τ m i) (nI (sx τ (ow τ m i))) n (nI r) s) (fun r s => Fr pWg σ s ∧ (∀ r', r' < r → ∃ n, s.1 12 0 r' = nI n ∧ En (lv τ m r') (i + 1) n) ∧ ∀ r', r ≤ r' → r' < 244 → ∃ n, s.1 12 0 r' = nI n ∧ En (lv τ m r') i n) K 244 (by
      intro n s hp
      show Bn_weigh_L43 K m (nI i) (ow τ m i) (nI (sx τ (ow τ m i))) (n + 1) (nI 244) s = K s
      rw [Bn_weigh_L43, if_pos (by decide)]) (by
      intro r n s hr hp
      obtain ⟨hf, ha, hb⟩ := hp
      have e8 : s.1 8 0 = owT := (hf.fn (fun j => rfl) 0).trans c.rul.1
      have e9 : s.1 9 0 = lkT := (hf.fn (fun j => rfl) 0).trans c.rul.2
      have e3 : s.1 26 (ow τ m i) 3 = nI (sa τ (ow τ m i)) := (hf.2 _ _ _ rfl).trans t5
      have e4 : s.1 26 (ow τ m i) 4 = τ.1 21 0 (ow τ m i) := (hf.2 _ _ _ rfl).trans t7
      obtain ⟨x, hx, hE⟩ := hb r (Nat.le_refl _) hr
      obtain ⟨x', hx', hE'⟩ := En_step hE (by omega) (lv_le τ m r i)
      refine ⟨sX s 12 0 r (nI x'), ?_, hf.st _ _ _ _ rfl, ?_, ?_⟩
      · show Bn_weigh_L43 K m (nI i) (ow τ m i) (nI (sx τ (ow τ m i))) (n + 1) (nI r) s = Bn_weigh_L43 K m (nI i) (ow τ m i) (nI (sx τ (ow τ m i))) n (nI (r + 1)) _
        rw [Bn_weigh_L43, if_neg (g244 hr), if_pos (inb_nI hr (by decide)), e3, e4, Ru_strain_eq e8 e9 hr t4 t6 t8, Option.bind_some, if_pos (inb_nI hr (by decide)), nI_clamp (by omega), hx]
        rw [← hx', nI_1]
        rfl
      · intro r' hr'
        by_cases e : r' = r
        · subst e; exact ⟨x', sX_s, hE'⟩
        · rw [sX_o (by omega)]; exact ha r' (by omega)
      · intro r' h1 h2
        rw [sX_o (by omega)]; exact hb r' (by omega) h2) (n := 1100) (s := s0) (by decide) ⟨hf, fun r' h => absurd h (Nat.not_lt_zero _), fun r' _ h => h0 r' h⟩
  obtain ⟨s, he, h1, h2, -⟩ := h
  exact ⟨s, he, h1, h2⟩
theorem weigh_a {σ τ : St} (w : WF τ) (c : RC σ τ) (K : St → Option St) {m : Nat} (hm : m < 8) : ∃ s, Bn_weigh_L11 K m 1100 0 (fillR σ 12 0 244 0) = K s ∧ Fr pWg σ s ∧ Sng τ s m (kO τ m) := by
  have hk := w.k9 m
  have hS := w.nS24
  have h := lpU (fun n i s => Bn_weigh_L11 K m n (nI i) s) (fun i s => Fr pWg σ s ∧ Sng τ s m i) K (kO τ m) (by
      intro n s hp
      show Bn_weigh_L11 K m (n + 1) (nI (kO τ m)) s = K s
      have e5 : s.1 22 m 5 = nI (kO τ m) := (hp.1.2 _ _ _ rfl).trans (c.many hm)
      rw [Bn_weigh_L11, e5, if_pos (nI_le (Nat.le_refl _) (by omega))]) (by
      intro i n s hi hp
      obtain ⟨hf, hg⟩ := hp
      have hs := (ow_in hi).1
      obtain ⟨t1, t2, t3, t4, t5, t6, t7, t8⟩ := c.tr w hs
      have e5 : s.1 22 m 5 = nI (kO τ m) := (hf.2 _ _ _ rfl).trans (c.many hm)
      have e23 : s.1 23 m i = nI (ow τ m i) := (hf.2 _ _ _ rfl).trans (c.own hi)
      have e1 : s.1 26 (ow τ m i) 1 = nI (sc τ (ow τ m i)) := (hf.2 _ _ _ rfl).trans t1
      have e14 : s.1 14 0 (sc τ (ow τ m i)) = nI (sx τ (ow τ m i)) := (hf.2 _ _ _ rfl).trans t3
      obtain ⟨s', h1, h2, h3⟩ := weigh_in w c (fun (s_19 : St) => (Bn_weigh_L11 K m n) (nI i + 1) s_19) hi hf hg
      refine ⟨s', ?_, h2, h3⟩
      show Bn_weigh_L11 K m (n + 1) (nI i) s = Bn_weigh_L11 K m n (nI (i + 1)) s'
      rw [Bn_weigh_L11, e5, if_neg (nI_ge hi (by omega)), if_pos (inb_nI (by omega) (by decide)), nI_clamp (n := i) (by omega), e23, if_pos (inb_nI (by omega) (by decide)), nI_clamp (n := ow τ m i) (by omega), e1, if_pos (inb_nI t2 (by decide)), nI_clamp (n := sc τ (ow τ m i)) (by omega), e14, h1, nI_1]) (n := 1100) (s := fillR σ 12 0 244 0) (by omega) ⟨⟨rfl, by
        intro kd n j hp
        unfold fillR sR
        dsimp only
        rw [if_neg]
        intro e
        rw [e.1, show pWg 12 j = true from rfl] at hp
        exact absurd hp (by decide)⟩, by
        intro r hr
        refine ⟨0, ?_, En_0 _⟩
        unfold fillR sR
        dsimp only
        rw [if_pos ⟨rfl, rfl⟩, if_pos hr]
        rfl⟩
  exact h
/-- weighed -/
def Wg (σ τ s : St) (m : Nat) : Prop := Fr pWg σ s ∧ Sng τ s m (kO τ m) ∧ (∀ r, r < 244 → s.1 11 0 r = nI (s1 τ m r)) ∧ s.1 10 0 4 = nI (lst τ m) ∧ s.1 10 0 5 = nI (lst τ m) ∧ s.1 10 0 6 = nI (fmI (s1 τ m) 244) ∧ s.1 10 0 7 = -9
theorem sumOf_s1 {σ τ s : St} (w : WF τ) (c : RC σ τ) {m r n : Nat} (h0 : s.1 10 0 0 = σ.1 10 0 0) (h1 : s.1 10 0 1 = σ.1 10 0 1) (hE : En (lv τ m r) (kO τ m) n) : Bn_sumOf (nI n) s = nI (s1 τ m r) := by
  obtain ⟨a1, a2, a3, a4, a5, a6⟩ := c.prA w
  exact sumOf_En (h0.trans a1) (h1.trans a3) a2 a4 (lv_le τ m r) (w.k9 m) hE
theorem weigh_b {σ τ : St} (w : WF τ) (c : RC σ τ) (K : St → Option St) {m : Nat} {s0 : St} (hf : Fr pWg σ s0) (hg : Sng τ s0 m (kO τ m)) : ∃ s, Bn_weigh_L100 K 1100 0 s0 = K s ∧ Fr pWg σ s ∧ Sng τ s m (kO τ m) ∧ (∀ r, r < 244 → s.1 11 0 r = nI (s1 τ m r)) ∧ s.1 10 0 4 = nI (lst τ m) ∧ s.1 10 0 6 = nI (fmI (s1 τ m) 244) := by
  have hb := s1_le w m
  have h := lpU (fun n i s => Bn_weigh_L100 K n (nI i) s) (fun i s => Fr pWg σ s ∧ Sng τ s m (kO τ m) ∧ (∀ r, r < i → s.1 11 0 r = nI (s1 τ m r)) ∧ (0 < i → s.1 10 0 4 = nI (s1 τ m (fmI (s1 τ m) i)) ∧ s.1 10 0 6 = nI (fmI (s1 τ m) i))) K 244 (by
      intro n s hp
      show Bn_weigh_L100 K (n + 1) (nI 244) s = K s
      rw [Bn_weigh_L100, if_pos (by decide)]) (by
      intro i n s hi hp
      obtain ⟨hf, hg, h11, hm⟩ := hp
      obtain ⟨x, hx, hE⟩ := hg i hi
      have hsum : Bn_sumOf (nI x) s = nI (s1 τ m i) := sumOf_s1 w c (hf.2 _ _ _ rfl) (hf.2 _ _ _ rfl) hE
      have hfm : fmI (s1 τ m) (i + 1) = if s1 τ m i < s1 τ m (fmI (s1 τ m) i) then i else fmI (s1 τ m) i := rfl
      have hrow : ∀ r, r < i + 1 → (sX s 11 0 i (nI (s1 τ m i))).1 11 0 r = nI (s1 τ m r) := by
        intro r hr
        by_cases e : r = i
        · subst e; rw [sX_s]
        · rw [sX_o (by omega)]; exact h11 r (by omega)
      have hg1 : Sng τ (sX s 11 0 i (nI (s1 τ m i))) m (kO τ m) := by
        intro r hr
        rw [sX_o (by omega)]; exact hg r hr
      have hf1 : Fr pWg σ (sX s 11 0 i (nI (s1 τ m i))) := hf.st _ _ _ _ rfl
      by_cases hc : i = 0 ∨ s1 τ m i < s1 τ m (fmI (s1 τ m) i)
      · refine ⟨sX (sX (sX s 11 0 i (nI (s1 τ m i))) 10 0 4 (nI (s1 τ m i))) 10 0 6 (nI i), ?_, (hf1.st _ _ _ _ rfl).st _ _ _ _ rfl, ?_, ?_, ?_⟩
        · show Bn_weigh_L100 K (n + 1) (nI i) s = Bn_weigh_L100 K n (nI (i + 1)) _
          rw [Bn_weigh_L100, if_neg (g244 hi), if_pos (inb_nI hi (by decide)), if_pos (inb_nI hi (by decide)), nI_clamp (n := i) (by omega), hx, hsum]
          have hJ : Bn_weigh_J145 (Bn_weigh_L100 K n) (nI i) (sX s 11 0 i (nI (s1 τ m i))) = Bn_weigh_L100 K n (nI (i + 1)) (sX (sX (sX s 11 0 i (nI (s1 τ m i))) 10 0 4 (nI (s1 τ m i))) 10 0 6 (nI i)) := by
            unfold Bn_weigh_J145 Bn_weigh_J162
            rw [if_pos (inb_nI hi (by decide)), nI_clamp (n := i) (by omega), sX_s, nI_1]
          rw [hJ]
          by_cases e : i = 0
          · subst e
            rw [if_pos (show nI 0 = 0 from rfl)]
          · rw [if_neg (nI_ne0 (by omega) (by omega)), if_pos (inb_nI hi (by decide)), sX_s, sX_o (by omega), (hm (by omega)).1, if_neg]
            rcases hc with hc | hc
            · exact absurd hc e
            · exact nI_ge hc (by have := hb (fmI (s1 τ m) i); omega)
        · intro r hr
          rw [sX_o (by omega), sX_o (by omega)]; exact hg1 r hr
        · intro r hr
          rw [sX_o (by omega), sX_o (by omega)]; exact hrow r hr
        · intro _
          have e : fmI (s1 τ m) (i + 1) = i := by
            rw [hfm]
            rcases hc with hc | hc
            · subst hc
              have e0 : fmI (s1 τ m) 0 = 0 := rfl
              rw [e0]; simp
            · rw [if_pos hc]
          rw [e]
          exact ⟨by rw [sX_o (by omega), sX_s], by rw [sX_s]⟩
      · have hc1 : ¬ i = 0 := fun x => hc (Or.inl x)
        have hc2 : ¬ s1 τ m i < s1 τ m (fmI (s1 τ m) i) := fun x => hc (Or.inr x)
        refine ⟨sX s 11 0 i (nI (s1 τ m i)), ?_, hf1, hg1, hrow, ?_⟩
        · show Bn_weigh_L100 K (n + 1) (nI i) s = Bn_weigh_L100 K n (nI (i + 1)) _
          rw [Bn_weigh_L100, if_neg (g244 hi), if_pos (inb_nI hi (by decide)), if_pos (inb_nI hi (by decide)), nI_clamp (n := i) (by omega), hx, hsum, if_neg (nI_ne0 (by omega) (by omega)), if_pos (inb_nI hi (by decide)), sX_s, sX_o (by omega), (hm (by omega)).1, if_pos (nI_le (by omega) (by have := hb i; omega))]
          unfold Bn_weigh_J162
          rw [nI_1]
        · intro _
          rw [hfm, if_neg hc2]
          rw [sX_o (by omega), sX_o (by omega)]
          exact hm (by omega)) (n := 1100) (s := s0) (by decide) ⟨hf, hg, fun r h => absurd h (Nat.not_lt_zero _), fun h => absurd h (Nat.lt_irrefl _)⟩
  obtain ⟨s, he, h1, h2, h3, h4⟩ := h
  exact ⟨s, he, h1, h2, h3, (h4 (by decide)).1, (h4 (by decide)).2⟩
theorem Bn_weigh_eq {σ τ : St} (w : WF τ) (c : RC σ τ) {m : Nat} (hm : m < 8) : ∃ s, Bn_weigh m σ = some s ∧ Wg σ τ s m := by
  obtain ⟨a, a1, a2, a3⟩ := weigh_a w c (fun (s_21 : St) => Bn_weigh_L100 (fun (s_40 : St) => some (sX (sX s_40 10 0 5 (s_40.1 10 0 4)) 10 0 7 (-9))) 1100 0 s_21) hm
  obtain ⟨b, b1, b2, b3, b4, b5, b6⟩ := weigh_b w c (fun (s_40 : St) => some (sX (sX s_40 10 0 5 (s_40.1 10 0 4)) 10 0 7 (-9))) a2 a3
  refine ⟨_, (show Bn_weigh m σ = _ from a1.trans b1), (b2.st _ _ _ _ rfl).st _ _ _ _ rfl, ?_, ?_, ?_, ?_, ?_, ?_⟩
  · intro r hr
    rw [sX_o (by omega), sX_o (by omega)]; exact b3 r hr
  · intro r hr
    rw [sX_o (by omega), sX_o (by omega)]; exact b4 r hr
  · rw [sX_o (by omega), sX_o (by omega)]; exact b5
  · rw [sX_o (by omega), sX_s]; exact b5
  · rw [sX_o (by omega), sX_o (by omega)]; exact b6
  · rw [sX_s]
/-! ===== two rules: candidates are enough ===== -/
def Dom (τ : St) (m a b : Nat) : Prop := ∀ j, j < kO τ m → lv τ m a j ≤ lv τ m b j
theorem sumN_mono {f g : Nat → Nat} {n : Nat} (h : ∀ i, i < n → f i ≤ g i) : sumN f n ≤ sumN g n := by
  induction n with
  | zero => exact Nat.le_refl _
  | succ n ih =>
    unfold sumN
    have h1 := ih (fun i hi => h i (by omega))
    have h2 := h n (by omega)
    omega
theorem mn_comm (a b : Nat) : mn a b = mn b a := by
  unfold mn
  split <;> split <;> omega
theorem mn_mono {a b a' b' : Nat} (h : a ≤ a') (h' : b ≤ b') : mn a b ≤ mn a' b' := by
  unfold mn
  split <;> split <;> omega
theorem s2_comm (τ : St) (m a b : Nat) : s2 τ m a b = s2 τ m b a := by
  unfold s2
  congr 1
  exact sumN_congr (fun i _ => mn_comm _ _)
theorem s2_dom {τ : St} {m a b a' b' : Nat} (h : Dom τ m a a') (h' : Dom τ m b b') : s2 τ m a b ≤ s2 τ m a' b' := by
  unfold s2
  have : sumN (fun i => mn (cR τ m a i) (cR τ m b i)) (kO τ m) ≤ sumN (fun i => mn (cR τ m a' i) (cR τ m b' i)) (kO τ m) := sumN_mono (fun i hi => mn_mono (pc_mono _ _ (h i hi)) (pc_mono _ _ (h' i hi)))
  omega
theorem s2_self (τ : St) (m a : Nat) : s1 τ m a ≤ s2 τ m a a := by
  unfold s1 s2
  have : sumN (cR τ m a) (kO τ m) = sumN (fun i => mn (cR τ m a i) (cR τ m a i)) (kO τ m) := sumN_congr (fun i _ => by unfold mn; split <;> omega)
  omega
def Dq (c : Nat → Nat) (q x y : Nat) : Prop := ∃ i j, i < j ∧ j < q ∧ x = c i ∧ y = c j
theorem prune {τ : St} {m q v : Nat} {c : Nat → Nat} {o : Option (Nat × Nat)} (hlt : ∀ a, a < q → c a < 244) (hmono : ∀ a b, a < b → b < q → c a < c b) (hdom : ∀ r, r < 244 → ∃ a, a < q ∧ c a ≤ r ∧ Dom τ m (c a) r) (hv : v ≤ lst τ m) (h : Bst (s2 τ m) (Dq c q) (lst τ m) v o) : Bst (s2 τ m) DA (lst τ m) v o := by
  have key : ∀ a b, DA a b → (∃ x y, Dq c q x y ∧ s2 τ m x y ≤ s2 τ m a b ∧ (x < a ∨ x = a ∧ y ≤ b)) ∨ lst τ m ≤ s2 τ m a b := by
    intro a b hab
    obtain ⟨h1, h2⟩ := hab
    obtain ⟨i, hi, hia, hid⟩ := hdom a (by omega)
    obtain ⟨j, hj, hjb, hjd⟩ := hdom b (by omega)
    have hF := s2_dom hid hjd
    by_cases e1 : i < j
    · left
      exact ⟨c i, c j, ⟨i, j, e1, hj, rfl, rfl⟩, hF, by omega⟩
    · by_cases e2 : j < i
      · left
        have hm := hmono j i e2 hi
        refine ⟨c j, c i, ⟨j, i, e2, hi, rfl, rfl⟩, ?_, by omega⟩
        rw [s2_comm]; exact hF
      · right
        have e : i = j := by omega
        subst e
        have h3 := s2_self τ m (c i)
        have h4 : lst τ m ≤ s1 τ m (c i) := fmI_le _ 244 _ (hlt i hi)
        omega
  cases o with
  | none =>
    have e : v = lst τ m := h.1
    refine ⟨e, fun a b hab => ?_⟩
    rcases key a b hab with ⟨x, y, hq, hle, -⟩ | hge
    · have := h.2 x y hq
      omega
    · exact hge
  | some p =>
    obtain ⟨l, g⟩ := p
    obtain ⟨a1, a2, a3, a4, a5⟩ := h
    obtain ⟨i, j, hij, hjq, rfl, rfl⟩ := a1
    refine ⟨⟨hmono i j hij hjq, hlt j hjq⟩, a2, a3, fun a b hab => ?_, fun a b hab hl => ?_⟩
    · rcases key a b hab with ⟨x, y, hq, hle, -⟩ | hge
      · have := a4 x y hq
        omega
      · omega
    · rcases key a b hab with ⟨x, y, hq, hle, hx⟩ | hge
      · have := a5 x y hq (by omega)
        omega
      · omega
/-- gathered -/
def Cnd (τ s : St) (m i q : Nat) (c : Nat → Nat) : Prop := q ≤ i ∧ (∀ a, a < q → s.1 13 0 a = nI (c a) ∧ c a < i) ∧ (∀ a b, a < b → b < q → c a < c b) ∧ ∀ r, r < i → ∃ a, a < q ∧ c a ≤ r ∧ Dom τ m (c a) r
theorem gath_in {τ s : St} (w : WF τ) {m i q : Nat} {c : Nat → Nat} (K : Int32 → St → Option (Int32 × St)) (hg : Sng τ s m (kO τ m)) (hi : i < 244) (hC : Cnd τ s m i q c) : ∃ v, Bn_gatherCandidates_L16 K (nI q) (nI i) 1100 0 0 s = K v s ∧ (v = 0 ∨ v = 1 ∧ ∃ a, a < q ∧ Dom τ m (c a) i) := by
  obtain ⟨c1, c2, c3, c4⟩ := hC
  refine lpE (fun n a v => Bn_gatherCandidates_L16 K (nI q) (nI i) n v (nI a) s) (fun _ v => v = 0 ∨ v = 1 ∧ ∃ a, a < q ∧ Dom τ m (c a) i) (fun o => ∃ v, o = K v s ∧ (v = 0 ∨ v = 1 ∧ ∃ a, a < q ∧ Dom τ m (c a) i)) q ?_ ?_ q 0 1100 (0 : Int32) (by omega) (by omega) (Or.inl rfl)
  · intro n v hp
    refine ⟨v, ?_, hp⟩
    show Bn_gatherCandidates_L16 K (nI q) (nI i) (n + 1) v (nI q) s = K v s
    rw [Bn_gatherCandidates_L16, if_pos (nI_le (Nat.le_refl _) (by omega))]
  · intro a n v ha hp
    rcases hp with e | ⟨e, hd⟩
    · right
      subst e
      obtain ⟨e13, hca⟩ := c2 a ha
      obtain ⟨x, hx, hE⟩ := hg (c a) (by omega)
      obtain ⟨y, hy, hE'⟩ := hg i hi
      have hxl := hE.1
      have hyl := hE'.1
      have hand : nI x &&& nI y = nI (x &&& y) := nI_and (by omega) (by omega)
      have hle : x &&& y ≤ x := Nat.and_le_left
      refine ⟨if nI (x &&& y) = nI x then 1 else 0, ?_, ?_⟩
      · show Bn_gatherCandidates_L16 K (nI q) (nI i) (n + 1) 0 (nI a) s = Bn_gatherCandidates_L16 K (nI q) (nI i) n _ (nI (a + 1)) s
        rw [Bn_gatherCandidates_L16, if_neg (nI_ge ha (by omega)), if_pos rfl, if_pos (inb_nI (by omega) (by decide)), nI_clamp (n := a) (by omega), e13, if_pos (inb_nI (by omega) (by decide)), if_pos (inb_nI hi (by decide)), nI_clamp (n := c a) (by omega), nI_clamp (n := i) (by omega), hx, hy, hand, nI_1]
      · by_cases he : x &&& y = x
        · right
          rw [if_pos (by rw [he])]
          exact ⟨rfl, a, ha, En_sub hE hE' (w.k9 m) (lv_le τ m _) he⟩
        · left
          rw [if_neg (fun z => he ((nI_eq (by omega) (by omega)).mp z))]
    · left
      refine ⟨1, ?_, Or.inr ⟨rfl, hd⟩⟩
      subst e
      show Bn_gatherCandidates_L16 K (nI q) (nI i) (n + 1) 1 (nI a) s = K 1 s
      rw [Bn_gatherCandidates_L16, if_neg (nI_ge ha (by omega)), if_neg (by decide)]
def pGc (kd _ : Nat) : Bool := kd == 13
theorem gath {τ s0 : St} (w : WF τ) {m : Nat} (hg : Sng τ s0 m (kO τ m)) : ∃ q s c, Bn_gatherCandidates s0 = some (nI q, s) ∧ Fr pGc s0 s ∧ Cnd τ s m 244 q c := by
  have h := lpU (fun n i (p : Int32 × St) => Bn_gatherCandidates_L4 n p.1 (nI i) p.2) (fun i p => ∃ q c, p.1 = nI q ∧ Fr pGc s0 p.2 ∧ Cnd τ p.2 m i q c) (fun p => some (p.1, p.2)) 244 (by
      intro n p hp
      show Bn_gatherCandidates_L4 (n + 1) p.1 (nI 244) p.2 = some (p.1, p.2)
      rw [Bn_gatherCandidates_L4, if_pos (by decide)]) (by
      intro i n p hi hp
      obtain ⟨v, s⟩ := p
      obtain ⟨q, c, e, hf, hC⟩ := hp
      dsimp only at e hf hC
      subst e
      have hg' : Sng τ s m (kO τ m) := by
        intro r hr
        rw [hf.2 12 0 r rfl]; exact hg r hr
      obtain ⟨v, hv, hvo⟩ := gath_in w (fun (v3_19 : Int32) (s_20 : St) => Bn_gatherCandidates_J66 (Bn_gatherCandidates_L4 n) (nI q) (nI i) v3_19 s_20) hg' hi hC
      obtain ⟨c1, c2, c3, c4⟩ := hC
      rcases hvo with e | ⟨e, a, ha, hd⟩
      · subst e
        refine ⟨(nI (q + 1), sX s 13 0 q (nI i)), ?_, q + 1, fun a => if a = q then i else c a, rfl, hf.st _ _ _ _ rfl, ?_⟩
        · show Bn_gatherCandidates_L4 (n + 1) (nI q) (nI i) s = Bn_gatherCandidates_L4 n (nI (q + 1)) (nI (i + 1)) (sX s 13 0 q (nI i))
          rw [Bn_gatherCandidates_L4, if_neg (g244 hi), hv]
          unfold Bn_gatherCandidates_J66 Bn_gatherCandidates_J83
          rw [if_pos rfl, if_pos (inb_nI (by omega) (by decide)), nI_clamp (n := q) (by omega), nI_1, nI_1]
        · refine ⟨by omega, ?_, ?_, ?_⟩
          · intro a ha
            dsimp only
            by_cases e : a = q
            · subst e
              rw [if_pos rfl, sX_s]
              exact ⟨rfl, by omega⟩
            · rw [if_neg e, sX_o (by omega)]
              have := c2 a (by omega)
              exact ⟨this.1, by omega⟩
          · intro a b hab hb
            dsimp only
            rw [if_neg (show ¬ a = q by omega)]
            by_cases e : b = q
            · rw [if_pos e]; exact (c2 a (by omega)).2
            · rw [if_neg e]; exact c3 a b hab (by omega)
          · intro r hr
            by_cases e : r = i
            · subst e
              refine ⟨q, by omega, ?_, ?_⟩
              · dsimp only; rw [if_pos rfl]; exact Nat.le_refl _
              · dsimp only; rw [if_pos rfl]; exact fun j _ => Nat.le_refl _
            · obtain ⟨a, ha, h1, h2⟩ := c4 r (by omega)
              refine ⟨a, by omega, ?_, ?_⟩
              · dsimp only; rw [if_neg (by omega)]; exact h1
              · dsimp only; rw [if_neg (by omega)]; exact h2
      · subst e
        refine ⟨(nI q, s), ?_, q, c, rfl, hf, ?_⟩
        · show Bn_gatherCandidates_L4 (n + 1) (nI q) (nI i) s = Bn_gatherCandidates_L4 n (nI q) (nI (i + 1)) s
          rw [Bn_gatherCandidates_L4, if_neg (g244 hi), hv]
          unfold Bn_gatherCandidates_J66 Bn_gatherCandidates_J83
          rw [if_neg (by decide), nI_1]
        · refine ⟨by omega, fun a ha => ⟨(c2 a ha).1, by have := (c2 a ha).2; omega⟩, c3, ?_⟩
          intro r hr
          by_cases e : r = i
          · subst e
            exact ⟨a, ha, Nat.le_of_lt (c2 a ha).2, hd⟩
          · exact c4 r (by omega)) (n := 1100) (s := (0, s0)) (by decide) ⟨0, fun _ => 0, rfl, Fr.rf _ _, Nat.le_refl _, fun a h => absurd h (Nat.not_lt_zero _), fun a b _ h => absurd h (Nat.not_lt_zero _), fun r h => absurd h (Nat.not_lt_zero _)⟩
  obtain ⟨⟨v, s⟩, he, q, c, e, hf, hC⟩ := h
  dsimp only at e hf hC
  subst e
  exact ⟨q, s, c, he, hf, hC⟩
def pTk (kd j : Nat) : Bool := kd == 10 && (j == 5 || j == 6 || j == 7)
def Dd (c : Nat → Nat) (q a b x y : Nat) : Prop := ∃ i j, i < j ∧ j < q ∧ (i < a ∨ i = a ∧ j < b) ∧ x = c i ∧ y = c j
def Dc (c : Nat → Nat) (q a x y : Nat) : Prop := ∃ i j, i < j ∧ j < q ∧ i < a ∧ x = c i ∧ y = c j
theorem Dd_0 (c : Nat → Nat) (q a : Nat) : Dd c q a (a + 1) = Dc c q a := by
  funext x y
  apply propext
  constructor
  · rintro ⟨i, j, h1, h2, h3, h4, h5⟩; exact ⟨i, j, h1, h2, by omega, h4, h5⟩
  · rintro ⟨i, j, h1, h2, h3, h4, h5⟩; exact ⟨i, j, h1, h2, by omega, h4, h5⟩
theorem Dd_e (c : Nat → Nat) (q a : Nat) : Dd c q a q = Dc c q (a + 1) := by
  funext x y
  apply propext
  constructor
  · rintro ⟨i, j, h1, h2, h3, h4, h5⟩; exact ⟨i, j, h1, h2, by omega, h4, h5⟩
  · rintro ⟨i, j, h1, h2, h3, h4, h5⟩; exact ⟨i, j, h1, h2, by omega, h4, h5⟩
theorem Dc_e (c : Nat → Nat) (q : Nat) : Dc c q q = Dq c q := by
  funext x y
  apply propext
  constructor
  · rintro ⟨i, j, h1, h2, h3, h4, h5⟩; exact ⟨i, j, h1, h2, h4, h5⟩
  · rintro ⟨i, j, h1, h2, h4, h5⟩; exact ⟨i, j, h1, h2, by omega, h4, h5⟩
def SC (τ s0 : St) (m : Nat) (D : Nat → Nat → Prop) (s : St) : Prop := Fr pTk s0 s ∧ ∃ v o, Bst (s2 τ m) D (lst τ m) v o ∧ v ≤ lst τ m ∧ s.1 10 0 5 = nI v ∧ s.1 10 0 6 = nI (oL (fmI (s1 τ m) 244) o) ∧ s.1 10 0 7 = oG o
theorem two_in {σ τ s0 : St} (w : WF τ) (cc : RC σ τ) {m q a : Nat} {c : Nat → Nat} (K : St → Option St) (hpr : ∀ j, j < 3 → s0.1 10 0 j = σ.1 10 0 j) (hg : Sng τ s0 m (kO τ m)) (hC : Cnd τ s0 m 244 q c) (ha : a < q) {s1_ : St} (h0 : SC τ s0 m (Dc c q a) s1_) : ∃ s, Bn_takeTwoRules_L28 K (nI q) (nI a) 1100 (nI (a + 1)) s1_ = K s ∧ SC τ s0 m (Dc c q (a + 1)) s := by
  obtain ⟨c1, c2, c3, c4⟩ := hC
  obtain ⟨p1, p2, p3, p4, p5, p6⟩ := cc.prA w
  have h := lpV (fun n b s => Bn_takeTwoRules_L28 K (nI q) (nI a) n (nI b) s) (fun b s => a < b ∧ SC τ s0 m (Dd c q a b) s) K (a + 1) q (by
      intro n s hp
      show Bn_takeTwoRules_L28 K (nI q) (nI a) (n + 1) (nI q) s = K s
      rw [Bn_takeTwoRules_L28, if_pos (nI_le (Nat.le_refl _) (by omega))]) (by
      intro b n s hb hp
      obtain ⟨hab, hf, v, o, hB, hv, h5, h6, h7⟩ := hp
      have hl := lst_le w m
      have h2 := s2_le w m (c a) (c b)
      have ea : s.1 13 0 a = nI (c a) := (hf.2 _ _ _ rfl).trans (c2 a ha).1
      have eb : s.1 13 0 b = nI (c b) := (hf.2 _ _ _ rfl).trans (c2 b hb).1
      have hca := (c2 a ha).2
      have hcb := (c2 b hb).2
      obtain ⟨x, hx, hE⟩ := hg (c a) hca
      obtain ⟨y, hy, hE'⟩ := hg (c b) hcb
      have ex : s.1 12 0 (c a) = nI x := (hf.2 _ _ _ rfl).trans hx
      have ey : s.1 12 0 (c b) = nI y := (hf.2 _ _ _ rfl).trans hy
      have hxl := hE.1
      have hyl := hE'.1
      have hand : nI x &&& nI y = nI (x &&& y) := nI_and (by omega) (by omega)
      have e0 : s.1 10 0 0 = nI (pA τ) := (hf.2 _ _ _ rfl).trans ((hpr 0 (by decide)).trans p1)
      have e1 : s.1 10 0 1 = nI (pS τ) := (hf.2 _ _ _ rfl).trans ((hpr 1 (by decide)).trans p3)
      have e2 : s.1 10 0 2 = nI (pT τ) := (hf.2 _ _ _ rfl).trans ((hpr 2 (by decide)).trans p5)
      have hsum : Bn_sumOf (nI (x &&& y)) s = nI (sumN (fun i => mn (cR τ m (c a) i) (cR τ m (c b) i)) (kO τ m)) := by
        rw [sumOf_En e0 e1 p2 p4 (L := fun i => lmin (lv τ m (c a) i) (lv τ m (c b) i)) (fun i => by have := lv_le τ m (c a) i; have := lv_le τ m (c b) i; unfold lmin; split <;> omega) (w.k9 m) (En_and hE hE' (lv_le τ m _) (lv_le τ m _))]
        congr 1
        exact sumN_congr (fun i _ => pc_lmin _ _ _ _)
      have hcost : s.1 10 0 2 + Bn_sumOf (nI (x &&& y)) s = nI (s2 τ m (c a) (c b)) := by
        rw [hsum, e2, nI_add]; rfl
      have hs := Bst_step (a := c a) (b := c b) (D' := Dd c q a (b + 1)) hB hv (by
          intro x y
          constructor
          · rintro ⟨i, j, h1, h2, h3, h4, h5⟩
            by_cases e : i = a ∧ j = b
            · right; rw [h4, h5, e.1, e.2]; exact ⟨rfl, rfl⟩
            · left; exact ⟨i, j, h1, h2, by omega, h4, h5⟩
          · rintro (⟨i, j, h1, h2, h3, h4, h5⟩ | ⟨h4, h5⟩)
            · exact ⟨i, j, h1, h2, by omega, h4, h5⟩
            · exact ⟨a, b, hab, hb, by omega, h4, h5⟩) (by
          rintro x y ⟨i, j, h1, h2, h3, h4, h5⟩
          rw [h4, h5]
          rcases h3 with h3 | ⟨h3, h3'⟩
          · left; exact c3 i a h3 ha
          · right; rw [h3]; exact ⟨rfl, c3 j b h3' hb⟩)
      have hlt := nI_ltI (a := s2 τ m (c a) (c b)) (b := v) (by omega) (by omega)
      by_cases cc : s2 τ m (c a) (c b) < v
      · rw [if_pos cc, if_pos cc] at hs
        refine ⟨sX (sX (sX s 10 0 5 (nI (s2 τ m (c a) (c b)))) 10 0 6 (nI (c a))) 10 0 7 (nI (c b)), ?_, by omega, ((hf.st _ _ _ _ rfl).st _ _ _ _ rfl).st _ _ _ _ rfl, s2 τ m (c a) (c b), some (c a, c b), hs, by omega, ?_, ?_, ?_⟩
        · show Bn_takeTwoRules_L28 K (nI q) (nI a) (n + 1) (nI b) s = Bn_takeTwoRules_L28 K (nI q) (nI a) n (nI (b + 1)) _
          rw [Bn_takeTwoRules_L28, if_neg (nI_ge hb (by omega)), if_pos (inb_nI (by omega) (by decide)), nI_clamp (n := a) (by omega), ea, if_pos (inb_nI hca (by decide)), if_pos (inb_nI (by omega) (by decide)), nI_clamp (n := b) (by omega), eb, if_pos (inb_nI hcb (by decide)), nI_clamp (n := c a) (by omega), nI_clamp (n := c b) (by omega), ex, ey, hand, hcost, h5, if_pos (hlt.mpr cc), if_pos (inb_nI (by omega) (by decide)), if_pos (inb_nI (by omega) (by decide))]
          unfold Bn_takeTwoRules_J109
          rw [nI_1, sX_o (a := 13) (by omega), sX_o (a := 13) (by omega), sX_o (a := 13) (by omega), ea, eb]
        · rw [sX_o (by omega), sX_o (by omega), sX_s]
        · rw [sX_o (by omega), sX_s]; rfl
        · rw [sX_s]; rfl
      · rw [if_neg cc, if_neg cc] at hs
        refine ⟨s, ?_, by omega, hf, v, o, hs, hv, h5, h6, h7⟩
        show Bn_takeTwoRules_L28 K (nI q) (nI a) (n + 1) (nI b) s = Bn_takeTwoRules_L28 K (nI q) (nI a) n (nI (b + 1)) _
        rw [Bn_takeTwoRules_L28, if_neg (nI_ge hb (by omega)), if_pos (inb_nI (by omega) (by decide)), nI_clamp (n := a) (by omega), ea, if_pos (inb_nI hca (by decide)), if_pos (inb_nI (by omega) (by decide)), nI_clamp (n := b) (by omega), eb, if_pos (inb_nI hcb (by decide)), nI_clamp (n := c a) (by omega), nI_clamp (n := c b) (by omega), ex, ey, hand, hcost, h5, if_neg (fun x => cc (hlt.mp x))]
        unfold Bn_takeTwoRules_J109
        rw [nI_1]) (n := 1100) (s := s1_) (by omega) (by omega) ⟨by omega, by rw [Dd_0]; exact h0⟩
  obtain ⟨s, he, -, h1⟩ := h
  rw [Dd_e] at h1
  exact ⟨s, he, h1⟩
def pT2 (kd j : Nat) : Bool := kd == 13 || kd == 10 && (j == 5 || j == 6 || j == 7)
theorem pT2_cs : ∀ k j, pCs k j = false → pT2 k j = false := by
  intro k j h
  unfold pCs at h
  unfold pT2
  simp only [Bool.or_eq_false_iff, Bool.and_eq_false_iff, beq_eq_false_iff_ne] at h ⊢
  omega
theorem pGc_2 : ∀ k j, pT2 k j = false → pGc k j = false := by
  intro k j h
  unfold pT2 at h
  unfold pGc
  simp only [Bool.or_eq_false_iff, Bool.and_eq_false_iff, beq_eq_false_iff_ne] at h ⊢
  omega
theorem pTk_2 : ∀ k j, pT2 k j = false → pTk k j = false := by
  intro k j h
  unfold pT2 at h
  unfold pTk
  simp only [Bool.or_eq_false_iff, Bool.and_eq_false_iff, beq_eq_false_iff_ne] at h ⊢
  omega
theorem Bn_two_eq {σ τ s0 : St} (w : WF τ) (cc : RC σ τ) {m : Nat} (hW : Wg σ τ s0 m) : ∃ s v l g, Bn_takeTwoRules s0 = some s ∧ Fr pT2 s0 s ∧ Stl τ m v l g ∧ s.1 10 0 5 = nI v ∧ s.1 10 0 6 = nI l ∧ s.1 10 0 7 = g := by
  obtain ⟨hf, hg, h11, h4, h5, h6, h7⟩ := hW
  obtain ⟨p1, p2, p3, p4, p5, p6⟩ := cc.prA w
  have hl := lst_le w m
  have e2 : s0.1 10 0 2 = nI (pT τ) := (hf.2 _ _ _ rfl).trans p5
  have hlt := nI_ltI (a := pT τ) (b := lst τ m) (by omega) (by omega)
  unfold Bn_takeTwoRules
  rw [e2, h4]
  by_cases c : pT τ < lst τ m
  · rw [if_pos (hlt.mpr c)]
    obtain ⟨q, t, cd, g1, g2, g3⟩ := gath w hg
    rw [g1, Option.bind_some]
    have hg' : Sng τ t m (kO τ m) := by
      intro r hr
      rw [g2.2 12 0 r rfl]; exact hg r hr
    have hpr : ∀ j, j < 3 → t.1 10 0 j = σ.1 10 0 j := by
      intro j hj
      rw [g2.2 10 0 j rfl]
      have : j = 0 ∨ j = 1 ∨ j = 2 := by omega
      rcases this with e | e | e <;> subst e <;> exact hf.2 _ _ _ rfl
    have h := lpU (fun n a s => Bn_takeTwoRules_L19 (nI q) n (nI a) s) (fun a s => SC τ t m (Dc cd q a) s) some q (by
      intro n s hp
      show Bn_takeTwoRules_L19 (nI q) (n + 1) (nI q) s = some s
      rw [Bn_takeTwoRules_L19, if_pos (nI_le (Nat.le_refl _) (by have := g3.1; omega))]) (by
      intro a n s ha hp
      obtain ⟨s', x1, x2⟩ := two_in w cc (fun (s_26 : St) => (Bn_takeTwoRules_L19 (nI q) n) (nI a + 1) s_26) hpr hg' g3 ha hp
      refine ⟨s', ?_, x2⟩
      show Bn_takeTwoRules_L19 (nI q) (n + 1) (nI a) s = Bn_takeTwoRules_L19 (nI q) n (nI (a + 1)) s'
      rw [Bn_takeTwoRules_L19, if_neg (nI_ge ha (by have := g3.1; omega))]
      rw [nI_1] at x1 ⊢
      exact x1) (n := 1100) (s := t) (by have := g3.1; omega) ⟨Fr.rf _ _, lst τ m, none, ⟨rfl, fun i j hd => by obtain ⟨x, y, z1, z2, z3, z4⟩ := hd; exact absurd z3 (Nat.not_lt_zero _)⟩, Nat.le_refl _, (g2.2 _ _ _ rfl).trans h5, (g2.2 _ _ _ rfl).trans h6, (g2.2 _ _ _ rfl).trans h7⟩
    obtain ⟨s, he, hfs, v, o, hB, hv, k5, k6, k7⟩ := h
    rw [Dc_e] at hB
    exact ⟨s, v, _, _, he, (g2.wk pGc_2).tr (hfs.wk pTk_2), ⟨o, prune (fun a ha => (g3.2.1 a ha).2) g3.2.2.1 g3.2.2.2 hv hB, rfl, rfl⟩, k5, k6, k7⟩
  · rw [if_neg (fun x => c (hlt.mp x))]
    refine ⟨s0, lst τ m, _, _, rfl, Fr.rf _ _, ⟨none, ⟨rfl, fun i j _ => ?_⟩, rfl, rfl⟩, h5, h6, h7⟩
    have := s2_ge τ m i j
    omega
/-! ===== a mind learns ===== -/
def tb (a : Int32) (x : Nat) : Bool := a.toBitVec.toNat.testBit x
theorem ush_tb {a : Int32} {x : Nat} (hx : x < 32) : ush a (nI x) &&& 1 = bI (tb a x) := by
  have hk : (((nI x).toUInt32 &&& Int32.toUInt32 31).toBitVec % 32).toNat = x := by
    have h : ∀ x, x < 32 → (((nI x).toUInt32 &&& Int32.toUInt32 31).toBitVec % 32).toNat = x := by decide +kernel
    exact h x hx
  have h1 := pk_and (ush a (nI x)) (m := 1) 1 (by decide)
  have h2 := pk_ushr a (nI x) x hk
  rw [h1, h2]
  unfold bI tb
  rw [Nat.testBit_eq_decide_div_mod_eq, show 2 ^ 1 = 2 from rfl]
  have h3 : a.toBitVec.toNat / 2 ^ x % 2 = 0 ∨ a.toBitVec.toNat / 2 ^ x % 2 = 1 := by omega
  rcases h3 with e | e
  · rw [e]; rfl
  · rw [e]; rfl
theorem tb_or (a b : Int32) (x : Nat) : tb (a ||| b) x = (tb a x || tb b x) := by
  unfold tb
  rw [Int32.toBitVec_or, BitVec.toNat_or, Nat.testBit_or]
theorem tb_not (a : Int32) {x : Nat} (hx : x < 32) : tb (a ^^^ (-1)) x = !(tb a x) := by
  have h : ∀ x, x < 32 → (-1 : Int32).toBitVec.toNat.testBit x = true := by decide +kernel
  unfold tb
  rw [Int32.toBitVec_xor, BitVec.toNat_xor, Nat.testBit_xor, h x hx]
  simp
theorem tb_0 (x : Nat) : tb 0 x = false := by
  unfold tb
  rw [show (0 : Int32).toBitVec.toNat = 0 from rfl, Nat.zero_testBit]
theorem tb_ow {r x : Nat} (hr : r < 244) (hx : x < 32) : tb (owT r) x = decide (vd r x = 1) := by
  have h := owT_vd r hr x hx
  rw [ush_tb hx] at h
  rcases vd_01 r x with e | e
  · rw [e] at h ⊢
    cases hb : tb (owT r) x
    · rfl
    · rw [hb] at h; exact absurd h (by decide)
  · rw [e] at h ⊢
    cases hb : tb (owT r) x
    · rw [hb] at h; exact absurd h (by decide)
    · rfl
def anyB (p : Nat → Bool) : Nat → Bool
  | 0 => false
  | n + 1 => anyB p n || p n
theorem anyB_iff {p : Nat → Bool} {n : Nat} : anyB p n = true ↔ ∃ i, i < n ∧ p i = true := by
  induction n with
  | zero => simp [anyB]
  | succ n ih =>
    unfold anyB
    rw [Bool.or_eq_true, ih]
    constructor
    · rintro (⟨i, h1, h2⟩ | h)
      · exact ⟨i, by omega, h2⟩
      · exact ⟨n, by omega, h⟩
    · rintro ⟨i, h1, h2⟩
      by_cases e : i = n
      · subst e; exact Or.inr h2
      · exact Or.inl ⟨i, by omega, h2⟩
theorem cnt_mono (p : Nat → Bool) {a b : Nat} (h : a ≤ b) : cnt p a ≤ cnt p b := by
  induction b with
  | zero => have e : a = 0 := by omega
            subst e; exact Nat.le_refl _
  | succ b ih =>
    by_cases e : a = b + 1
    · subst e; exact Nat.le_refl _
    · have := ih (by omega)
      show cnt p a ≤ cnt p b + _
      omega
theorem cnt_lt (p : Nat → Bool) {r n : Nat} (h : r < n) (hp : p r = true) : cnt p r < cnt p n := by
  have h1 : cnt p (r + 1) = cnt p r + 1 := by
    show cnt p r + _ = _
    rw [if_pos hp]
  have h2 := cnt_mono p (show r + 1 ≤ n from h)
  omega
def mO (τ : St) (m x r : Nat) : Bool := chp τ m r && decide (vd r x = 1)
def mN (τ : St) (m x r : Nat) : Bool := chp τ m r && decide (vd r x = 0)
/-- a mind as it must be -/
def Mnd (σ τ : St) (m : Nat) : Prop := (∃ v l g, Stl τ m v l g ∧ σ.1 24 m 1 = nI v ∧ σ.1 24 m 2 = nI l ∧ σ.1 24 m 3 = g) ∧ σ.1 24 m 5 = nI (cnt (chp τ m) 244) ∧ (∀ r, r < 244 → chp τ m r = true → σ.1 25 m (cnt (chp τ m) r) = nI r) ∧ (∀ x, x < 32 → tb (σ.1 24 m 6) x = anyB (mO τ m x) 244) ∧ ∀ x, x < 32 → tb (σ.1 24 m 7) x = anyB (mN τ m x) 244
/-- the minds that are known are as they must be -/
def RM (σ τ : St) : Prop := ∀ m, m < 8 → σ.1 24 m 0 = 0 ∨ (m < nM τ ∧ σ.1 24 m 0 = 1 ∧ Mnd σ τ m)
def Inv (σ τ : St) : Prop := WF τ ∧ RC σ τ ∧ RM σ τ
theorem Mnd_s {σ σ' τ : St} {m : Nat} (h1 : σ'.1 24 m = σ.1 24 m) (h2 : σ'.1 25 m = σ.1 25 m) (h : Mnd σ τ m) : Mnd σ' τ m := by
  unfold Mnd at h ⊢
  rw [h1, h2]
  exact h
theorem Mnd_t {σ τ τ' : St} {m : Nat} (hk : kO τ' m = kO τ m) (hc : ∀ i, i < kO τ m → ∀ r, cR τ' m r i = cR τ m r i) (hp : pT τ' = pT τ) (h : Mnd σ τ m) : Mnd σ τ' m := by
  have e1 : s1 τ' m = s1 τ m := by
    funext r
    unfold s1
    rw [hk]
    exact sumN_congr (fun i hi => hc i hi r)
  have e2 : s2 τ' m = s2 τ m := by
    funext a b
    unfold s2
    rw [hk, hp]
    congr 1
    exact sumN_congr (fun i hi => by rw [hc i hi a, hc i hi b])
  have e3 : lst τ' m = lst τ m := by unfold lst; rw [e1]
  have e4 : chp τ' m = chp τ m := by funext r; unfold chp; rw [e1, e3]
  unfold Mnd Stl mO mN at h ⊢
  rw [e1, e2, e3, e4]
  exact h
def FrP (p : Nat → Nat → Nat → Prop) (a b : St) : Prop := b.2 = a.2 ∧ ∀ kd n j, ¬ p kd n j → b.1 kd n j = a.1 kd n j
theorem FrP.rf (p : Nat → Nat → Nat → Prop) (a : St) : FrP p a a := ⟨rfl, fun _ _ _ _ => rfl⟩
theorem FrP.st {p : Nat → Nat → Nat → Prop} {a u : St} (h : FrP p a u) {kd n j : Nat} {v : Int32} (hp : p kd n j) : FrP p a (sX u kd n j v) := by
  refine ⟨(sX_2 ..).trans h.1, fun k n' j' hq => ?_⟩
  rw [sX_o]
  · exact h.2 k n' j' hq
  · rintro ⟨e1, e2, e3⟩
    subst e1; subst e2; subst e3
    exact hq hp
def pLr (m kd n _ : Nat) : Prop := (kd = 24 ∨ kd = 25) ∧ n = m
theorem learn_lp {τ s0 : St} {m : Nat} (w : WF τ) (h8 : s0.1 8 0 = owT) (h11 : ∀ r, r < 244 → s0.1 11 0 r = nI (s1 τ m r)) (h4 : s0.1 10 0 4 = nI (lst τ m)) (K : St → Option St) {a1 a2 a3 : Int32} {s1_ : St} (hf : FrP (pLr m) s0 s1_) (e1 : s1_.1 24 m 1 = a1) (e2 : s1_.1 24 m 2 = a2) (e3 : s1_.1 24 m 3 = a3) (e5 : s1_.1 24 m 5 = 0) (e6 : s1_.1 24 m 6 = 0) (e7 : s1_.1 24 m 7 = 0) : ∃ s, Mi_learn_L41 K m 1100 0 s1_ = K s ∧ FrP (pLr m) s0 s ∧ s.1 24 m 1 = a1 ∧ s.1 24 m 2 = a2 ∧ s.1 24 m 3 = a3 ∧ s.1 24 m 5 = nI (cnt (chp τ m) 244) ∧ (∀ r, r < 244 → chp τ m r = true → s.1 25 m (cnt (chp τ m) r) = nI r) ∧ (∀ x, x < 32 → tb (s.1 24 m 6) x = anyB (mO τ m x) 244) ∧ ∀ x, x < 32 → tb (s.1 24 m 7) x = anyB (mN τ m x) 244 := by
  refine lpU (fun n i s => Mi_learn_L41 K m n (nI i) s) (fun i s => FrP (pLr m) s0 s ∧ s.1 24 m 1 = a1 ∧ s.1 24 m 2 = a2 ∧ s.1 24 m 3 = a3 ∧ s.1 24 m 5 = nI (cnt (chp τ m) i) ∧ (∀ r, r < i → chp τ m r = true → s.1 25 m (cnt (chp τ m) r) = nI r) ∧ (∀ x, x < 32 → tb (s.1 24 m 6) x = anyB (mO τ m x) i) ∧ ∀ x, x < 32 → tb (s.1 24 m 7) x = anyB (mN τ m x) i) K 244 ?_ ?_ (n := 1100) (s := s1_) (by decide) ⟨hf, e1, e2, e3, e5, fun r h => absurd h (Nat.not_lt_zero _), fun x _ => by rw [e6]; exact tb_0 x, fun x _ => by rw [e7]; exact tb_0 x⟩
  · intro n s hp
    show Mi_learn_L41 K m (n + 1) (nI 244) s = K s
    rw [Mi_learn_L41, if_pos (by decide)]
  · intro i n s hi hp
    obtain ⟨hf, e1, e2, e3, e5, e25, e6, e7⟩ := hp
    have hb := s1_le w m
    have hl := lst_le w m
    have k11 : s.1 11 0 i = nI (s1 τ m i) := (hf.2 _ _ _ (fun h => by unfold pLr at h; omega)).trans (h11 i hi)
    have k4 : s.1 10 0 4 = nI (lst τ m) := (hf.2 _ _ _ (fun h => by unfold pLr at h; omega)).trans h4
    have k8 : s.1 8 0 i = owT i := (hf.2 _ _ _ (fun h => by unfold pLr at h; omega)).trans (by rw [h8])
    have heq := nI_eq (a := s1 τ m i) (b := lst τ m) (by have := hb i; omega) (by omega)
    have hq := cnt_le (chp τ m) i
    have hcs : cnt (chp τ m) (i + 1) = cnt (chp τ m) i + (if chp τ m i = true then 1 else 0) := rfl
    by_cases c : chp τ m i = true
    · have c' : s1 τ m i = lst τ m := by unfold chp at c; exact of_decide_eq_true c
      rw [if_pos c] at hcs
      refine ⟨sX (sX (sX (sX s 25 m (cnt (chp τ m) i) (nI i)) 24 m 5 (nI (cnt (chp τ m) i + 1))) 24 m 6 (s.1 24 m 6 ||| owT i)) 24 m 7 (s.1 24 m 7 ||| (owT i ^^^ (-1))), ?_, ?_, ?_, ?_, ?_, ?_, ?_, ?_, ?_⟩
      · show Mi_learn_L41 K m (n + 1) (nI i) s = Mi_learn_L41 K m n (nI (i + 1)) _
        rw [Mi_learn_L41, if_neg (g244 hi), if_pos (inb_nI hi (by decide)), nI_clamp (n := i) (by omega), k11, k4, if_pos (heq.mpr c'), e5, if_pos (inb_nI (by omega) (by decide)), if_pos (inb_nI hi (by decide)), if_pos (inb_nI hi (by decide)), nI_clamp (n := cnt (chp τ m) i) (by omega)]
        unfold Mi_learn_J116
        rw [nI_1]
        have x1 : ∀ v, (sX s 25 m (cnt (chp τ m) i) v).1 24 m 5 = nI (cnt (chp τ m) i) := fun v => by rw [sX_o (by omega), e5]
        have x2 : ∀ v v', (sX (sX s 25 m (cnt (chp τ m) i) v) 24 m 5 v').1 24 m 6 = s.1 24 m 6 := fun v v' => by rw [sX_o (by omega), sX_o (by omega)]
        have x3 : ∀ v v', (sX (sX s 25 m (cnt (chp τ m) i) v) 24 m 5 v').1 8 0 i = owT i := fun v v' => by rw [sX_o (by omega), sX_o (by omega), k8]
        have x4 : ∀ v v' v'', (sX (sX (sX s 25 m (cnt (chp τ m) i) v) 24 m 5 v') 24 m 6 v'').1 24 m 7 = s.1 24 m 7 := fun v v' v'' => by rw [sX_o (by omega), sX_o (by omega), sX_o (by omega)]
        have x5 : ∀ v v' v'', (sX (sX (sX s 25 m (cnt (chp τ m) i) v) 24 m 5 v') 24 m 6 v'').1 8 0 i = owT i := fun v v' v'' => by rw [sX_o (by omega), sX_o (by omega), sX_o (by omega), k8]
        rw [x4, x5, x2, x3, x1, nI_1]
      · exact (((hf.st ⟨Or.inr rfl, rfl⟩).st ⟨Or.inl rfl, rfl⟩).st ⟨Or.inl rfl, rfl⟩).st ⟨Or.inl rfl, rfl⟩
      · rw [sX_o (by omega), sX_o (by omega), sX_o (by omega), sX_o (by omega)]; exact e1
      · rw [sX_o (by omega), sX_o (by omega), sX_o (by omega), sX_o (by omega)]; exact e2
      · rw [sX_o (by omega), sX_o (by omega), sX_o (by omega), sX_o (by omega)]; exact e3
      · rw [sX_o (by omega), sX_o (by omega), sX_s, hcs]
      · intro r hr hc
        rw [sX_o (by omega), sX_o (by omega), sX_o (by omega)]
        by_cases e : r = i
        · subst e; rw [sX_s]
        · have := cnt_lt (chp τ m) (show r < i by omega) hc
          rw [sX_o (by omega)]; exact e25 r (by omega) hc
      · intro x hx
        rw [sX_o (by omega), sX_s, tb_or, e6 x hx, tb_ow hi hx]
        show _ = (anyB (mO τ m x) i || (chp τ m i && decide (vd i x = 1)))
        rw [c, Bool.true_and]
      · intro x hx
        rw [sX_s, tb_or, e7 x hx, tb_not _ hx, tb_ow hi hx]
        show _ = (anyB (mN τ m x) i || (chp τ m i && decide (vd i x = 0)))
        rw [c, Bool.true_and]
        rcases vd_01 i x with e | e <;> rw [e] <;> rfl
    · have c' : ¬ s1 τ m i = lst τ m := fun h => c (by unfold chp; exact decide_eq_true h)
      have c0 : chp τ m i = false := by
        cases hx : chp τ m i
        · rfl
        · exact absurd hx c
      rw [if_neg c, Nat.add_zero] at hcs
      refine ⟨s, ?_, hf, e1, e2, e3, ?_, ?_, ?_, ?_⟩
      · show Mi_learn_L41 K m (n + 1) (nI i) s = Mi_learn_L41 K m n (nI (i + 1)) _
        rw [Mi_learn_L41, if_neg (g244 hi), if_pos (inb_nI hi (by decide)), nI_clamp (n := i) (by omega), k11, k4, if_neg (fun x => c' (heq.mp x))]
        unfold Mi_learn_J116
        rw [nI_1]
      · rw [hcs]; exact e5
      · intro r hr hc
        by_cases e : r = i
        · subst e; exact absurd hc c
        · exact e25 r (by omega) hc
      · intro x hx
        rw [e6 x hx]
        show _ = (anyB (mO τ m x) i || (chp τ m i && decide (vd i x = 1)))
        rw [c0, Bool.false_and, Bool.or_false]
      · intro x hx
        rw [e7 x hx]
        show _ = (anyB (mN τ m x) i || (chp τ m i && decide (vd i x = 0)))
        rw [c0, Bool.false_and, Bool.or_false]
theorem Mi_learn_eq {τ s0 : St} {m v l : Nat} {g : Int32} (w : WF τ) (h8 : s0.1 8 0 = owT) (h11 : ∀ r, r < 244 → s0.1 11 0 r = nI (s1 τ m r)) (h4 : s0.1 10 0 4 = nI (lst τ m)) (hS : Stl τ m v l g) (h5 : s0.1 10 0 5 = nI v) (h6 : s0.1 10 0 6 = nI l) (h7 : s0.1 10 0 7 = g) : ∃ s, Mi_learn m s0 = some s ∧ FrP (pLr m) s0 s ∧ s.1 24 m 0 = 1 ∧ Mnd s τ m := by
  unfold Mi_learn
  have x1 : ∀ v, (sX s0 24 m 1 v).1 10 0 6 = nI l := fun v => by rw [sX_o (by omega), h6]
  have x2 : ∀ v v', (sX (sX s0 24 m 1 v) 24 m 2 v').1 10 0 7 = g := fun v v' => by rw [sX_o (by omega), sX_o (by omega), h7]
  rw [x2, x1, h5]
  obtain ⟨s, y1, y2, y3, y4, y5, y6, y7, y8, y9⟩ := learn_lp w h8 h11 h4 (fun (s_16 : St) => some (sX s_16 24 m 0 1)) (a1 := nI v) (a2 := nI l) (a3 := g) (s1_ := sX (sX (sX (sX (sX (sX s0 24 m 1 (nI v)) 24 m 2 (nI l)) 24 m 3 g) 24 m 5 0) 24 m 6 0) 24 m 7 0) (((((((FrP.rf _ _).st ⟨Or.inl rfl, rfl⟩).st ⟨Or.inl rfl, rfl⟩).st ⟨Or.inl rfl, rfl⟩).st ⟨Or.inl rfl, rfl⟩).st ⟨Or.inl rfl, rfl⟩).st ⟨Or.inl rfl, rfl⟩) (by rw [sX_o (by omega), sX_o (by omega), sX_o (by omega), sX_o (by omega), sX_o (by omega), sX_s]) (by rw [sX_o (by omega), sX_o (by omega), sX_o (by omega), sX_o (by omega), sX_s]) (by rw [sX_o (by omega), sX_o (by omega), sX_o (by omega), sX_s]) (by rw [sX_o (by omega), sX_o (by omega), sX_s]) (by rw [sX_o (by omega), sX_s]) (by rw [sX_s])
  refine ⟨sX s 24 m 0 1, y1, y2.st ⟨Or.inl rfl, rfl⟩, sX_s, ⟨v, l, g, hS, ?_, ?_, ?_⟩, ?_, ?_, ?_, ?_⟩
  · rw [sX_o (by omega)]; exact y3
  · rw [sX_o (by omega)]; exact y4
  · rw [sX_o (by omega)]; exact y5
  · rw [sX_o (by omega)]; exact y6
  · intro r hr hc
    rw [sX_o (by omega)]; exact y7 r hr hc
  · intro x hx
    rw [sX_o (by omega)]; exact y8 x hx
  · intro x hx
    rw [sX_o (by omega)]; exact y9 x hx
theorem Fr.cm {s s' : St} {m : Nat} (h : FrP (pLr m) s s') : Fr pCm s s' := by
  refine ⟨h.1, fun kd n j hp => h.2 kd n j (fun e => ?_)⟩
  unfold pCm at hp
  simp only [Bool.or_eq_false_iff, beq_eq_false_iff_ne] at hp
  unfold pLr at e
  omega
/-- all minds made known -/
theorem settled_eq {σ τ : St} (h : Inv σ τ) : ∃ s, Bk_settled σ = some s ∧ Inv s τ ∧ Fr pCm σ s ∧ ∀ m, m < nM τ → Mnd s τ m := by
  obtain ⟨w, c, d⟩ := h
  have hM := w.nM8
  have e5 : σ.1 3 0 5 = nI (nM τ) := c.mas.1.trans w.1.2.1.1
  have h := lpU (fun n i s => Bk_settled_L2 n (nI i) s) (fun i s => Fr pCm σ s ∧ RM s τ ∧ ∀ m, m < i → Mnd s τ m) some (nM τ) (by
      intro n s hp
      have e : s.1 3 0 5 = nI (nM τ) := (hp.1.2 _ _ _ rfl).trans e5
      show Bk_settled_L2 (n + 1) (nI (nM τ)) s = some s
      rw [Bk_settled_L2, e, if_pos (nI_le (Nat.le_refl _) (by omega))]) (by
      intro i n s hi hp
      obtain ⟨hf, hR, hK⟩ := hp
      have e : s.1 3 0 5 = nI (nM τ) := (hf.2 _ _ _ rfl).trans e5
      have c' : RC s τ := RC_eqc hf.eqc c
      rcases hR i (by omega) with h0 | ⟨h1, h2, h3⟩
      · obtain ⟨a, a1, a2⟩ := Bn_weigh_eq w c' (m := i) (by omega)
        obtain ⟨b, v, l, g, b1, b2, b3, b4, b5, b6⟩ := Bn_two_eq w c' a2
        have hfb : Fr pCs s b := (a2.1.wk pWg_cs).tr (b2.wk pT2_cs)
        obtain ⟨t, t1, t2, t3, t4⟩ := Mi_learn_eq (m := i) (s0 := b) w ((hfb.fn (fun j => rfl) 0).trans c'.rul.1) (fun r hr => (b2.2 _ _ _ rfl).trans (a2.2.2.1 r hr)) ((b2.2 _ _ _ rfl).trans a2.2.2.2.1) b3 b4 b5 b6
        have hmm : ∀ m, m ≠ i → t.1 24 m = s.1 24 m ∧ t.1 25 m = s.1 25 m := by
          intro m hm
          refine ⟨?_, ?_⟩
          · funext j
            rw [t2.2 24 m j (fun e => hm e.2)]
            exact hfb.2 _ _ _ rfl
          · funext j
            rw [t2.2 25 m j (fun e => hm e.2)]
            exact hfb.2 _ _ _ rfl
        refine ⟨t, ?_, hf.tr ((hfb.wk pCs_cm).tr (Fr.cm t2)), ?_, ?_⟩
        · show Bk_settled_L2 (n + 1) (nI i) s = Bk_settled_L2 n (nI (i + 1)) t
          rw [Bk_settled_L2, e, if_neg (nI_ge hi (by omega)), if_pos (inb_nI (by omega) (by decide)), nI_clamp (n := i) (by omega), if_pos h0, if_pos (inb_nI (by omega) (by decide)), a1, Option.bind_some, b1, Option.bind_some, if_pos (inb_nI (by omega) (by decide)), t1, Option.bind_some]
          unfold Bk_settled_J76
          rw [nI_1]
        · intro m hm
          by_cases em : m = i
          · subst em; exact Or.inr ⟨hi, t3, t4⟩
          · obtain ⟨x1, x2⟩ := hmm m em
            rcases hR m hm with y | ⟨y1, y2, y3⟩
            · exact Or.inl (by rw [x1]; exact y)
            · exact Or.inr ⟨y1, by rw [x1]; exact y2, Mnd_s x1 x2 y3⟩
        · intro m hm
          by_cases em : m = i
          · subst em; exact t4
          · obtain ⟨x1, x2⟩ := hmm m em
            exact Mnd_s x1 x2 (hK m (by omega))
      · refine ⟨s, ?_, hf, hR, ?_⟩
        · show Bk_settled_L2 (n + 1) (nI i) s = Bk_settled_L2 n (nI (i + 1)) s
          rw [Bk_settled_L2, e, if_neg (nI_ge hi (by omega)), if_pos (inb_nI (by omega) (by decide)), nI_clamp (n := i) (by omega), h2, if_neg (by decide)]
          unfold Bk_settled_J76
          rw [nI_1]
        · intro m hm
          by_cases em : m = i
          · subst em; exact h3
          · exact hK m (by omega)) (n := 1100) (s := σ) (by omega) ⟨Fr.rf _ _, d, fun m hm => absurd hm (Nat.not_lt_zero _)⟩
  obtain ⟨s, he, hf, hR, hK⟩ := h
  exact ⟨s, he, ⟨w, RC_eqc hf.eqc c, hR⟩, hf, hK⟩
