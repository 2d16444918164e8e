/-! ===== follow: the page read through ===== -/
def upB (f : Nat → Bool) (k : Nat) (b : Bool) : Nat → Bool := fun j => if j = k then b else f j
def lastO (p : Nat → Bool) : Nat → Option Nat
  | 0 => none
  | n + 1 => if p n = true then some n else lastO p n
theorem lastO_lt (p : Nat → Bool) : ∀ n k, lastO p n = some k → k < n ∧ p k = true := by
  intro n
  induction n with
  | zero => intro k h; exact absurd h (by simp [lastO])
  | succ n ih =>
    intro k h
    unfold lastO at h
    by_cases c : p n = true
    · rw [if_pos c] at h
      simp at h
      subst h
      exact ⟨by omega, c⟩
    · rw [if_neg c] at h
      have := ih k h
      exact ⟨by omega, this.2⟩
theorem lastO_congr {p q : Nat → Bool} : ∀ n, (∀ i, i < n → p i = q i) → lastO p n = lastO q n := by
  intro n
  induction n with
  | zero => intro _; rfl
  | succ n ih =>
    intro h
    unfold lastO
    rw [h n (by omega), ih (fun i hi => h i (by omega))]
def mk (τ : St) (k : Nat) : Nat := tn (τ.1 34 0 k)
def my (τ : St) (k : Nat) : Nat := tn (τ.1 35 0 k)
def mv (τ : St) (k : Nat) : Nat := tn (τ.1 36 0 k)
def fStep (s τ : St) (m : Nat) (F : (Nat → Bool) × Int32 × Int32) : (Nat → Bool) × Int32 × Int32 :=
  if mk τ m = 1 then (upB F.1 m true, F.2.1, F.2.2 + 1)
  else if mk τ m = 0 then (upB F.1 m false, F.2.1, F.2.2)
  else match lastO (fun k => F.1 k && decide (my τ k = my τ m)) m with
    | none => (upB F.1 m false, F.2.1 + 1, F.2.2)
    | some k => if cls s τ (mk τ m) (my τ m) (mv τ m) (mv τ k) = true then (upB (upB F.1 m false) k false, F.2.1, F.2.2 + (-1)) else (upB F.1 m false, F.2.1 + 1, F.2.2)
def fo (s τ : St) : Nat → (Nat → Bool) × Int32 × Int32
  | 0 => (fun _ => false, 0, 0)
  | m + 1 => fStep s τ m (fo s τ m)
theorem upB_true {f : Nat → Bool} {k j : Nat} (h : upB f k false j = true) : f j = true := by
  unfold upB at h
  by_cases c : j = k
  · rw [if_pos c] at h; exact absurd h (by decide)
  · rw [if_neg c] at h; exact h
theorem fo_obj (s τ : St) : ∀ m k, (fo s τ m).1 k = true → k < m ∧ mk τ k = 1 := by
  intro m
  induction m with
  | zero => intro k h; exact absurd h (by simp [fo])
  | succ m ih =>
    intro k h
    have hd : ∀ {k}, (fo s τ m).1 k = true → k < m + 1 ∧ mk τ k = 1 := fun {k} hk => ⟨by have := (ih k hk).1; omega, (ih k hk).2⟩
    have e : fo s τ (m + 1) = fStep s τ m (fo s τ m) := rfl
    rw [e] at h
    unfold fStep at h
    by_cases c1 : mk τ m = 1
    · rw [if_pos c1] at h
      dsimp only at h
      unfold upB at h
      by_cases ck : k = m
      · subst ck; exact ⟨by omega, c1⟩
      · rw [if_neg ck] at h; exact hd h
    · rw [if_neg c1] at h
      by_cases c0 : mk τ m = 0
      · rw [if_pos c0] at h
        exact hd (upB_true h)
      · rw [if_neg c0] at h
        cases hl : lastO (fun k => (fo s τ m).1 k && decide (my τ k = my τ m)) m with
        | none => rw [hl] at h; exact hd (upB_true h)
        | some q =>
          rw [hl] at h
          dsimp only at h
          by_cases cc : cls s τ (mk τ m) (my τ m) (mv τ m) (mv τ q) = true
          · rw [if_pos cc] at h
            exact hd (upB_true (upB_true h))
          · rw [if_neg cc] at h
            exact hd (upB_true h)
theorem mvs_at {σ τ : St} (h : Inv σ τ) {k : Nat} (hk : k < nV τ) : mk τ k ≤ 6 ∧ my τ k < nS τ ∧ τ.1 34 0 k = nI (mk τ k) ∧ τ.1 35 0 k = nI (my τ k) ∧ τ.1 36 0 k = nI (mv τ k) ∧ σ.1 28 k 0 = nI (mk τ k) ∧ σ.1 28 k 1 = nI (my τ k) ∧ σ.1 28 k 2 = nI (mv τ k) ∧ okV τ (mk τ k) (my τ k) (mv τ k) := by
  obtain ⟨kd, y, v, h1, h2, h3, h4, h5, h6, h7, h8, h9⟩ := move_at h hk
  have hS := h.w.nS24
  have hM := h.w.nM8
  have hv : v < 1000 := by omega
  have e1 : mk τ k = kd := by unfold mk; rw [h3]; exact tn_nI (by omega)
  have e2 : my τ k = y := by unfold my; rw [h4]; exact tn_nI (by omega)
  have e3 : mv τ k = v := by unfold mv; rw [h5]; exact tn_nI (by omega)
  rw [e1, e2, e3]
  exact ⟨h1, h2, h3, h4, h5, h6, h7, h8, h9⟩
def pRt (kd j : Nat) : Bool := kd == 4 && (j == 2 || j == 3) || kd == 28 && j == 3
theorem pRt_cs : ∀ k j, pCs k j = false → pRt k j = false := by
  intro k j h
  unfold pCs at h
  unfold pRt
  simp only [Bool.or_eq_false_iff, Bool.and_eq_false_iff, beq_eq_false_iff_ne] at h ⊢
  omega
theorem lastOpen_lp {t τ : St} {fl : Nat → Bool} {a : Nat} (ha : a < 1000) : ∀ i n, i ≤ 40 → i < n → (∀ k, k < i → t.1 28 k 3 = bI (fl k) ∧ t.1 28 k 1 = nI (my τ k) ∧ my τ k < 1000) → Pg_lastOpen_L4 (nI a) t n (nI i - 1) = some (oI (lastO (fun k => fl k && decide (my τ k = a)) i)) := by
  intro i
  induction i with
  | zero =>
    intro n h1 h2 h3
    obtain ⟨n, rfl⟩ : ∃ k, n = k + 1 := ⟨n - 1, by omega⟩
    rw [Pg_lastOpen_L4, if_pos (by decide)]
    rfl
  | succ i ih =>
    intro n h1 h2 h3
    obtain ⟨n, rfl⟩ : ∃ k, n = k + 1 := ⟨n - 1, by omega⟩
    obtain ⟨e3, e1, hb⟩ := h3 i (by omega)
    have q := nI_eq (a := my τ i) (b := a) (by omega) (by omega)
    have hl : lastO (fun k => fl k && decide (my τ k = a)) (i + 1) = if (fl i && decide (my τ i = a)) = true then some i else lastO (fun k => fl k && decide (my τ k = a)) i := rfl
    have hm1 : nI i + (-1) = nI i - 1 := by rw [Int32.sub_eq_add_neg]
    have hi : inb (nI i) 40 = true := inb_nI (by omega) (by decide)
    rw [nI_pred, Pg_lastOpen_L4, if_neg (nI_pos (by omega)), if_pos hi, if_pos hi, nI_clamp (n := i) (by omega), e3, e1]
    unfold Pg_lastOpen_J35
    rw [hm1, ih n (by omega) (by omega) (fun k hk => h3 k (by omega)), hl]
    cases fl i
    · rw [if_pos (show bI false = 0 from rfl), Bool.false_and, if_neg (by decide)]
    · rw [if_neg (show ¬ bI true = 0 by decide), Bool.true_and]
      by_cases c : my τ i = a
      · rw [if_pos (q.mpr c), if_pos (decide_eq_true c)]; rfl
      · rw [if_neg (fun z => c (q.mp z)), if_neg (fun z => c (of_decide_eq_true z))]
def RdP (s τ : St) (m : Nat) (t : St) : Prop := Fr pRt s t ∧ t.1 4 0 3 = (fo s τ m).2.1 ∧ t.1 4 0 2 = (fo s τ m).2.2 ∧ ∀ k, k < m → t.1 28 k 3 = bI ((fo s τ m).1 k)
theorem RdP_s {s τ t : St} {m : Nat} {f : Nat → Bool} {a b : Int32} (e : fStep s τ m (fo s τ m) = (f, a, b)) (h1 : Fr pRt s t) (h2 : t.1 4 0 3 = a) (h3 : t.1 4 0 2 = b) (h4 : ∀ k, k < m + 1 → t.1 28 k 3 = bI (f k)) : RdP s τ (m + 1) t := by
  have e1 : fo s τ (m + 1) = (f, a, b) := e
  unfold RdP
  rw [e1]
  exact ⟨h1, h2, h3, h4⟩
theorem read_1 {s τ t : St} (h : Inv s τ) {m n : Nat} (hm : m < nV τ) (hp : RdP s τ m t) (c1 : mk τ m = 1) : ∃ t', Pg_readThrough_L12 (n + 1) (nI m) t = Pg_readThrough_L12 n (nI (m + 1)) t' ∧ RdP s τ (m + 1) t' := by
  have hV := h.w.nV40
  obtain ⟨hf, h3, h2, hfl⟩ := hp
  obtain ⟨v1, v2, v3, v4, v5, v6, v7, v8, v9⟩ := mvs_at h hm
  have hi : inb (nI m) 40 = true := inb_nI (by omega) (by decide)
  have hc : (nI m).toNatClampNeg = m := nI_clamp (by omega)
  have e1 : t.1 4 0 1 = nI (nV τ) := (hf.2 _ _ _ rfl).trans (mvN h).2
  have ek : t.1 28 m 0 = nI (mk τ m) := (hf.2 _ _ _ rfl).trans v6
  have ec : nI (mk τ m) = 1 := by rw [c1]; rfl
  have eF : fStep s τ m (fo s τ m) = (upB (fo s τ m).1 m true, (fo s τ m).2.1, (fo s τ m).2.2 + 1) := by unfold fStep; rw [if_pos c1]
  refine ⟨sX (sX t 28 m 3 1) 4 0 2 ((fo s τ m).2.2 + 1), ?_, RdP_s eF ((hf.st _ _ _ _ rfl).st _ _ _ _ rfl) ?_ ?_ ?_⟩
  · rw [Pg_readThrough_L12, e1, if_neg (nI_ge hm (by omega)), if_pos hi, hc, ek, if_pos ec, sX_s, if_neg (show ¬ (1 : Int32) = 0 by decide), sX_o (by omega), h2]
    unfold Pg_readThrough_J61 Pg_readThrough_J143
    rw [sX_o (by omega), sX_o (by omega), ek, ec, if_neg (show ¬ (2 : Int32) ≤ 1 by decide), nI_1]
  · rw [sX_o (by omega), sX_o (by omega)]; exact h3
  · rw [sX_s]
  · intro k hk
    rw [sX_o (by omega), sX_at]
    show _ = bI (if k = m then true else (fo s τ m).1 k)
    by_cases e : k = m
    · rw [if_pos ⟨rfl, e, rfl⟩, if_pos e]; rfl
    · rw [if_neg (by omega), if_neg e]; exact hfl k (by omega)
theorem read_row {s τ t : St} {m : Nat} (hp : RdP s τ m t) : ∀ k, k < m + 1 → (sX t 28 m 3 0).1 28 k 3 = bI (upB (fo s τ m).1 m false k) := by
  intro k hk
  rw [sX_at]
  show _ = bI (if k = m then false else (fo s τ m).1 k)
  by_cases e : k = m
  · rw [if_pos ⟨rfl, e, rfl⟩, if_pos e]; rfl
  · rw [if_neg (by omega), if_neg e]; exact hp.2.2.2 k (by omega)
theorem read_st {s τ t : St} (h : Inv s τ) {m n : Nat} (hm : m < nV τ) (hp : RdP s τ m t) (c1 : ¬ mk τ m = 1) : Pg_readThrough_L12 (n + 1) (nI m) t = Pg_readThrough_J61 (Pg_readThrough_L12 n) (nI m) m (sX t 28 m 3 0) := by
  have hV := h.w.nV40
  obtain ⟨hf, h3, h2, hfl⟩ := hp
  obtain ⟨v1, v2, v3, v4, v5, v6, v7, v8, v9⟩ := mvs_at h hm
  have hi : inb (nI m) 40 = true := inb_nI (by omega) (by decide)
  have hc : (nI m).toNatClampNeg = m := nI_clamp (by omega)
  have e1 : t.1 4 0 1 = nI (nV τ) := (hf.2 _ _ _ rfl).trans (mvN h).2
  have ek : t.1 28 m 0 = nI (mk τ m) := (hf.2 _ _ _ rfl).trans v6
  have q1 := nI_eq (a := mk τ m) (b := 1) (by omega) (by decide)
  have ec : ¬ nI (mk τ m) = 1 := fun z => c1 (q1.mp z)
  rw [Pg_readThrough_L12, e1, if_neg (nI_ge hm (by omega)), if_pos hi, hc, ek, if_neg ec, sX_s, if_pos rfl]
theorem read_0 {s τ t : St} (h : Inv s τ) {m n : Nat} (hm : m < nV τ) (hp : RdP s τ m t) (c0 : mk τ m = 0) : ∃ t', Pg_readThrough_L12 (n + 1) (nI m) t = Pg_readThrough_L12 n (nI (m + 1)) t' ∧ RdP s τ (m + 1) t' := by
  have c1 : ¬ mk τ m = 1 := by omega
  have hst := read_st (n := n) h hm hp c1
  have hrow := read_row hp
  obtain ⟨hf, h3, h2, hfl⟩ := hp
  have ek' : (sX t 28 m 3 0).1 28 m 0 = nI (mk τ m) := by rw [sX_o (by omega), hf.2 28 m 0 rfl]; exact (mvs_at h hm).2.2.2.2.2.1
  have eF : fStep s τ m (fo s τ m) = (upB (fo s τ m).1 m false, (fo s τ m).2.1, (fo s τ m).2.2) := by unfold fStep; rw [if_neg c1, if_pos c0]
  refine ⟨sX t 28 m 3 0, ?_, RdP_s eF (hf.st _ _ _ _ rfl) ?_ ?_ hrow⟩
  · rw [hst]
    unfold Pg_readThrough_J61 Pg_readThrough_J143
    rw [ek', c0, if_neg (show ¬ (2 : Int32) ≤ nI 0 by decide), nI_1]
  · rw [sX_o (by omega)]; exact h3
  · rw [sX_o (by omega)]; exact h2
theorem read_2 {s τ t : St} (h : Inv s τ) (hK : ∀ m, m < nM τ → Mnd s τ m) {m n : Nat} (hm : m < nV τ) (hp : RdP s τ m t) (c2 : 2 ≤ mk τ m) : ∃ t', Pg_readThrough_L12 (n + 1) (nI m) t = Pg_readThrough_L12 n (nI (m + 1)) t' ∧ RdP s τ (m + 1) t' := by
  have hV := h.w.nV40
  have hS := h.w.nS24
  have c1 : ¬ mk τ m = 1 := by omega
  have c0 : ¬ mk τ m = 0 := by omega
  have hst := read_st (n := n) h hm hp c1
  have hrow := read_row hp
  obtain ⟨hf, h3, h2, hfl⟩ := hp
  obtain ⟨v1, v2, v3, v4, v5, v6, v7, v8, v9⟩ := mvs_at h hm
  have hf' : Fr pRt s (sX t 28 m 3 0) := hf.st _ _ _ _ rfl
  have ek' : (sX t 28 m 3 0).1 28 m 0 = nI (mk τ m) := by rw [sX_o (by omega), hf.2 28 m 0 rfl]; exact v6
  have ey' : (sX t 28 m 3 0).1 28 m 1 = nI (my τ m) := by rw [sX_o (by omega), hf.2 28 m 1 rfl]; exact v7
  have ev' : (sX t 28 m 3 0).1 28 m 2 = nI (mv τ m) := by rw [sX_o (by omega), hf.2 28 m 2 rfl]; exact v8
  have hlast : Pg_lastOpen (nI m) (nI (my τ m)) (sX t 28 m 3 0) = some (oI (lastO (fun k => (fo s τ m).1 k && decide (my τ k = my τ m)) m)) := by
    unfold Pg_lastOpen
    refine lastOpen_lp (τ := τ) (by omega) m 1100 (by omega) (by omega) ?_
    intro k hk
    have hkv := mvs_at h (show k < nV τ by omega)
    refine ⟨?_, ?_, by omega⟩
    · rw [sX_o (by omega)]; exact hfl k hk
    · rw [sX_o (by omega), hf.2 28 k 1 rfl]; exact hkv.2.2.2.2.2.2.1
  have hid : Pg_readThrough_J133 (Pg_readThrough_L12 n) (nI m) (sX t 28 m 3 0) = Pg_readThrough_L12 n (nI (m + 1)) (sX (sX t 28 m 3 0) 4 0 3 ((fo s τ m).2.1 + 1)) := by
    unfold Pg_readThrough_J133 Pg_readThrough_J143
    rw [sX_o (by omega), h3, nI_1]
  have hge : (2 : Int32) ≤ nI (mk τ m) := nI_le (a := 2) c2 (by omega)
  generalize hL : Pg_readThrough_L12 n = LL at *
  unfold Pg_readThrough_J61 at hst
  rw [ek', if_pos hge, ey', hlast, Option.bind_some] at hst
  have hI' : Inv (sX t 28 m 3 0) τ := Inv_fr (hf'.wk pRt_cs) h
  have k24 : (sX t 28 m 3 0).1 24 = s.1 24 := funext fun n => hf'.fn (fun j => rfl) n
  have k25 : (sX t 28 m 3 0).1 25 = s.1 25 := funext fun n => hf'.fn (fun j => rfl) n
  have hK' : ∀ m', m' < nM τ → Mnd (sX t 28 m 3 0) τ m' := fun m' hm' => Mnd_s (by rw [k24]) (by rw [k25]) (hK m' hm')
  have h3' : (sX t 28 m 3 0).1 4 0 3 = (fo s τ m).2.1 := by rw [sX_o (by omega)]; exact h3
  have h2' : (sX t 28 m 3 0).1 4 0 2 = (fo s τ m).2.2 := by rw [sX_o (by omega)]; exact h2
  have h28 : ∀ k, k < m → (sX t 28 m 3 0).1 28 k 2 = nI (mv τ k) := by
    intro k hk
    rw [sX_o (by omega), hf.2 28 k 2 rfl]; exact (mvs_at h (show k < nV τ by omega)).2.2.2.2.2.2.2.1
  generalize sX t 28 m 3 0 = t1 at *
  cases hl : lastO (fun k => (fo s τ m).1 k && decide (my τ k = my τ m)) m with
  | none =>
    have eF : fStep s τ m (fo s τ m) = (upB (fo s τ m).1 m false, (fo s τ m).2.1 + 1, (fo s τ m).2.2) := by unfold fStep; rw [if_neg c1, if_neg c0, hl]
    rw [hl, if_pos (show oI none = -9 from rfl), hid] at hst
    refine ⟨_, hst, RdP_s eF (hf'.st _ _ _ _ rfl) ?_ ?_ ?_⟩
    · rw [sX_s]
    · rw [sX_o (by omega)]; exact h2'
    · intro k hk
      rw [sX_o (by omega)]; exact hrow k hk
  | some k =>
    obtain ⟨hk1, hk2⟩ := lastO_lt _ _ _ hl
    rw [Bool.and_eq_true] at hk2
    have hobj := (fo_obj s τ m k hk2.1).2
    have hkv := mvs_at h (show k < nV τ by omega)
    have hov : mv τ k < nS τ := by
      have := hkv.2.2.2.2.2.2.2.2
      unfold okV at this
      omega
    have hcl := closes_eq hI' hK' (k := m) c2 v1 v2 hov v9 ek' ey' ev'
    have ecl : cls t1 τ (mk τ m) (my τ m) (mv τ m) (mv τ k) = cls s τ (mk τ m) (my τ m) (mv τ m) (mv τ k) := by
      have e1 : vr t1 = vr s := by funext x m; unfold vr; rw [k24]
      unfold cls
      rw [e1]
    rw [ecl] at hcl
    have hik : inb (nI k) 40 = true := inb_nI (by omega) (by decide)
    rw [hl, show oI (some k) = nI k from rfl, if_neg (neg9 (by omega)), if_pos hik, nI_clamp (n := k) (by omega), h28 k hk1, hcl, Option.bind_some, hid] at hst
    cases cc : cls s τ (mk τ m) (my τ m) (mv τ m) (mv τ k) with
    | true =>
      have eF : fStep s τ m (fo s τ m) = (upB (upB (fo s τ m).1 m false) k false, (fo s τ m).2.1, (fo s τ m).2.2 + (-1)) := by
        unfold fStep; rw [if_neg c1, if_neg c0, hl]; dsimp only; rw [if_pos cc]
      rw [cc, if_neg (show ¬ bI true = 0 by decide), if_pos hik, sX_o (by omega), h2'] at hst
      unfold Pg_readThrough_J143 at hst
      rw [nI_1] at hst
      refine ⟨_, hst, RdP_s eF ((hf'.st _ _ _ _ rfl).st _ _ _ _ rfl) ?_ ?_ ?_⟩
      · rw [sX_o (by omega), sX_o (by omega)]; exact h3'
      · rw [sX_s]; exact Int32.sub_eq_add_neg _ _
      · intro j hj
        rw [sX_o (by omega), sX_at]
        show _ = bI (if j = k then false else upB (fo s τ m).1 m false j)
        by_cases e : j = k
        · rw [if_pos ⟨rfl, e, rfl⟩, if_pos e]; rfl
        · rw [if_neg (by omega), if_neg e]; exact hrow j hj
    | false =>
      have eF : fStep s τ m (fo s τ m) = (upB (fo s τ m).1 m false, (fo s τ m).2.1 + 1, (fo s τ m).2.2) := by
        unfold fStep; rw [if_neg c1, if_neg c0, hl]; dsimp only; rw [if_neg (by rw [cc]; decide)]
      rw [cc, if_pos (show bI false = 0 from rfl)] at hst
      refine ⟨_, hst, RdP_s eF (hf'.st _ _ _ _ rfl) ?_ ?_ ?_⟩
      · rw [sX_s]
      · rw [sX_o (by omega)]; exact h2'
      · intro j hj
        rw [sX_o (by omega)]; exact hrow j hj
theorem read_eq {s τ : St} (h : Inv s τ) (hK : ∀ m, m < nM τ → Mnd s τ m) : ∃ t, Pg_readThrough s = some t ∧ Fr pRt s t ∧ t.1 4 0 3 = (fo s τ (nV τ)).2.1 ∧ t.1 4 0 2 = (fo s τ (nV τ)).2.2 := by
  have hV := h.w.nV40
  have hh := lpU (fun n m t => Pg_readThrough_L12 n (nI m) t) (RdP s τ) some (nV τ) (by
    intro n t hp
    show Pg_readThrough_L12 (n + 1) (nI (nV τ)) t = some t
    rw [Pg_readThrough_L12, hp.1.2 4 0 1 rfl, (mvN h).2, if_pos (nI_le (Nat.le_refl _) (by omega))]) (by
    intro m n t hm hp
    by_cases c1 : mk τ m = 1
    · exact read_1 h hm hp c1
    · by_cases c0 : mk τ m = 0
      · exact read_0 h hm hp c0
      · exact read_2 h hK hm hp (by omega)) (n := 1100) (s := sX (sX s 4 0 2 0) 4 0 3 0) (by omega) ⟨((Fr.rf _ _).st _ _ _ _ rfl).st _ _ _ _ rfl, by rw [sX_s]; rfl, by rw [sX_o (by omega), sX_s]; rfl, fun k hk => absurd hk (Nat.not_lt_zero _)⟩
  obtain ⟨t, t1, t2, t3, t4, -⟩ := hh
  exact ⟨t, t1, t2, t3, t4⟩
