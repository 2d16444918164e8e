/-! ===== digest ===== -/
def mx (h : Int64) (v : Int32) : Int64 := (31 * h) + v.toInt64
def hS (F : Nat → Int64 → Int64) : Nat → Int64 → Int64
  | 0, h => h
  | i + 1, h => F i (hS F i h)
/-- the reference with h mixed -/
abbrev uH (τ : St) (h : Int64) : St := sY τ 40 h
theorem mix_eq (τ : St) (h : Int64) (v : Int32) : M_mix v (uH τ h) = some (uH τ (mx h v)) := by
  unfold M_mix uH mx
  have e : (sY τ 40 h).2 40 = h := by rw [sY_at, if_pos rfl]
  rw [e]
  refine congrArg some (Prod.ext rfl ?_)
  funext i
  rw [sY_at, sY_at, sY_at]
  by_cases c : i = 40
  · rw [if_pos c, if_pos c]
  · rw [if_neg c, if_neg c, if_neg c]
theorem Inv_h {σ τ : St} (h : Inv σ τ) (k : Int64) : Inv σ (uH τ k) := by
  have e : Eqm τ (uH τ k) := ⟨fun _ _ => rfl, fun _ _ => rfl, by rw [sY_at, if_neg (by decide)], by rw [sY_at, if_neg (by decide)]⟩
  exact Inv_eqm e h
def amv (σ : St) (j : Nat) : Int32 := (Q_amount (nI j) σ).getD 0
def lfv (σ : St) (m j : Nat) : Int32 := (Bk_lifeFigure (nI m) (nI j) σ).getD 0
theorem amv_eq {σ τ : St} (h : Inv σ τ) {j : Nat} (hj : j < 7) (k : Int64) : Q_amount (nI j) σ = some (amv σ j) ∧ M_counts (nI j) (uH τ k) = some (amv σ j) := by
  obtain ⟨v, v1, v2⟩ := amount_eq (Inv_h h k) hj
  have e : amv σ j = v := by unfold amv; rw [v1]; rfl
  rw [e]; exact ⟨v1, v2⟩
theorem lfv_eq {σ τ : St} (h : Inv σ τ) {m j : Nat} (hm : m < nM τ) (hj : j < 5) (k : Int64) : Bk_lifeFigure (nI m) (nI j) σ = some (lfv σ m j) ∧ M_lifeTells (nI m) (nI j) (uH τ k) = some (lfv σ m j) := by
  obtain ⟨v, v1, v2⟩ := lf_eq (Inv_h h k) (m := m) hm hj
  have e : lfv σ m j = v := by unfold lfv; rw [v1]; rfl
  rw [e]; exact ⟨v1, v2⟩
/-! amounts -/
theorem dg1_c {σ τ : St} (h : Inv σ τ) (K : Int64 → Option Int64) (h0 : Int64) : Q_digest_L6 K σ 1100 h0 0 = K (hS (fun j k => mx k (amv σ j)) 7 h0) := by
  refine lpF (fun n j (v : Int64) => Q_digest_L6 K σ n v (nI j)) (fun i => hS (fun j k => mx k (amv σ j)) i h0) _ 7 ?_ ?_ (n := 1100) (by decide)
  · intro n
    show Q_digest_L6 K σ (n + 1) _ (nI 7) = _
    rw [Q_digest_L6, if_pos (by decide)]
  · intro j n hj
    show Q_digest_L6 K σ (n + 1) _ (nI j) = Q_digest_L6 K σ n _ (nI (j + 1))
    rw [Q_digest_L6, if_neg (show ¬ (7 : Int32) ≤ nI j from nI_ge (b := 7) hj (by decide)), (amv_eq h hj 0).1, Option.bind_some, nI_1]
    rfl
theorem dg1_m {σ τ : St} (h : Inv σ τ) (K : St → Option (Int64 × St)) (h0 : Int64) : M_digest_L9 K 1100 0 (uH τ h0) = K (uH τ (hS (fun j k => mx k (amv σ j)) 7 h0)) := by
  refine lpF (fun n j (s : St) => M_digest_L9 K n (nI j) s) (fun i => uH τ (hS (fun j k => mx k (amv σ j)) i h0)) _ 7 ?_ ?_ (n := 1100) (by decide)
  · intro n
    show M_digest_L9 K (n + 1) (nI 7) _ = _
    rw [M_digest_L9, if_pos (by decide)]
  · intro j n hj
    show M_digest_L9 K (n + 1) (nI j) (uH τ _) = M_digest_L9 K n (nI (j + 1)) (uH τ _)
    rw [M_digest_L9, if_neg (show ¬ (6 : Int32) < nI j from nI_nlt (a := 6) (by omega) (by decide)), (amv_eq h hj _).2, Option.bind_some, mix_eq, Option.bind_some, nI_1]
    rfl
/-! cases -/
theorem dg2_c {σ τ : St} (h : Inv σ τ) (K : Int64 → Option Int64) (h0 : Int64) : Bk_digestFrom_L5 K σ 1100 h0 0 = K (hS (fun c k => mx k (τ.1 11 0 c)) (nC τ) h0) := by
  have hC := h.w.nC12
  have e3 : σ.1 3 0 3 = nI (nC τ) := h.c.case.1.trans h.w.1.1.1
  refine lpF (fun n c (v : Int64) => Bk_digestFrom_L5 K σ n v (nI c)) (fun i => hS (fun c k => mx k (τ.1 11 0 c)) i h0) _ (nC τ) ?_ ?_ (n := 1100) (by omega)
  · intro n
    show Bk_digestFrom_L5 K σ (n + 1) _ (nI (nC τ)) = _
    rw [Bk_digestFrom_L5, e3, if_pos (nI_le (Nat.le_refl _) (by omega))]
  · intro c n hc
    show Bk_digestFrom_L5 K σ (n + 1) _ (nI c) = Bk_digestFrom_L5 K σ n _ (nI (c + 1))
    rw [Bk_digestFrom_L5, e3, if_neg (nI_ge hc (by omega)), if_pos (inb_nI (by omega) (by decide)), nI_clamp (n := c) (by omega), h.c.case.2 c (by omega), nI_1]
    rfl
theorem dg2_m {τ : St} (w : WF τ) (K : St → Option St) (h0 : Int64) : M_mixSayings_L2 K 1100 0 (uH τ h0) = K (uH τ (hS (fun c k => mx k (τ.1 11 0 c)) (nC τ) h0)) := by
  have hC := w.nC12
  have e10 : τ.1 0 0 10 = nI (nC τ) := w.1.1.1
  refine lpF (fun n c (s : St) => M_mixSayings_L2 K n (nI c) s) (fun i => uH τ (hS (fun c k => mx k (τ.1 11 0 c)) i h0)) _ (nC τ) ?_ ?_ (n := 1100) (by omega)
  · intro n
    show M_mixSayings_L2 K (n + 1) (nI (nC τ)) (uH τ _) = _
    rw [M_mixSayings_L2, sY_1, e10, if_pos (nI_le (Nat.le_refl _) (by omega))]
  · intro c n hc
    show M_mixSayings_L2 K (n + 1) (nI c) (uH τ _) = M_mixSayings_L2 K n (nI (c + 1)) (uH τ _)
    rw [M_mixSayings_L2, sY_1, e10, if_neg (nI_ge hc (by omega)), if_pos (inb_nI (by omega) (by decide)), nI_clamp (n := c) (by omega), mix_eq, Option.bind_some, nI_1]
    rfl
/-! masters -/
def F3 (σ : St) (m : Nat) (k : Int64) : Int64 := hS (fun j k => mx k (lfv σ m j)) 5 k
theorem dg3_c {σ τ : St} (h : Inv σ τ) (K : Int64 → Option Int64) (h0 : Int64) : Bk_digestFrom_L38 K σ 1100 h0 0 = K (hS (F3 σ) (nM τ) h0) := by
  have hM := h.w.nM8
  have hin : ∀ (K : Int64 → Option Int64) m k, m < nM τ → Bk_digestFrom_L50 K (nI m) σ 1100 k 0 = K (F3 σ m k) := by
    intro K m k hm
    refine lpF (fun n j (v : Int64) => Bk_digestFrom_L50 K (nI m) σ n v (nI j)) (fun i => hS (fun j k => mx k (lfv σ m j)) i k) _ 5 ?_ ?_ (n := 1100) (by decide)
    · intro n
      show Bk_digestFrom_L50 K (nI m) σ (n + 1) _ (nI 5) = _
      rw [Bk_digestFrom_L50, if_pos (by decide)]
      rfl
    · intro j n hj
      show Bk_digestFrom_L50 K (nI m) σ (n + 1) _ (nI j) = Bk_digestFrom_L50 K (nI m) σ n _ (nI (j + 1))
      rw [Bk_digestFrom_L50, if_neg (g5 hj), (lfv_eq h hm hj 0).1, Option.bind_some, nI_1]
      rfl
  refine lpF (fun n m (v : Int64) => Bk_digestFrom_L38 K σ n v (nI m)) (fun i => hS (F3 σ) i h0) _ (nM τ) ?_ ?_ (n := 1100) (by omega)
  · intro n
    show Bk_digestFrom_L38 K σ (n + 1) _ (nI (nM τ)) = _
    rw [Bk_digestFrom_L38, nMs h, if_pos (nI_le (Nat.le_refl _) (by omega))]
  · intro m n hm
    show Bk_digestFrom_L38 K σ (n + 1) _ (nI m) = Bk_digestFrom_L38 K σ n _ (nI (m + 1))
    rw [Bk_digestFrom_L38, nMs h, if_neg (nI_ge hm (by omega)), hin _ m _ hm, nI_1]
    rfl
theorem dg3_m {σ τ : St} (h : Inv σ τ) (K : St → Option St) (h0 : Int64) : M_mixSayings_L28 K 1100 0 (uH τ h0) = K (uH τ (hS (F3 σ) (nM τ) h0)) := by
  have hM := h.w.nM8
  have e12 : τ.1 0 0 12 = nI (nM τ) := h.w.1.2.1.1
  have hin : ∀ (K : St → Option St) m k, m < nM τ → M_mixSayings_L38 K (nI m) 1100 0 (uH τ k) = K (uH τ (F3 σ m k)) := by
    intro K m k hm
    refine lpF (fun n j (s : St) => M_mixSayings_L38 K (nI m) n (nI j) s) (fun i => uH τ (hS (fun j k => mx k (lfv σ m j)) i k)) _ 5 ?_ ?_ (n := 1100) (by decide)
    · intro n
      show M_mixSayings_L38 K (nI m) (n + 1) (nI 5) (uH τ _) = _
      rw [M_mixSayings_L38, if_pos (by decide)]
      rfl
    · intro j n hj
      show M_mixSayings_L38 K (nI m) (n + 1) (nI j) (uH τ _) = M_mixSayings_L38 K (nI m) n (nI (j + 1)) (uH τ _)
      rw [M_mixSayings_L38, if_neg (show ¬ (4 : Int32) < nI j from nI_nlt (a := 4) (by omega) (by decide)), (lfv_eq h hm hj _).2, Option.bind_some, mix_eq, Option.bind_some, nI_1]
      rfl
  refine lpF (fun n m (s : St) => M_mixSayings_L28 K n (nI m) s) (fun i => uH τ (hS (F3 σ) i h0)) _ (nM τ) ?_ ?_ (n := 1100) (by omega)
  · intro n
    show M_mixSayings_L28 K (n + 1) (nI (nM τ)) (uH τ _) = _
    rw [M_mixSayings_L28, sY_1, e12, if_pos (nI_le (Nat.le_refl _) (by omega))]
  · intro m n hm
    show M_mixSayings_L28 K (n + 1) (nI m) (uH τ _) = M_mixSayings_L28 K n (nI (m + 1)) (uH τ _)
    rw [M_mixSayings_L28, sY_1, e12, if_neg (nI_ge hm (by omega)), hin _ m _ hm, nI_1]
    rfl
/-! sayings -/
def F4a (σ : St) (s : Nat) (k : Int64) : Int64 := hS (fun j k => mx k (Sy_figure s (nI j) σ)) 5 k
def F4b (τ : St) (s : Nat) (k : Int64) : Int64 := hS (fun c k => mx k (τ.1 22 0 (5 * s + c))) 5 k
theorem dg4_c {σ τ : St} (h : Inv σ τ) (K : Int64 → Option Int64) (h0 : Int64) : Bk_digestFrom_L87 K σ 1100 h0 0 = K (hS (fun s k => F4b τ s (F4a σ s k)) (nS τ) h0) := by
  have hS_ := h.w.nS24
  have e7 : σ.1 3 0 7 = nI (nS τ) := h.c.say.1.trans h.w.1.2.2.1.1
  have hin : ∀ (K : Int64 → Option Int64) s k, s < nS τ → Bk_digestFrom_L99 K (nI s) σ 1100 k 0 = K (F4a σ s k) := by
    intro K s k hs
    refine lpF (fun n j (v : Int64) => Bk_digestFrom_L99 K (nI s) σ n v (nI j)) (fun i => hS (fun j k => mx k (Sy_figure s (nI j) σ)) i k) _ 5 ?_ ?_ (n := 1100) (by decide)
    · intro n
      show Bk_digestFrom_L99 K (nI s) σ (n + 1) _ (nI 5) = _
      rw [Bk_digestFrom_L99, if_pos (by decide)]
      rfl
    · intro j n hj
      show Bk_digestFrom_L99 K (nI s) σ (n + 1) _ (nI j) = Bk_digestFrom_L99 K (nI s) σ n _ (nI (j + 1))
      rw [Bk_digestFrom_L99, if_neg (g5 hj), if_pos (inb_nI (by omega) (by decide)), nI_clamp (n := s) (by omega), nI_1]
      rfl
  have hin2 : ∀ (K : Int64 → Option Int64) s k, s < nS τ → Bk_digestFrom_L134 K (nI s) σ 1100 k 0 = K (F4b τ s k) := by
    intro K s k hs
    refine lpF (fun n j (v : Int64) => Bk_digestFrom_L134 K (nI s) σ n v (nI j)) (fun i => hS (fun c k => mx k (τ.1 22 0 (5 * s + c))) i k) _ 5 ?_ ?_ (n := 1100) (by decide)
    · intro n
      show Bk_digestFrom_L134 K (nI s) σ (n + 1) _ (nI 5) = _
      rw [Bk_digestFrom_L134, if_pos (by decide)]
      rfl
    · intro j n hj
      show Bk_digestFrom_L134 K (nI s) σ (n + 1) _ (nI j) = Bk_digestFrom_L134 K (nI s) σ n _ (nI (j + 1))
      rw [Bk_digestFrom_L134, if_neg (g5 hj), if_pos (inb_nI (by omega) (by decide)), if_pos (inb_nI hj (by decide)), nI_clamp (n := s) (by omega), nI_clamp (n := j) (by omega), h.c.say.2.2.1 s hs j hj, nI_1]
      rfl
  refine lpF (fun n s (v : Int64) => Bk_digestFrom_L87 K σ n v (nI s)) (fun i => hS (fun s k => F4b τ s (F4a σ s k)) i h0) _ (nS τ) ?_ ?_ (n := 1100) (by omega)
  · intro n
    show Bk_digestFrom_L87 K σ (n + 1) _ (nI (nS τ)) = _
    rw [Bk_digestFrom_L87, e7, if_pos (nI_le (Nat.le_refl _) (by omega))]
  · intro s n hs
    show Bk_digestFrom_L87 K σ (n + 1) _ (nI s) = Bk_digestFrom_L87 K σ n _ (nI (s + 1))
    rw [Bk_digestFrom_L87, e7, if_neg (nI_ge hs (by omega)), hin _ s _ hs, hin2 _ s _ hs, nI_1]
    rfl
theorem dg4_m {σ τ : St} (h : Inv σ τ) (h0 : Int64) : M_mixSayings_L67 1100 0 (uH τ h0) = some (uH τ (hS (fun s k => F4b τ s (F4a σ s k)) (nS τ) h0)) := by
  have hS_ := h.w.nS24
  have e16 : τ.1 0 0 16 = nI (nS τ) := h.w.1.2.2.1.1
  have hin : ∀ (K : St → Option St) s k, s < nS τ → M_mixSayings_L77 K (nI s) 1100 0 (uH τ k) = K (uH τ (F4a σ s k)) := by
    intro K s k hs
    refine lpF (fun n j (u : St) => M_mixSayings_L77 K (nI s) n (nI j) u) (fun i => uH τ (hS (fun j k => mx k (Sy_figure s (nI j) σ)) i k)) _ 5 ?_ ?_ (n := 1100) (by decide)
    · intro n
      show M_mixSayings_L77 K (nI s) (n + 1) (nI 5) (uH τ _) = _
      rw [M_mixSayings_L77, if_pos (by decide)]
      rfl
    · intro j n hj
      show M_mixSayings_L77 K (nI s) (n + 1) (nI j) (uH τ _) = M_mixSayings_L77 K (nI s) n (nI (j + 1)) (uH τ _)
      rw [M_mixSayings_L77, if_neg (show ¬ (4 : Int32) < nI j from nI_nlt (a := 4) (by omega) (by decide)), told_eq (Inv_h h _) hs hj, Option.bind_some, mix_eq, Option.bind_some, nI_1]
      rfl
  have hin2 : ∀ (K : St → Option St) s k, s < nS τ → M_mixSayings_L100 K (nI s) 1100 0 (uH τ k) = K (uH τ (F4b τ s k)) := by
    intro K s k hs
    refine lpF (fun n j (u : St) => M_mixSayings_L100 K (nI s) n (nI j) u) (fun i => uH τ (hS (fun c k => mx k (τ.1 22 0 (5 * s + c))) i k)) _ 5 ?_ ?_ (n := 1100) (by decide)
    · intro n
      show M_mixSayings_L100 K (nI s) (n + 1) (nI 5) (uH τ _) = _
      rw [M_mixSayings_L100, if_pos (by decide)]
      rfl
    · intro j n hj
      show M_mixSayings_L100 K (nI s) (n + 1) (nI j) (uH τ _) = M_mixSayings_L100 K (nI s) n (nI (j + 1)) (uH τ _)
      rw [M_mixSayings_L100, if_neg (g5 hj), ix5, if_pos (inb_nI (by omega) (by decide)), nI_clamp (n := 5 * s + j) (by omega), mix_eq, Option.bind_some, nI_1]
      rfl
  refine lpF (fun n s (u : St) => M_mixSayings_L67 n (nI s) u) (fun i => uH τ (hS (fun s k => F4b τ s (F4a σ s k)) i h0)) _ (nS τ) ?_ ?_ (n := 1100) (by omega)
  · intro n
    show M_mixSayings_L67 (n + 1) (nI (nS τ)) (uH τ _) = _
    rw [M_mixSayings_L67, sY_1, e16, if_pos (nI_le (Nat.le_refl _) (by omega))]
  · intro s n hs
    show M_mixSayings_L67 (n + 1) (nI s) (uH τ _) = M_mixSayings_L67 n (nI (s + 1)) (uH τ _)
    rw [M_mixSayings_L67, sY_1, e16, if_neg (nI_ge hs (by omega)), hin _ s _ hs, hin2 _ s _ hs, nI_1]
    rfl
/-! prices, moves -/
theorem dg5_m {τ : St} (K : St → Option (Int64 × St)) (h0 : Int64) : M_digest_L36 K 1100 0 (uH τ h0) = K (uH τ (hS (fun j k => mx k (τ.1 24 0 j)) 3 h0)) := by
  refine lpF (fun n j (s : St) => M_digest_L36 K n (nI j) s) (fun i => uH τ (hS (fun j k => mx k (τ.1 24 0 j)) i h0)) _ 3 ?_ ?_ (n := 1100) (by decide)
  · intro n
    show M_digest_L36 K (n + 1) (nI 3) (uH τ _) = _
    rw [M_digest_L36, if_pos (by decide)]
  · intro j n hj
    show M_digest_L36 K (n + 1) (nI j) (uH τ _) = M_digest_L36 K n (nI (j + 1)) (uH τ _)
    rw [M_digest_L36, if_neg (show ¬ (3 : Int32) ≤ nI j from nI_ge (b := 3) hj (by decide)), if_pos (inb_nI hj (by decide)), nI_clamp (n := j) (by omega), mix_eq, Option.bind_some, nI_1]
    rfl
def F6 (σ : St) (m : Nat) (k : Int64) : Int64 := hS (fun j k => mx k (Mv_figure m (nI j) σ)) 3 k
theorem dg6_c {σ τ : St} (h : Inv σ τ) (h0 : Int64) : Pg_digestFrom h0 σ = some (hS (F6 σ) (nV τ) h0) := by
  have hV := h.w.nV40
  have hin : ∀ (K : Int64 → Option Int64) m k, m < nV τ → Pg_digestFrom_L17 K (nI m) σ 1100 k 0 = K (F6 σ m k) := by
    intro K m k hm
    refine lpF (fun n j (v : Int64) => Pg_digestFrom_L17 K (nI m) σ n v (nI j)) (fun i => hS (fun j k => mx k (Mv_figure m (nI j) σ)) i k) _ 3 ?_ ?_ (n := 1100) (by decide)
    · intro n
      show Pg_digestFrom_L17 K (nI m) σ (n + 1) _ (nI 3) = _
      rw [Pg_digestFrom_L17, if_pos (by decide)]
      rfl
    · intro j n hj
      show Pg_digestFrom_L17 K (nI m) σ (n + 1) _ (nI j) = Pg_digestFrom_L17 K (nI m) σ n _ (nI (j + 1))
      rw [Pg_digestFrom_L17, if_neg (show ¬ (3 : Int32) ≤ nI j from nI_ge (b := 3) hj (by decide)), if_pos (inb_nI (by omega) (by decide)), nI_clamp (n := m) (by omega), nI_1]
      rfl
  refine lpF (fun n m (v : Int64) => Pg_digestFrom_L5 σ n v (nI m)) (fun i => hS (F6 σ) i h0) _ (nV τ) ?_ ?_ (n := 1100) (by omega)
  · intro n
    show Pg_digestFrom_L5 σ (n + 1) _ (nI (nV τ)) = _
    rw [Pg_digestFrom_L5, (mvN h).2, if_pos (nI_le (Nat.le_refl _) (by omega))]
  · intro m n hm
    show Pg_digestFrom_L5 σ (n + 1) _ (nI m) = Pg_digestFrom_L5 σ n _ (nI (m + 1))
    rw [Pg_digestFrom_L5, (mvN h).2, if_neg (nI_ge hm (by omega)), hin _ m _ hm, nI_1]
    rfl
theorem dg6_m {σ τ : St} (h : Inv σ τ) (K : St → Option (Int64 × St)) (h0 : Int64) : M_digest_L59 K 1100 0 (uH τ h0) = K (uH τ (hS (F6 σ) (nV τ) h0)) := by
  have hV := h.w.nV40
  have hin : ∀ (K : St → Option (Int64 × St)) m k, m < nV τ → M_digest_L69 K (nI m) 1100 0 (uH τ k) = K (uH τ (F6 σ m k)) := by
    intro K m k hm
    refine lpF (fun n j (u : St) => M_digest_L69 K (nI m) n (nI j) u) (fun i => uH τ (hS (fun j k => mx k (Mv_figure m (nI j) σ)) i k)) _ 3 ?_ ?_ (n := 1100) (by decide)
    · intro n
      show M_digest_L69 K (nI m) (n + 1) (nI 3) (uH τ _) = _
      rw [M_digest_L69, if_pos (by decide)]
      rfl
    · intro j n hj
      show M_digest_L69 K (nI m) (n + 1) (nI j) (uH τ _) = M_digest_L69 K (nI m) n (nI (j + 1)) (uH τ _)
      rw [M_digest_L69, if_neg (show ¬ (2 : Int32) < nI j from nI_nlt (a := 2) (by omega) (by decide)), moved_eq (Inv_h h _) hm hj, Option.bind_some, mix_eq, Option.bind_some, nI_1]
      rfl
  refine lpF (fun n m (u : St) => M_digest_L59 K n (nI m) u) (fun i => uH τ (hS (F6 σ) i h0)) _ (nV τ) ?_ ?_ (n := 1100) (by omega)
  · intro n
    show M_digest_L59 K (n + 1) (nI (nV τ)) (uH τ _) = _
    rw [M_digest_L59, sY_1, (mvN h).1, if_pos (nI_le (Nat.le_refl _) (by omega))]
  · intro m n hm
    show M_digest_L59 K (n + 1) (nI m) (uH τ _) = M_digest_L59 K n (nI (m + 1)) (uH τ _)
    rw [M_digest_L59, sY_1, (mvN h).1, if_neg (nI_ge hm (by omega)), hin _ m _ hm, nI_1]
    rfl
/-! rows, texts -/
theorem tn9 : tn (-9) = 0 := by decide
theorem cSz9 : cSz (-9) = -1 := by decide
def F7 (τ : St) (r : Nat) (k : Int64) : Int64 := hS (fun i k => mx k (τ.1 6 0 (40 * r + i))) (tn (τ.1 5 0 r)) (mx k (cSz (τ.1 5 0 r)))
def F8 (τ : St) (r : Nat) (k : Int64) : Int64 := hS (fun i k => mx k (τ.1 9 0 (40 * r + i))) (tn (τ.1 8 0 r)) (mx k (cSz (τ.1 8 0 r)))
theorem rw_c {σ τ : St} (h : Inv σ τ) {r : Nat} (hr : r < 6) (k : Int64) : Rw_digestFrom r k σ = some (F7 τ r k) := by
  unfold Rw_digestFrom F7
  rcases row_sz h hr with ⟨e1, e2⟩ | ⟨n, hn, e1, e2⟩
  · rw [e1, e2, tn9, cSz9, show (1100 : Nat) = 1099 + 1 from rfl, Rw_digestFrom_L15, e2, if_pos (by decide)]
    rfl
  · rw [e1, e2, tn_nI (by omega), cSz_n hn]
    refine lpF (fun f i (v : Int64) => Rw_digestFrom_L15 r σ f v (nI i)) (fun i => hS (fun i k => mx k (τ.1 6 0 (40 * r + i))) i (mx k (nI n))) _ n ?_ ?_ (n := 1100) (by omega)
    · intro f
      show Rw_digestFrom_L15 r σ (f + 1) _ (nI n) = _
      rw [Rw_digestFrom_L15, e2, if_pos (nI_le (Nat.le_refl _) (by omega))]
    · intro i f hi
      show Rw_digestFrom_L15 r σ (f + 1) _ (nI i) = Rw_digestFrom_L15 r σ f _ (nI (i + 1))
      rw [Rw_digestFrom_L15, e2, if_neg (nI_ge hi (by omega)), if_pos (inb_nI (by omega) (by decide)), nI_clamp (n := i) (by omega), h.c.1.2 r hr i (by omega), nI_1]
      rfl
theorem tx_c {σ τ : St} (h : Inv σ τ) {r : Nat} (hr : r < 4) (k : Int64) : Tx_digestFrom r k σ = some (F8 τ r k) := by
  unfold Tx_digestFrom F8
  rcases text_sz h hr with ⟨e1, e2⟩ | ⟨n, hn, e1, e2⟩
  · rw [e1, e2, tn9, cSz9, show (1100 : Nat) = 1099 + 1 from rfl, Tx_digestFrom_L15, e2, if_pos (by decide)]
    rfl
  · rw [e1, e2, tn_nI (by omega), cSz_n hn]
    refine lpF (fun f i (v : Int64) => Tx_digestFrom_L15 r σ f v (nI i)) (fun i => hS (fun i k => mx k (τ.1 9 0 (40 * r + i))) i (mx k (nI n))) _ n ?_ ?_ (n := 1100) (by omega)
    · intro f
      show Tx_digestFrom_L15 r σ (f + 1) _ (nI n) = _
      rw [Tx_digestFrom_L15, e2, if_pos (nI_le (Nat.le_refl _) (by omega))]
    · intro i f hi
      show Tx_digestFrom_L15 r σ (f + 1) _ (nI i) = Tx_digestFrom_L15 r σ f _ (nI (i + 1))
      rw [Tx_digestFrom_L15, e2, if_neg (nI_ge hi (by omega)), if_pos (inb_nI (by omega) (by decide)), nI_clamp (n := i) (by omega), h.c.2.1.2 r hr i (by omega), nI_1]
      rfl
theorem dg7_c {σ τ : St} (h : Inv σ τ) (K : Int64 → Option Int64) (h0 : Int64) : Q_digest_L51 K σ 1100 h0 0 = K (hS (F7 τ) 6 h0) := by
  refine lpF (fun n r (v : Int64) => Q_digest_L51 K σ n v (nI r)) (fun i => hS (F7 τ) i h0) _ 6 ?_ ?_ (n := 1100) (by decide)
  · intro n
    show Q_digest_L51 K σ (n + 1) _ (nI 6) = _
    rw [Q_digest_L51, if_pos (by decide)]
  · intro r n hr
    show Q_digest_L51 K σ (n + 1) _ (nI r) = Q_digest_L51 K σ n _ (nI (r + 1))
    rw [Q_digest_L51, if_neg (show ¬ (6 : Int32) ≤ nI r from nI_ge (b := 6) hr (by decide)), if_pos (inb_nI hr (by decide)), nI_clamp (n := r) (by omega), rw_c h hr, Option.bind_some, nI_1]
    rfl
theorem dg8_c {σ τ : St} (h : Inv σ τ) (h0 : Int64) : Q_digest_L76 σ 1100 h0 0 = some (hS (F8 τ) 4 h0) := by
  refine lpF (fun n r (v : Int64) => Q_digest_L76 σ n v (nI r)) (fun i => hS (F8 τ) i h0) _ 4 ?_ ?_ (n := 1100) (by decide)
  · intro n
    show Q_digest_L76 σ (n + 1) _ (nI 4) = _
    rw [Q_digest_L76, if_pos (by decide)]
  · intro r n hr
    show Q_digest_L76 σ (n + 1) _ (nI r) = Q_digest_L76 σ n _ (nI (r + 1))
    rw [Q_digest_L76, if_neg (show ¬ (4 : Int32) ≤ nI r from nI_ge (b := 4) hr (by decide)), if_pos (inb_nI hr (by decide)), nI_clamp (n := r) (by omega), tx_c h hr, Option.bind_some, nI_1]
    rfl
theorem rw_m {σ τ : St} (h : Inv σ τ) {r : Nat} (hr : r < 6) (K : St → Option (Int64 × St)) (k : Int64) : M_digest_L129 K (nI r) 1100 0 (uH τ (mx k (cSz (τ.1 5 0 r)))) = K (uH τ (F7 τ r k)) := by
  unfold F7
  have hi : inb (nI r) 6 = true := inb_nI hr (by decide)
  have hc : (nI r).toNatClampNeg = r := nI_clamp (by omega)
  rcases row_sz h hr with ⟨e1, e2⟩ | ⟨n, hn, e1, e2⟩
  · rw [e1, tn9, show (1100 : Nat) = 1099 + 1 from rfl, M_digest_L129, if_pos hi, hc, sY_1, e1, if_pos (by decide)]
    rfl
  · rw [e1, tn_nI (by omega), cSz_n hn]
    refine lpF (fun f i (u : St) => M_digest_L129 K (nI r) f (nI i) u) (fun i => uH τ (hS (fun i k => mx k (τ.1 6 0 (40 * r + i))) i (mx k (nI n)))) _ n ?_ ?_ (n := 1100) (by omega)
    · intro f
      show M_digest_L129 K (nI r) (f + 1) (nI n) (uH τ _) = _
      rw [M_digest_L129, if_pos hi, hc, sY_1, e1, if_pos (nI_le (Nat.le_refl _) (by omega))]
    · intro i f hi'
      show M_digest_L129 K (nI r) (f + 1) (nI i) (uH τ _) = M_digest_L129 K (nI r) f (nI (i + 1)) (uH τ _)
      rw [M_digest_L129, if_pos hi, hc, sY_1, e1, if_neg (nI_ge hi' (by omega)), rowAt_eq _ hr (by omega), Option.bind_some, mix_eq, Option.bind_some, nI_1]
      rfl
theorem tx_m {σ τ : St} (h : Inv σ τ) {r : Nat} (hr : r < 4) (K : St → Option (Int64 × St)) (k : Int64) : M_digest_L193 K (nI r) 1100 0 (uH τ (mx k (cSz (τ.1 8 0 r)))) = K (uH τ (F8 τ r k)) := by
  unfold F8
  have hi : inb (nI r) 4 = true := inb_nI hr (by decide)
  have hc : (nI r).toNatClampNeg = r := nI_clamp (by omega)
  rcases text_sz h hr with ⟨e1, e2⟩ | ⟨n, hn, e1, e2⟩
  · rw [e1, tn9, show (1100 : Nat) = 1099 + 1 from rfl, M_digest_L193, if_pos hi, hc, sY_1, e1, if_pos (by decide)]
    rfl
  · rw [e1, tn_nI (by omega), cSz_n hn]
    refine lpF (fun f i (u : St) => M_digest_L193 K (nI r) f (nI i) u) (fun i => uH τ (hS (fun i k => mx k (τ.1 9 0 (40 * r + i))) i (mx k (nI n)))) _ n ?_ ?_ (n := 1100) (by omega)
    · intro f
      show M_digest_L193 K (nI r) (f + 1) (nI n) (uH τ _) = _
      rw [M_digest_L193, if_pos hi, hc, sY_1, e1, if_pos (nI_le (Nat.le_refl _) (by omega))]
    · intro i f hi'
      show M_digest_L193 K (nI r) (f + 1) (nI i) (uH τ _) = M_digest_L193 K (nI r) f (nI (i + 1)) (uH τ _)
      rw [M_digest_L193, if_pos hi, hc, sY_1, e1, if_neg (nI_ge hi' (by omega)), ix40, if_pos (inb_nI (by omega) (by decide)), nI_clamp (n := 40 * r + i) (by omega), mix_eq, Option.bind_some, nI_1]
      rfl
theorem dg7_m {σ τ : St} (h : Inv σ τ) (K : St → Option (Int64 × St)) (h0 : Int64) : M_digest_L98 K 1100 0 (uH τ h0) = K (uH τ (hS (F7 τ) 6 h0)) := by
  refine lpF (fun n r (u : St) => M_digest_L98 K n (nI r) u) (fun i => uH τ (hS (F7 τ) i h0)) _ 6 ?_ ?_ (n := 1100) (by decide)
  · intro n
    show M_digest_L98 K (n + 1) (nI 6) (uH τ _) = _
    rw [M_digest_L98, if_pos (by decide)]
  · intro r n hr
    show M_digest_L98 K (n + 1) (nI r) (uH τ (hS (F7 τ) r h0)) = M_digest_L98 K n (nI (r + 1)) (uH τ (F7 τ r (hS (F7 τ) r h0)))
    have hi : inb (nI r) 6 = true := inb_nI hr (by decide)
    have hJ : M_digest_J124 (M_digest_L98 K n) (nI r) (cSz (τ.1 5 0 r)) (uH τ (hS (F7 τ) r h0)) = M_digest_L98 K n (nI (r + 1)) (uH τ (F7 τ r (hS (F7 τ) r h0))) := by
      unfold M_digest_J124
      rw [mix_eq, Option.bind_some, rw_m h hr, nI_1]
    rw [M_digest_L98, if_neg (show ¬ (6 : Int32) ≤ nI r from nI_ge (b := 6) hr (by decide)), if_pos hi, if_pos hi, nI_clamp (n := r) (by omega), sY_1]
    rcases row_sz h hr with ⟨e1, e2⟩ | ⟨m, hm, e1, e2⟩
    · rw [e1, cSz9] at hJ
      rw [e1, if_neg (by decide)]; exact hJ
    · rw [e1, cSz_n hm] at hJ
      rw [e1, if_pos (nI_pos' (by omega))]; exact hJ
theorem dg8_m {σ τ : St} (h : Inv σ τ) (h0 : Int64) : M_digest_L163 1100 0 (uH τ h0) = some (hS (F8 τ) 4 h0, uH τ (hS (F8 τ) 4 h0)) := by
  refine lpF (fun n r (u : St) => M_digest_L163 n (nI r) u) (fun i => uH τ (hS (F8 τ) i h0)) _ 4 ?_ ?_ (n := 1100) (by decide)
  · intro n
    show M_digest_L163 (n + 1) (nI 4) (uH τ _) = _
    rw [M_digest_L163, if_pos (by decide), sY_at, if_pos rfl]
  · intro r n hr
    show M_digest_L163 (n + 1) (nI r) (uH τ (hS (F8 τ) r h0)) = M_digest_L163 n (nI (r + 1)) (uH τ (F8 τ r (hS (F8 τ) r h0)))
    have hi : inb (nI r) 4 = true := inb_nI hr (by decide)
    have hJ : M_digest_J188 (M_digest_L163 n) (nI r) (cSz (τ.1 8 0 r)) (uH τ (hS (F8 τ) r h0)) = M_digest_L163 n (nI (r + 1)) (uH τ (F8 τ r (hS (F8 τ) r h0))) := by
      unfold M_digest_J188
      rw [mix_eq, Option.bind_some, tx_m h hr, nI_1]
    rw [M_digest_L163, if_neg (show ¬ (4 : Int32) ≤ nI r from nI_ge (b := 4) hr (by decide)), if_pos hi, if_pos hi, nI_clamp (n := r) (by omega), sY_1]
    rcases text_sz h hr with ⟨e1, e2⟩ | ⟨m, hm, e1, e2⟩
    · rw [e1, cSz9] at hJ
      rw [e1, if_neg (by decide)]; exact hJ
    · rw [e1, cSz_n hm] at hJ
      rw [e1, if_pos (nI_pos' (by omega))]; exact hJ
theorem step_50 : Stp_50 Inv := by
  intro σ τ h
  have hm : ∃ k, Q_digest σ = some k ∧ M_digest τ = some (k, uH τ k) := by
    unfold Q_digest M_digest M_mixSayings Bk_digestFrom
    rw [dg1_c h, dg2_c h, dg3_c h, dg4_c h, Option.bind_some, dg6_c h, Option.bind_some, dg7_c h, dg8_c h, dg1_m h, dg2_m h.w, dg3_m h, dg4_m h, Option.bind_some, dg5_m, dg6_m h, dg7_m h, dg8_m h]
    refine ⟨_, rfl, ?_⟩
    have p0 := h.c.pr 0 (by decide)
    have p1 := h.c.pr 1 (by decide)
    have p2 := h.c.pr 2 (by decide)
    rw [p0, p1, p2]
    rfl
  obtain ⟨k, k1, k2⟩ := hm
  exact ⟨k, σ, uH τ k, ⟨k1, rfl⟩, k2, Inv_h h k⟩
