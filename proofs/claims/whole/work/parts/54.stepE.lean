/-! ===== the steps that ask the minds ===== -/
theorem mnd_view {τ u : St} (e : Eqm τ u) : s1 u = s1 τ ∧ s2 u = s2 τ ∧ lst u = lst τ ∧ chp u = chp τ ∧ kO u = kO τ ∧ ow u = ow τ := by
  obtain ⟨v1, v2, v3, v4, v5, v6, v7, v8, v9, v10, v11, v12⟩ := e.v
  obtain ⟨k1, k2⟩ := kO_congr v5 v3
  have kc : cR u = cR τ := by funext m r i; unfold cR; rw [k2, co_eqm e]
  have e1 : s1 u = s1 τ := by funext m r; unfold s1; rw [kc, k1]
  have e2 : s2 u = s2 τ := by funext m a b; unfold s2 pT; rw [kc, k1, e.1 24 rfl]
  have e3 : lst u = lst τ := by funext m; unfold lst; rw [e1]
  have e4 : chp u = chp τ := by funext m r; unfold chp; rw [e1, e3]
  exact ⟨e1, e2, e3, e4, k1, k2⟩
theorem Stl_eqm {τ u : St} (e : Eqm τ u) {m v l : Nat} {g : Int32} (h : Stl u m v l g) : Stl τ m v l g := by
  obtain ⟨e1, e2, e3, -⟩ := mnd_view e
  unfold Stl at h ⊢
  rw [e1, e2, e3] at h
  exact h
/-- the reference settles a master as his mind is -/
theorem settles_as {s τ u : St} (w : WF τ) {m : Nat} (hm : m < 1000) (hK : Mnd s τ m) (hu : Fr pScr τ u) : ∃ u', M_settles (nI m) u = some u' ∧ Fr pSt u u' ∧ u'.1 0 0 27 = s.1 24 m 1 ∧ u'.1 0 0 28 = s.1 24 m 2 ∧ u'.1 0 0 29 = s.1 24 m 3 := by
  obtain ⟨u', v, l, g, h1, h2, h3, h4, h5, h6⟩ := M_settles_eq (WF_eq hu.eqm w) hm
  obtain ⟨⟨v', l', g', k1, k2, k3, k4⟩, -⟩ := hK
  obtain ⟨a1, a2, a3⟩ := Stl_uniq (Stl_eqm hu.eqm h3) k1
  subst a1; subst a2; subst a3
  exact ⟨u', h1, h2, h4.trans k2.symm, h5.trans k3.symm, h6.trans k4.symm⟩
theorem setCheap_as {τ u : St} (w : WF τ) {m : Nat} (hm : m < 1000) (hu : Fr pScr τ u) : ∃ u', M_setCheap (nI m) u = some u' ∧ Fr pCh u u' ∧ ∀ r, r < 244 → u'.1 31 0 r = bI (chp τ m r) := by
  obtain ⟨u', h1, h2, h3⟩ := M_setCheap_eq (WF_eq hu.eqm w) hm
  obtain ⟨e1, e2, e3, e4, -⟩ := mnd_view hu.eqm
  rw [e4] at h3
  exact ⟨u', h1, h2, h3⟩
theorem Mnd_l {s τ : St} (w : WF τ) {m : Nat} (hK : Mnd s τ m) : ∃ l, l < 244 ∧ s.1 24 m 2 = nI l := by
  obtain ⟨⟨v, l, g, k1, k2, k3, k4⟩, -⟩ := hK
  exact ⟨l, (Stl_b w k1).2, k3⟩
theorem Inv_ms {s τ u : St} (h : Inv s τ) (hu : Fr pScr τ u) : Inv s u := Inv_frm hu h
theorem step_20 : Stp_20 Inv := by
  intro a1 σ τ h
  unfold Q_settle M_settle
  by_cases hx : ∃ j, j < nM τ ∧ a1 = nI j
  · obtain ⟨m, hm, rfl⟩ := hx
    have hM := h.w.nM8
    obtain ⟨s, s1, s2, s3, s4⟩ := settled_eq h
    obtain ⟨u, u1, u2, u3, u4, u5⟩ := settles_as h.w (m := m) (by omega) (s4 m hm) (Fr.rf _ τ)
    rw [if_neg (hasM_in h hm).1, if_neg (hasM_in h hm).2, s1, u1, Option.bind_some, Option.bind_some, if_pos (inb_nI (by omega) (by decide)), nI_clamp (n := m) (by omega), u3, u4]
    exact ⟨_, _, _, rfl, rfl, Inv_tell (Inv_ms s2 (u2.wk pSt_scr)) _⟩
  · rw [if_pos (hasM_out h hx).1, if_pos (hasM_out h hx).2]
    exact ⟨_, _, _, rfl, rfl, h⟩
theorem step_21 : Stp_21 Inv := by
  intro a1 σ τ h
  unfold Q_second M_second
  by_cases hx : ∃ j, j < nM τ ∧ a1 = nI j
  · obtain ⟨m, hm, rfl⟩ := hx
    have hM := h.w.nM8
    obtain ⟨s, s1, s2, s3, s4⟩ := settled_eq h
    obtain ⟨u, u1, u2, u3, u4, u5⟩ := settles_as h.w (m := m) (by omega) (s4 m hm) (Fr.rf _ τ)
    rw [if_neg (hasM_in h hm).1, if_neg (hasM_in h hm).2, s1, u1, Option.bind_some, Option.bind_some, if_pos (inb_nI (by omega) (by decide)), nI_clamp (n := m) (by omega), u5]
    exact ⟨_, _, _, rfl, rfl, Inv_ms s2 (u2.wk pSt_scr)⟩
  · rw [if_pos (hasM_out h hx).1, if_pos (hasM_out h hx).2]
    exact ⟨_, _, _, rfl, rfl, h⟩
/-! the cheap rules, one by one -/
def lastB (p : Nat → Bool) : Nat → Nat
  | 0 => 0
  | n + 1 => if p n = true then n else lastB p n
theorem lastB_ok (p : Nat → Bool) : ∀ n, 0 < cnt p n → p (lastB p n) = true ∧ lastB p n < n ∧ cnt p (lastB p n) + 1 = cnt p n := by
  intro n
  induction n with
  | zero => intro h; exact absurd h (Nat.lt_irrefl _)
  | succ n ih =>
    intro h
    unfold lastB
    have hc : cnt p (n + 1) = cnt p n + (if p n = true then 1 else 0) := rfl
    by_cases e : p n = true
    · rw [if_pos e]
      rw [if_pos e] at hc
      exact ⟨e, by omega, hc.symm⟩
    · rw [if_neg e]
      rw [if_neg e] at hc
      obtain ⟨h1, h2, h3⟩ := ih (by omega)
      exact ⟨h1, by omega, by omega⟩
theorem chp_pos {τ : St} (m : Nat) : 0 < cnt (chp τ m) 244 := by
  have h1 := fmI_lt (s1 τ m) 244 (by decide)
  have h2 : chp τ m (fmI (s1 τ m) 244) = true := by unfold chp lst; simp
  have := cnt_lt (chp τ m) h1 h2
  omega
theorem bI_0 (b : Bool) : (bI b = 0) ↔ b = false := by cases b <;> decide
theorem cheap_lp {u : St} {p : Nat → Bool} (hp : ∀ r, r < 244 → u.1 31 0 r = bI (p r)) (K : Int32 → Int32 → St → Option (Int32 × St)) : M_cheap_L22 K 1100 0 0 0 u = K (nI (cnt p 244)) (nI (lastB p 244)) u := by
  refine lpF (fun n r (v : Int32 × Int32) => M_cheap_L22 K n v.1 v.2 (nI r) u) (fun i => (nI (cnt p i), nI (lastB p i))) _ 244 ?_ ?_ (n := 1100) (by decide)
  · intro n
    show M_cheap_L22 K (n + 1) _ _ (nI 244) u = _
    rw [M_cheap_L22, if_pos (by decide)]
  · intro r n hr
    show M_cheap_L22 K (n + 1) (nI (cnt p r)) (nI (lastB p r)) (nI r) u = M_cheap_L22 K n (nI (cnt p r + if p r = true then 1 else 0)) (nI (if p r = true then r else lastB p r)) (nI (r + 1)) u
    rw [M_cheap_L22, if_neg (g244 hr), if_pos (inb_nI hr (by decide)), if_pos (inb_nI hr (by decide)), nI_clamp (n := r) (by omega), hp r hr, nI_1]
    cases p r
    · rw [if_pos (show bI false = 0 from rfl), if_pos (show bI false = 0 from rfl), if_neg (by decide), if_neg (by decide), Int32.add_zero]; rfl
    · rw [if_neg (show ¬ bI true = 0 from by decide), if_neg (show ¬ bI true = 0 from by decide), if_pos rfl, if_pos rfl, nI_1]
theorem step_22 : Stp_22 Inv := by
  intro a1 σ τ h
  unfold Q_cheap M_cheap
  by_cases hx : ∃ j, j < nM τ ∧ a1 = nI j
  · obtain ⟨m, hm, rfl⟩ := hx
    have hM := h.w.nM8
    obtain ⟨s, s1, s2, s3, s4⟩ := settled_eq h
    obtain ⟨u, u1, u2, u3⟩ := setCheap_as h.w (m := m) (by omega) (Fr.rf _ τ)
    obtain ⟨-, k5, k25, -, -⟩ := s4 m hm
    have hpos := chp_pos (τ := τ) m
    have hle := cnt_le (chp τ m) 244
    obtain ⟨l1, l2, l3⟩ := lastB_ok (chp τ m) 244 hpos
    have hlc : Mi_lastCheap m s = some (nI (lastB (chp τ m) 244)) := by
      unfold Mi_lastCheap
      have e : nI (cnt (chp τ m) 244) - 1 = nI (cnt (chp τ m) (lastB (chp τ m) 244)) := by rw [← l3]; exact nI_pred _
      rw [k5, if_neg (nI_nle hpos (by omega)), e, if_pos (inb_nI (by omega) (by decide)), nI_clamp (by omega), k25 _ l2 l1]
    rw [if_neg (hasM_in h hm).1, if_neg (hasM_in h hm).2, s1, u1, Option.bind_some, Option.bind_some, if_pos (inb_nI (by omega) (by decide)), nI_clamp (n := m) (by omega), hlc, Option.bind_some, k5, cheap_lp u3]
    exact ⟨_, _, _, rfl, rfl, Inv_tell (Inv_ms s2 (u2.wk pCh_scr)) _⟩
  · rw [if_pos (hasM_out h hx).1, if_pos (hasM_out h hx).2]
    exact ⟨_, _, _, rfl, rfl, h⟩
theorem cheapAt_lp {u : St} {p : Nat → Bool} (hp : ∀ r, r < 244 → u.1 31 0 r = bI (p r)) {i : Nat} (hi : i < 2 ^ 31) : ∃ x, M_cheapAt_L24 (nI i) 1100 0 0 u = some (x, u) ∧ ((x = -9 ∧ cnt p 244 ≤ i) ∨ ∃ r, r < 244 ∧ p r = true ∧ cnt p r = i ∧ x = nI r) := by
  refine lpE (fun n r v => M_cheapAt_L24 (nI i) n v (nI r) u) (fun r v => v = nI (cnt p r) ∧ cnt p r ≤ i) (fun o => ∃ x, o = some (x, u) ∧ ((x = -9 ∧ cnt p 244 ≤ i) ∨ ∃ r, r < 244 ∧ p r = true ∧ cnt p r = i ∧ x = nI r)) 244 ?_ ?_ 244 0 1100 (0 : Int32) (by decide) (by decide) ⟨rfl, Nat.zero_le _⟩
  · intro n v hv
    refine ⟨-9, ?_, Or.inl ⟨rfl, hv.2⟩⟩
    show M_cheapAt_L24 (nI i) (n + 1) v (nI 244) u = _
    rw [M_cheapAt_L24, if_pos (by decide)]
  · intro r n v hr hv
    obtain ⟨e, hle⟩ := hv
    subst e
    have hc : cnt p (r + 1) = cnt p r + (if p r = true then 1 else 0) := rfl
    have hcl := cnt_le p r
    have heq := nI_eq (a := cnt p r) (b := i) (by omega) hi
    cases hb : p r with
    | false =>
      right
      refine ⟨nI (cnt p r), ?_, ?_⟩
      · show M_cheapAt_L24 (nI i) (n + 1) (nI (cnt p r)) (nI r) u = M_cheapAt_L24 (nI i) n _ (nI (r + 1)) u
        rw [M_cheapAt_L24, if_neg (g244 hr), if_pos (inb_nI hr (by decide)), nI_clamp (n := r) (by omega), hp r hr, hb, if_pos (show bI false = 0 from rfl)]
        unfold M_cheapAt_J53
        rw [nI_1]
      · rw [hb, if_neg (by decide), Nat.add_zero] at hc
        rw [hc]
        exact ⟨rfl, hle⟩
    | true =>
      rw [hb, if_pos rfl] at hc
      by_cases c : cnt p r = i
      · left
        refine ⟨nI r, ?_, Or.inr ⟨r, hr, hb, c, rfl⟩⟩
        show M_cheapAt_L24 (nI i) (n + 1) (nI (cnt p r)) (nI r) u = _
        rw [M_cheapAt_L24, if_neg (g244 hr), if_pos (inb_nI hr (by decide)), nI_clamp (n := r) (by omega), hp r hr, hb, if_neg (show ¬ bI true = 0 from by decide), if_pos (heq.mpr c)]
      · right
        refine ⟨nI (cnt p r + 1), ?_, ?_⟩
        · show M_cheapAt_L24 (nI i) (n + 1) (nI (cnt p r)) (nI r) u = M_cheapAt_L24 (nI i) n _ (nI (r + 1)) u
          rw [M_cheapAt_L24, if_neg (g244 hr), if_pos (inb_nI hr (by decide)), nI_clamp (n := r) (by omega), hp r hr, hb, if_neg (show ¬ bI true = 0 from by decide), if_neg (fun x => c (heq.mp x))]
          unfold M_cheapAt_J53
          rw [nI_1, nI_1]
        · rw [hc]
          exact ⟨rfl, by omega⟩
theorem step_23 : Stp_23 Inv := by
  intro a1 a2 σ τ h
  unfold Q_cheapAt M_cheapAt
  by_cases hx : ∃ j, j < nM τ ∧ a1 = nI j
  · obtain ⟨m, hm, rfl⟩ := hx
    rw [if_neg (hasM_in h hm).1, if_neg (hasM_in h hm).2]
    by_cases h0 : 0 ≤ a2
    · obtain ⟨i, hi, rfl⟩ := nI_of (Int32.not_lt.mpr h0)
      have hM := h.w.nM8
      obtain ⟨s, s1, s2, s3, s4⟩ := settled_eq h
      obtain ⟨u, u1, u2, u3⟩ := setCheap_as h.w (m := m) (by omega) (Fr.rf _ τ)
      obtain ⟨-, k5, k25, -, -⟩ := s4 m hm
      have hle := cnt_le (chp τ m) 244
      obtain ⟨x, x1, x2⟩ := cheapAt_lp u3 hi
      rw [if_pos h0, if_pos h0, s1, u1, Option.bind_some, Option.bind_some, if_pos (inb_nI (by omega) (by decide)), nI_clamp (n := m) (by omega), k5, x1]
      refine ⟨x, s, u, ?_, rfl, Inv_ms s2 (u2.wk pCh_scr)⟩
      rcases x2 with ⟨e, hN⟩ | ⟨r, hr, hc, he, e⟩
      · rw [if_pos (nI_le hN hi), e]
      · have hlt := cnt_lt (chp τ m) hr hc
        rw [if_neg (nI_ge (by omega) (by omega)), if_pos (inb_nI (by omega) (by decide)), nI_clamp hi, ← he, k25 r hr hc, e]
    · rw [if_neg h0, if_neg h0]
      exact ⟨_, _, _, rfl, rfl, h⟩
  · rw [if_pos (hasM_out h hx).1, if_pos (hasM_out h hx).2]
    exact ⟨_, _, _, rfl, rfl, h⟩
/-! all -/
def sI (g : Nat → Int32) : Nat → Int32
  | 0 => 0
  | n + 1 => sI g n + g n
theorem pSt_tr {τ u u' : St} (h : Fr pScr τ u) (h' : Fr pSt u u') : Fr pScr τ u' := h.tr (h'.wk pSt_scr)
theorem pCh_tr {τ u u' : St} (h : Fr pScr τ u) (h' : Fr pCh u u') : Fr pScr τ u' := h.tr (h'.wk pCh_scr)
theorem nMt {τ u : St} (w : WF τ) (h : Fr pScr τ u) : u.1 0 0 12 = nI (nM τ) := (h.2 _ _ _ rfl).trans w.1.2.1.1
theorem nMs {s τ : St} (h : Inv s τ) : s.1 3 0 5 = nI (nM τ) := h.c.mas.1.trans h.w.1.2.1.1
theorem step_24 : Stp_24 Inv := by
  intro σ τ h
  unfold Q_all M_all
  have hM := h.w.nM8
  obtain ⟨s, s1, s2, s3, s4⟩ := settled_eq h
  rw [s1, Option.bind_some]
  have hq : Q_all_L12 1100 0 0 s = some (sI (fun m => s.1 24 m 1) (nM τ), s) := by
    refine lpF (fun n m v => Q_all_L12 n v (nI m) s) (sI (fun m => s.1 24 m 1)) _ (nM τ) ?_ ?_ (n := 1100) (by omega)
    · intro n
      show Q_all_L12 (n + 1) _ (nI (nM τ)) s = _
      rw [Q_all_L12, nMs s2, if_pos (nI_le (Nat.le_refl _) (by omega))]
    · intro m n hm
      show Q_all_L12 (n + 1) _ (nI m) s = Q_all_L12 n _ (nI (m + 1)) s
      rw [Q_all_L12, nMs s2, if_neg (nI_ge hm (by omega)), if_pos (inb_nI (by omega) (by decide)), nI_clamp (n := m) (by omega), nI_1]
      rfl
  have hm : ∃ p : Int32 × St, M_all_L4 1100 0 0 τ = some (p.1, p.2) ∧ p.1 = sI (fun m => s.1 24 m 1) (nM τ) ∧ Fr pScr τ p.2 := by
    refine lpU (fun n m (p : Int32 × St) => M_all_L4 n p.1 (nI m) p.2) (fun m p => p.1 = sI (fun m => s.1 24 m 1) m ∧ Fr pScr τ p.2) (fun p => some (p.1, p.2)) (nM τ) ?_ ?_ (n := 1100) (s := (0, τ)) (by omega) ⟨rfl, Fr.rf _ _⟩
    · intro n p hp
      show M_all_L4 (n + 1) p.1 (nI (nM τ)) p.2 = _
      rw [M_all_L4, nMt h.w hp.2, if_pos (nI_le (Nat.le_refl _) (by omega))]
    · intro m n p hm hp
      obtain ⟨u, u1, u2, u3, u4, u5⟩ := settles_as h.w (m := m) (by omega) (s4 m hm) hp.2
      refine ⟨(sI (fun m => s.1 24 m 1) (m + 1), u), ?_, rfl, pSt_tr hp.2 u2⟩
      show M_all_L4 (n + 1) p.1 (nI m) p.2 = M_all_L4 n _ (nI (m + 1)) u
      rw [M_all_L4, nMt h.w hp.2, if_neg (nI_ge hm (by omega)), u1, Option.bind_some, u3, hp.1, nI_1]
      rfl
  obtain ⟨p, p1, p2, p3⟩ := hm
  rw [p2] at p1
  exact ⟨_, s, p.2, hq, p1, Inv_ms s2 p3⟩
/-! against -/
theorem or0 (v : Int32) : v ||| 0 = v := by
  apply Int32.toBitVec_inj.mp
  apply BitVec.eq_of_toNat_eq
  rw [Int32.toBitVec_or, BitVec.toNat_or, show (0 : Int32).toBitVec.toNat = 0 from rfl, Nat.or_zero]
theorem setRules_eq {s τ : St} (w : WF τ) (hK : ∀ m, m < nM τ → Mnd s τ m) : ∃ u, M_setRules τ = some u ∧ Fr pScr τ u ∧ ∀ m, m < nM τ → u.1 32 0 m = s.1 24 m 2 := by
  have hM := w.nM8
  refine lpU (fun n m u => M_setRules_L2 n (nI m) u) (fun m u => Fr pScr τ u ∧ ∀ k, k < m → u.1 32 0 k = s.1 24 k 2) some (nM τ) ?_ ?_ (n := 1100) (s := τ) (by omega) ⟨Fr.rf _ _, fun k hk => absurd hk (Nat.not_lt_zero _)⟩
  · intro n u hp
    show M_setRules_L2 (n + 1) (nI (nM τ)) u = some u
    rw [M_setRules_L2, nMt w hp.1, if_pos (nI_le (Nat.le_refl _) (by omega))]
  · intro m n u hm hp
    obtain ⟨u', u1, u2, u3, u4, u5⟩ := settles_as w (m := m) (by omega) (hK m hm) hp.1
    refine ⟨sX u' 32 0 m (s.1 24 m 2), ?_, (pSt_tr hp.1 u2).st _ _ _ _ rfl, ?_⟩
    · show M_setRules_L2 (n + 1) (nI m) u = M_setRules_L2 n (nI (m + 1)) _
      rw [M_setRules_L2, nMt w hp.1, if_neg (nI_ge hm (by omega)), u1, Option.bind_some, if_pos (inb_nI (by omega) (by decide)), nI_clamp (n := m) (by omega), u4, nI_1]
    · intro k hk
      by_cases e : k = m
      · subst e; rw [sX_s]
      · rw [sX_o (by omega), u2.2 32 0 k rfl]; exact hp.2 k (by omega)
/-- whom a saying is against: bits -/
def opp (s τ : St) (y : Nat) : Nat → Int32
  | 0 => 0
  | m + 1 => if m ≠ sm τ y ∧ 0 < kO τ m ∧ vd (tn (s.1 24 m 2)) (sx τ y) ≠ sa τ y then opp s τ y m ||| ((1 : Int32) <<< (nI m &&& 31)) else opp s τ y m
theorem kO_le0 {τ : St} (w : WF τ) (m : Nat) : (nI (kO τ m) ≤ 0) ↔ ¬ 0 < kO τ m := by
  have hk := w.k9 m
  have := nI_leI (a := kO τ m) (b := 0) (by omega) (by decide)
  rw [show (0 : Int32) = nI 0 from rfl, this]
  omega
theorem spoken_eq {s τ : St} (h : Inv s τ) {m : Nat} (hm : m < nM τ) : (Ms_hasSpoken m s = 0) ↔ ¬ 0 < kO τ m := by
  have hM := h.w.nM8
  unfold Ms_hasSpoken
  rw [h.c.many (by omega)]
  have := kO_le0 h.w m
  by_cases c : 0 < kO τ m
  · rw [if_neg (fun x => this.mp x c)]
    exact ⟨fun x => absurd x (by decide), fun x => absurd c x⟩
  · rw [if_pos (this.mpr c)]
    exact ⟨fun _ => c, fun _ => rfl⟩
theorem opponents_eq {s τ : St} (h : Inv s τ) (hK : ∀ m, m < nM τ → Mnd s τ m) {y : Nat} (hy : y < nS τ) : Bk_opponents (nI y) s = some (opp s τ y (nM τ)) := by
  have hM := h.w.nM8
  have hS := h.w.nS24
  obtain ⟨t1, t2, t3, t4, t5, t6, t7, t8⟩ := h.c.tr h.w hy
  have hsm := h.w.say y hy
  have e0 : s.1 26 y 0 = nI (sm τ y) := (h.c.say.2.1 y hy).1.trans hsm.1.1
  unfold Bk_opponents
  rw [if_pos (inb_nI (by omega) (by decide)), nI_clamp (n := y) (by omega)]
  refine lpF (fun n m v => Bk_opponents_L13 (nI y) y s n v (nI m)) (opp s τ y) _ (nM τ) ?_ ?_ (n := 1100) (by omega)
  · intro n
    show Bk_opponents_L13 (nI y) y s (n + 1) _ (nI (nM τ)) = _
    rw [Bk_opponents_L13, nMs h, if_pos (nI_le (Nat.le_refl _) (by omega))]
  · intro m n hm
    show Bk_opponents_L13 (nI y) y s (n + 1) (opp s τ y m) (nI m) = Bk_opponents_L13 (nI y) y s n (if m ≠ sm τ y ∧ 0 < kO τ m ∧ vd (tn (s.1 24 m 2)) (sx τ y) ≠ sa τ y then opp s τ y m ||| ((1 : Int32) <<< (nI m &&& 31)) else opp s τ y m) (nI (m + 1))
    have heq := nI_eq (a := m) (b := sm τ y) (by omega) (by have := hsm.1.2; omega)
    obtain ⟨l, hl, el⟩ := Mnd_l h.w (hK m hm)
    rw [Bk_opponents_L13, nMs h, if_neg (nI_ge hm (by omega)), if_pos (inb_nI (by omega) (by decide)), e0, nI_clamp (n := m) (by omega)]
    unfold Bk_opponents_J84
    rw [nI_1]
    by_cases c1 : m = sm τ y
    · rw [if_pos (heq.mpr c1), if_neg (fun x => x.1 c1)]
    · rw [if_neg (fun x => c1 (heq.mp x))]
      by_cases c2 : 0 < kO τ m
      · rw [if_neg (fun x => (spoken_eq h hm).mp x c2), caseTr_eq h.w h.c hy, Option.bind_some, el, Ru_verdict_eq h.c.rul.1 hl t4, Option.bind_some, t5, tn_nI (by omega)]
        have hv := vd_eq (r := l) (x := sx τ y) t6
        by_cases c3 : vd l (sx τ y) = sa τ y
        · rw [if_pos (hv.mpr c3), if_neg (fun x => x.2.2 c3)]
        · rw [if_neg (fun x => c3 (hv.mp x)), if_pos ⟨c1, c2, c3⟩]
      · rw [if_pos ((spoken_eq h hm).mpr c2), if_neg (fun x => c2 x.2.1)]
theorem againstOf_eq {s τ u : St} (h : Inv s τ) (hK : ∀ m, m < nM τ → Mnd s τ m) (hu : Fr pScr τ u) (h32 : ∀ m, m < nM τ → u.1 32 0 m = s.1 24 m 2) {y : Nat} (hy : y < nS τ) : M_againstOf (nI y) u = some (opp s τ y (nM τ)) := by
  have hM := h.w.nM8
  have hS := h.w.nS24
  obtain ⟨o1, ⟨o2, o3⟩, ⟨o4, o5⟩, ⟨o6, o7⟩, o8⟩ := wfS h.w hy
  have hsm := h.w.say y hy
  have e17 : u.1 17 0 y = nI (sm τ y) := (hu.2 _ _ _ rfl).trans hsm.1.1
  have e18 : u.1 18 0 y = nI (sc τ y) := (hu.2 _ _ _ rfl).trans o2
  have e11 : u.1 11 0 (sc τ y) = nI (sx τ y) := (hu.2 _ _ _ rfl).trans o4
  have e20 : u.1 20 0 y = nI (sa τ y) := (hu.2 _ _ _ rfl).trans o6
  refine lpF (fun n m v => M_againstOf_L4 (nI y) u n v (nI m)) (opp s τ y) _ (nM τ) ?_ ?_ (n := 1100) (by omega)
  · intro n
    show M_againstOf_L4 (nI y) u (n + 1) _ (nI (nM τ)) = _
    rw [M_againstOf_L4, nMt h.w hu, if_pos (nI_le (Nat.le_refl _) (by omega))]
  · intro m n hm
    show M_againstOf_L4 (nI y) u (n + 1) (opp s τ y m) (nI m) = M_againstOf_L4 (nI y) u n (if m ≠ sm τ y ∧ 0 < kO τ m ∧ vd (tn (s.1 24 m 2)) (sx τ y) ≠ sa τ y then opp s τ y m ||| ((1 : Int32) <<< (nI m &&& 31)) else opp s τ y m) (nI (m + 1))
    have heq := nI_eq (a := m) (b := sm τ y) (by omega) (by have := hsm.1.2; omega)
    obtain ⟨l, hl, el⟩ := Mnd_l h.w (hK m hm)
    have hso : M_sayingsOf (nI m) u = some (nI (kO τ m)) := by
      rw [sayingsOf_eq (WF_eq hu.eqm h.w) (by omega), (mnd_view hu.eqm).2.2.2.2.1]
    have hiy : inb (nI y) 24 = true := inb_nI (by omega) (by decide)
    rw [M_againstOf_L4, nMt h.w hu, if_neg (nI_ge hm (by omega)), if_pos hiy, nI_clamp (n := y) (by omega), e17, hso, Option.bind_some]
    unfold M_againstOf_J66 M_againstOf_J67
    rw [or0, nI_1]
    by_cases c1 : m = sm τ y
    · rw [if_pos (heq.mpr c1), if_neg (fun x => x.1 c1)]
    · rw [if_neg (fun x => c1 (heq.mp x))]
      by_cases c2 : 0 < kO τ m
      · rw [if_neg (fun x => (kO_le0 h.w m).mp x c2), if_pos (inb_nI (by omega) (by decide)), if_pos hiy, e18, if_pos (inb_nI o3 (by decide)), nI_clamp (n := sc τ y) (by omega), e11, nI_clamp (n := m) (by omega), h32 m hm, el, M_answer_eq hl o5, Option.bind_some, if_pos hiy, e20, tn_nI (by omega)]
        have hv := vd_eq (r := l) (x := sx τ y) o7
        by_cases c3 : vd l (sx τ y) = sa τ y
        · rw [if_pos (hv.mpr c3), if_neg (fun x => x.2.2 c3), or0]
        · rw [if_neg (fun x => c3 (hv.mp x)), if_pos ⟨c1, c2, c3⟩]
      · rw [if_pos ((kO_le0 h.w m).mpr c2), if_neg (fun x => c2 x.2.1)]
theorem step_25 : Stp_25 Inv := by
  intro a1 σ τ h
  unfold Q_against M_against
  by_cases hx : ∃ j, j < nS τ ∧ a1 = nI j
  · obtain ⟨y, hy, rfl⟩ := hx
    obtain ⟨s, s1, s2, s3, s4⟩ := settled_eq h
    obtain ⟨u, u1, u2, u3⟩ := setRules_eq h.w s4
    rw [if_neg (hasS_in h hy).1, if_neg (hasS_in h hy).2, s1, u1, Option.bind_some, Option.bind_some, opponents_eq s2 s4 hy, againstOf_eq s2 s4 u2 u3 hy]
    exact ⟨_, _, _, rfl, rfl, Inv_ms s2 u2⟩
  · rw [if_pos (hasS_out h hx).1, if_pos (hasS_out h hx).2]
    exact ⟨_, _, _, rfl, rfl, h⟩
/-! nobody -/
def fB (p : Nat → Bool) : Nat → Int32
  | 0 => -9
  | n + 1 => if p n = true ∧ cnt p n = 0 then nI n else fB p n
def dF (p : Nat → Bool) (N : Nat) : Nat → Int32
  | 0 => -9
  | d + 1 => if p (N - (d + 1)) = true then nI (N - (d + 1)) else dF p N d
theorem fB_no (p : Nat → Bool) : ∀ n, cnt p n = 0 → fB p n = -9 := by
  intro n
  induction n with
  | zero => intro _; rfl
  | succ n ih =>
    intro h
    have hc : cnt p (n + 1) = cnt p n + (if p n = true then 1 else 0) := rfl
    unfold fB
    by_cases e : p n = true
    · rw [if_pos e] at hc; omega
    · rw [if_neg e] at hc
      rw [if_neg (fun x => e x.1)]
      exact ih (by omega)
theorem fB_dF (p : Nat → Bool) (N : Nat) : ∀ d i, i + d = N → fB p N = if cnt p i = 0 then dF p N d else fB p i := by
  intro d
  induction d with
  | zero =>
    intro i hi
    have e : i = N := by omega
    subst e
    by_cases c : cnt p i = 0
    · rw [if_pos c]; exact fB_no p i c
    · rw [if_neg c]
  | succ d ih =>
    intro i hi
    have hc : cnt p (i + 1) = cnt p i + (if p i = true then 1 else 0) := rfl
    have e : N - (d + 1) = i := by omega
    have hf : fB p (i + 1) = if p i = true ∧ cnt p i = 0 then nI i else fB p i := rfl
    have hd : dF p N (d + 1) = if p (N - (d + 1)) = true then nI (N - (d + 1)) else dF p N d := rfl
    rw [ih (i + 1) (by omega), hf, hd, e]
    by_cases c : p i = true
    · rw [if_pos c] at hc
      rw [if_neg (by omega), if_pos c]
      by_cases c0 : cnt p i = 0
      · rw [if_pos ⟨c, c0⟩, if_pos c0]
      · rw [if_neg (fun x => c0 x.2), if_neg c0]
    · rw [if_neg c, Nat.add_zero (cnt p i)] at hc
      rw [hc, if_neg (show ¬ (p i = true ∧ cnt p i = 0) from fun x => c x.1), if_neg c]
theorem step_26 : Stp_26 Inv := by
  intro σ τ h
  unfold Q_nobody M_nobody
  have hS := h.w.nS24
  obtain ⟨s, s1, s2, s3, s4⟩ := settled_eq h
  obtain ⟨u, u1, u2, u3⟩ := setRules_eq h.w s4
  rw [s1, u1, Option.bind_some, Option.bind_some]
  have e7 : s.1 3 0 7 = nI (nS τ) := s2.c.say.1.trans s2.w.1.2.2.1.1
  have e16 : u.1 0 0 16 = nI (nS τ) := (u2.2 _ _ _ rfl).trans h.w.1.2.2.1.1
  have hq : ∀ K, Q_nobody_L16 K 1100 (-9) 0 0 s = K (fB (fun y => decide (opp s τ y (nM τ) = 0)) (nS τ)) (nI (cnt (fun y => decide (opp s τ y (nM τ) = 0)) (nS τ))) s := by
    intro K
    refine lpF (fun n y (v : Int32 × Int32) => Q_nobody_L16 K n v.1 v.2 (nI y) s) (fun i => (fB (fun y => decide (opp s τ y (nM τ) = 0)) i, nI (cnt (fun y => decide (opp s τ y (nM τ) = 0)) i))) _ (nS τ) ?_ ?_ (n := 1100) (by omega)
    · intro n
      show Q_nobody_L16 K (n + 1) _ _ (nI (nS τ)) s = _
      rw [Q_nobody_L16, e7, if_pos (nI_le (Nat.le_refl _) (by omega))]
    · intro y n hy
      show Q_nobody_L16 K (n + 1) (fB (fun y => decide (opp s τ y (nM τ) = 0)) y) (nI (cnt (fun y => decide (opp s τ y (nM τ) = 0)) y)) (nI y) s = Q_nobody_L16 K n (if decide (opp s τ y (nM τ) = 0) = true ∧ cnt (fun y => decide (opp s τ y (nM τ) = 0)) y = 0 then nI y else fB (fun y => decide (opp s τ y (nM τ) = 0)) y) (nI (cnt (fun y => decide (opp s τ y (nM τ) = 0)) y + if decide (opp s τ y (nM τ) = 0) = true then 1 else 0)) (nI (y + 1)) s
      have hcl := cnt_le (fun y => decide (opp s τ y (nM τ) = 0)) y
      rw [Q_nobody_L16, e7, if_neg (nI_ge hy (by omega)), opponents_eq s2 s4 hy, Option.bind_some]
      unfold Q_nobody_J51 Q_nobody_J54
      by_cases c : opp s τ y (nM τ) = 0
      · rw [if_pos c, if_pos (decide_eq_true c)]
        by_cases c0 : cnt (fun y => decide (opp s τ y (nM τ) = 0)) y = 0
        · rw [if_pos (show nI (cnt (fun y => decide (opp s τ y (nM τ) = 0)) y) = 0 from by rw [c0]; rfl), if_pos (And.intro (decide_eq_true c) c0), nI_1, nI_1]
        · rw [if_neg (nI_ne0 (by omega) (by omega)), if_neg (fun x => c0 x.2), nI_1, nI_1]
      · rw [if_neg c, if_neg (fun x => c (of_decide_eq_true x.1)), if_neg (fun x => c (of_decide_eq_true x)), Nat.add_zero, nI_1]
  have hm : ∀ K, M_nobody_L16 K 1100 0 (-9) (nI (nS τ) - 1) u = K (nI (cnt (fun y => decide (opp s τ y (nM τ) = 0)) (nS τ))) (dF (fun y => decide (opp s τ y (nM τ) = 0)) (nS τ) (nS τ)) u := by
    intro K
    have hh := lpF (fun n d (v : Int32 × Int32) => M_nobody_L16 K n v.1 v.2 (nI (nS τ - d) - 1) u) (fun d => (nI (cnt (fun y => decide (opp s τ y (nM τ) = 0)) (nS τ) - cnt (fun y => decide (opp s τ y (nM τ) = 0)) (nS τ - d)), dF (fun y => decide (opp s τ y (nM τ) = 0)) (nS τ) d)) (K (nI (cnt (fun y => decide (opp s τ y (nM τ) = 0)) (nS τ))) (dF (fun y => decide (opp s τ y (nM τ) = 0)) (nS τ) (nS τ)) u) (nS τ) (by
      intro n
      show M_nobody_L16 K (n + 1) _ _ (nI (nS τ - nS τ) - 1) u = _
      rw [Nat.sub_self, M_nobody_L16, if_pos (by decide)]
      rfl) (by
      intro d n hd
      show M_nobody_L16 K (n + 1) (nI (cnt (fun y => decide (opp s τ y (nM τ) = 0)) (nS τ) - cnt (fun y => decide (opp s τ y (nM τ) = 0)) (nS τ - d))) (dF (fun y => decide (opp s τ y (nM τ) = 0)) (nS τ) d) (nI (nS τ - d) - 1) u = M_nobody_L16 K n (nI (cnt (fun y => decide (opp s τ y (nM τ) = 0)) (nS τ) - cnt (fun y => decide (opp s τ y (nM τ) = 0)) (nS τ - (d + 1)))) (if decide (opp s τ (nS τ - (d + 1)) (nM τ) = 0) = true then nI (nS τ - (d + 1)) else dF (fun y => decide (opp s τ y (nM τ) = 0)) (nS τ) d) (nI (nS τ - (d + 1)) - 1) u
      obtain ⟨y, hy⟩ : ∃ y, nS τ - d = y + 1 := ⟨nS τ - d - 1, by omega⟩
      have hy2 : nS τ - (d + 1) = y := by omega
      have hmono := cnt_mono (fun y => decide (opp s τ y (nM τ) = 0)) (show y + 1 ≤ nS τ by omega)
      have hc : cnt (fun y => decide (opp s τ y (nM τ) = 0)) (y + 1) = cnt (fun y => decide (opp s τ y (nM τ) = 0)) y + if decide (opp s τ y (nM τ) = 0) = true then 1 else 0 := rfl
      rw [hy, hy2, nI_pred, M_nobody_L16, if_neg (nI_pos (by omega)), againstOf_eq s2 s4 u2 u3 (by omega), Option.bind_some]
      have e1 : nI y + (-1) = nI y - 1 := by rw [Int32.sub_eq_add_neg]
      rw [e1]
      by_cases c : opp s τ y (nM τ) = 0
      · rw [if_pos (decide_eq_true c)] at hc
        rw [if_pos c, if_neg (show ¬ (1 : Int32) = 0 by decide), if_neg (show ¬ (1 : Int32) = 0 by decide), if_pos (decide_eq_true c), nI_1]
        rw [show cnt (fun y => decide (opp s τ y (nM τ) = 0)) (nS τ) - cnt (fun y => decide (opp s τ y (nM τ) = 0)) (y + 1) + 1 = cnt (fun y => decide (opp s τ y (nM τ) = 0)) (nS τ) - cnt (fun y => decide (opp s τ y (nM τ) = 0)) y from by omega]
      · rw [if_neg (fun x => c (of_decide_eq_true x)), Nat.add_zero (cnt (fun y => decide (opp s τ y (nM τ) = 0)) y)] at hc
        rw [if_neg c, if_pos rfl, if_pos rfl, if_neg (fun x => c (of_decide_eq_true x)), Int32.add_zero, hc]) (n := 1100) (by omega)
    have e0 : cnt (fun y => decide (opp s τ y (nM τ) = 0)) (nS τ) - cnt (fun y => decide (opp s τ y (nM τ) = 0)) (nS τ - 0) = 0 := by rw [Nat.sub_zero, Nat.sub_self]
    dsimp only at hh
    rw [e0] at hh
    exact hh
  have z0 : cnt (fun y => decide (opp s τ y (nM τ) = 0)) 0 = 0 := rfl
  rw [hq, e16, hm, fB_dF _ (nS τ) (nS τ) 0 (by omega), if_pos z0]
  exact ⟨_, _, _, rfl, rfl, Inv_tell (Inv_ms s2 u2) _⟩
