/-! ===== follow: the reference ===== -/
def FoP (s τ : St) (m : Nat) (p : Int32 × Int32 × St) : Prop := p.1 = (fo s τ m).2.1 ∧ p.2.1 = (fo s τ m).2.2 ∧ Fr pScr τ p.2.2 ∧ ∀ k, k < m → p.2.2.1 37 0 k = bI ((fo s τ m).1 k)
theorem FoP_s {s τ u : St} {m : Nat} {f : Nat → Bool} {a b : Int32} (e : fStep s τ m (fo s τ m) = (f, a, b)) (h1 : Fr pScr τ u) (h4 : ∀ k, k < m + 1 → u.1 37 0 k = bI (f k)) : FoP s τ (m + 1) (a, b, u) := by
  have e1 : fo s τ (m + 1) = (f, a, b) := e
  unfold FoP
  rw [e1]
  exact ⟨rfl, rfl, h1, h4⟩
theorem lastR {s τ u : St} (h : Inv s τ) (hu : Fr pScr τ u) {m : Nat} (hm : m < nV τ) {fl : Nat → Bool} (hfl : ∀ k, k < m → u.1 37 0 k = bI (fl k)) (K : Int32 → St → Option (Int32 × St)) (v1 v2 : Int32) : M_follow_L57 K v1 v2 (nI m) 1100 (-9) 0 u = K (oI (lastO (fun k => fl k && decide (my τ k = my τ m)) m)) u := by
  have hV := h.w.nV40
  have hS := h.w.nS24
  refine lpF (fun n k (v : Int32) => M_follow_L57 K v1 v2 (nI m) n v (nI k) u) (fun i => oI (lastO (fun k => fl k && decide (my τ k = my τ m)) i)) _ m ?_ ?_ (n := 1100) (by omega)
  · intro n
    show M_follow_L57 K v1 v2 (nI m) (n + 1) _ (nI m) u = _
    rw [M_follow_L57, if_pos (nI_le (Nat.le_refl _) (by omega))]
  · intro k n hk
    show M_follow_L57 K v1 v2 (nI m) (n + 1) (oI (lastO (fun k => fl k && decide (my τ k = my τ m)) k)) (nI k) u = M_follow_L57 K v1 v2 (nI m) n (oI (if (fl k && decide (my τ k = my τ m)) = true then some k else lastO (fun k => fl k && decide (my τ k = my τ m)) k)) (nI (k + 1)) u
    have e1 : u.1 35 0 k = nI (my τ k) := (hu.2 _ _ _ rfl).trans (mvs_at h (show k < nV τ by omega)).2.2.2.1
    have e2 : u.1 35 0 m = nI (my τ m) := (hu.2 _ _ _ rfl).trans (mvs_at h hm).2.2.2.1
    have b1 := (mvs_at h (show k < nV τ by omega)).2.1
    have b2 := (mvs_at h hm).2.1
    have q := nI_eq (a := my τ k) (b := my τ m) (by omega) (by omega)
    have hi : inb (nI k) 40 = true := inb_nI (by omega) (by decide)
    rw [M_follow_L57, if_neg (nI_ge hk (by omega)), if_pos hi, if_pos hi, if_pos (inb_nI (by omega) (by decide)), nI_clamp (n := k) (by omega), nI_clamp (n := m) (by omega), hfl k hk, e1, e2]
    unfold M_follow_J96
    rw [nI_1]
    cases fl k
    · rw [if_pos (show bI false = 0 from rfl), Bool.false_and, if_neg (by decide)]
    · rw [if_neg (show ¬ bI true = 0 by decide), Bool.true_and]
      by_cases c : my τ k = my τ m
      · rw [if_pos (q.mpr c), if_pos (decide_eq_true c)]; rfl
      · rw [if_neg (fun z => c (q.mp z)), if_neg (fun z => c (of_decide_eq_true z))]
theorem nar_1 : vp_nar .boolean 1 = 1 := rfl
theorem nar_0 : vp_nar .boolean 0 = 0 := rfl
theorem foll_1 {s τ : St} (h : Inv s τ) (K : Int32 → Int32 → St → Option (Int32 × St)) {m n : Nat} (hm : m < nV τ) {p : Int32 × Int32 × St} (hp : FoP s τ m p) (c1 : mk τ m = 1) : ∃ p' : Int32 × Int32 × St, M_follow_L6 K (n + 1) p.1 p.2.1 (nI m) p.2.2 = M_follow_L6 K n p'.1 p'.2.1 (nI (m + 1)) p'.2.2 ∧ FoP s τ (m + 1) p' := by
  have hV := h.w.nV40
  obtain ⟨a, b, u⟩ := p
  obtain ⟨ha, hb, hu, hfl⟩ := hp
  dsimp only at ha hb hu hfl
  have hi : inb (nI m) 40 = true := inb_nI (by omega) (by decide)
  have hc : (nI m).toNatClampNeg = m := nI_clamp (by omega)
  have e33 : u.1 0 0 33 = nI (nV τ) := (hu.2 _ _ _ rfl).trans (mvN h).1
  have e34 : u.1 34 0 m = 1 := by rw [hu.2 34 0 m rfl, (mvs_at h hm).2.2.1, c1]; rfl
  have eF : fStep s τ m (fo s τ m) = (upB (fo s τ m).1 m true, a, b + 1) := by unfold fStep; rw [if_pos c1, ← ha, ← hb]
  refine ⟨(a, b + 1, sX u 37 0 m 1), ?_, FoP_s eF (hu.st _ _ _ _ rfl) ?_⟩
  · dsimp only
    rw [M_follow_L6, e33, if_neg (nI_ge hm (by omega)), if_pos hi, if_pos hi, if_pos hi, hc, e34, if_pos rfl, nar_1, sX_s, if_neg (show ¬ (1 : Int32) = 0 by decide)]
    unfold M_follow_J155
    rw [nI_1]
  · intro k hk
    rw [sX_at]
    show _ = bI (if k = m then true else (fo s τ m).1 k)
    by_cases e : k = m
    · rw [if_pos ⟨rfl, rfl, e⟩, if_pos e]; rfl
    · rw [if_neg (by omega), if_neg e]; exact hfl k (by omega)
theorem foll_2 {s τ : St} (h : Inv s τ) (hK : ∀ m, m < nM τ → Mnd s τ m) (K : Int32 → Int32 → St → Option (Int32 × St)) {m n : Nat} (hm : m < nV τ) {p : Int32 × Int32 × St} (hp : FoP s τ m p) (c1 : ¬ mk τ m = 1) : ∃ p' : Int32 × Int32 × St, M_follow_L6 K (n + 1) p.1 p.2.1 (nI m) p.2.2 = M_follow_L6 K n p'.1 p'.2.1 (nI (m + 1)) p'.2.2 ∧ FoP s τ (m + 1) p' := by
  have hV := h.w.nV40
  have hS := h.w.nS24
  obtain ⟨a, b, u⟩ := p
  obtain ⟨ha, hb, hu, hfl⟩ := hp
  dsimp only at ha hb hu hfl
  obtain ⟨v1, v2, v3, v4, v5, v6, v7, v8, v9⟩ := mvs_at h hm
  have hi : inb (nI m) 40 = true := inb_nI (by omega) (by decide)
  have hc : (nI m).toNatClampNeg = m := nI_clamp (by omega)
  have e33 : u.1 0 0 33 = nI (nV τ) := (hu.2 _ _ _ rfl).trans (mvN h).1
  have e34 : u.1 34 0 m = nI (mk τ m) := by rw [hu.2 34 0 m rfl, v3]
  have q1 := nI_eq (a := mk τ m) (b := 1) (by omega) (by decide)
  have q0 := nI_eq (a := mk τ m) (b := 0) (by omega) (by decide)
  have ec : ¬ nI (mk τ m) = 1 := fun z => c1 (q1.mp z)
  have hu' : Fr pScr τ (sX u 37 0 m 0) := hu.st _ _ _ _ rfl
  have hrow : ∀ k, k < m + 1 → (sX u 37 0 m 0).1 37 0 k = bI (upB (fo s τ m).1 m false k) := by
    intro k hk
    rw [sX_at]
    show _ = bI (if k = m then false else (fo s τ m).1 k)
    by_cases e : k = m
    · rw [if_pos ⟨rfl, rfl, e⟩, if_pos e]; rfl
    · rw [if_neg (by omega), if_neg e]; exact hfl k (by omega)
  have hfl' : ∀ k, k < m → (sX u 37 0 m 0).1 37 0 k = bI ((fo s τ m).1 k) := by
    intro k hk
    rw [sX_o (by omega)]; exact hfl k hk
  have e34' : ∀ t, Fr pDa (sX u 37 0 m 0) t → t.1 34 0 m = nI (mk τ m) := fun t ht => by rw [ht.2 34 0 m rfl, hu'.2 34 0 m rfl, v3]
  -- nothing closed
  have hid : ∀ t, Fr pDa (sX u 37 0 m 0) t → ∃ z, M_follow_J138 (M_follow_L6 K n) a b (nI m) t = M_follow_L6 K n z b (nI (m + 1)) t ∧ z = (if mk τ m = 0 then a else a + 1) := by
    intro t ht
    refine ⟨_, ?_, rfl⟩
    unfold M_follow_J138 M_follow_J155
    rw [if_pos hi, hc, e34' t ht, nI_1]
    by_cases c0 : mk τ m = 0
    · rw [if_pos (show nI (mk τ m) = 0 from q0.mpr c0), if_pos c0, Int32.add_zero]
    · rw [if_neg (show ¬ nI (mk τ m) = 0 from fun z => c0 (q0.mp z)), if_neg c0]
  have hst : M_follow_L6 K (n + 1) a b (nI m) u = (fun (v4_36 : Int32) (s_37 : St) => if v4_36 < 0 then (M_follow_J138 (M_follow_L6 K n) a b (nI m) s_37) else (if inb v4_36 40 = true then Option.bind (M_doesAnswer (nI m) (s_37.1 36 0 v4_36.toNatClampNeg) s_37) (fun r_59 => if r_59.1 = 0 then (M_follow_J138 (M_follow_L6 K n) a b (nI m) r_59.2) else (if inb v4_36 40 = true then M_follow_J155 (M_follow_L6 K n) a (b + (-1)) (nI m) (sX r_59.2 37 0 v4_36.toNatClampNeg (vp_nar .boolean 0)) else none)) else none)) (oI (lastO (fun k => (fo s τ m).1 k && decide (my τ k = my τ m)) m)) (sX u 37 0 m 0) := by
    rw [M_follow_L6, e33, if_neg (nI_ge hm (by omega)), if_pos hi, if_pos hi, if_pos hi, hc, e34, if_neg ec, nar_0, sX_s, if_pos rfl, lastR h hu' hm hfl']
  dsimp only at hst
  cases hl : lastO (fun k => (fo s τ m).1 k && decide (my τ k = my τ m)) m with
  | none =>
    obtain ⟨z, z1, z2⟩ := hid _ (Fr.rf _ _)
    have eF : fStep s τ m (fo s τ m) = (upB (fo s τ m).1 m false, z, b) := by
      unfold fStep
      rw [if_neg c1, hl, z2, ← ha, ← hb]
      by_cases c0 : mk τ m = 0
      · rw [if_pos c0, if_pos c0]
      · rw [if_neg c0, if_neg c0]
    rw [hl, if_pos (show oI none < 0 from by decide), z1] at hst
    exact ⟨(z, b, sX u 37 0 m 0), hst, FoP_s eF hu' hrow⟩
  | some k =>
    obtain ⟨hk1, hk2⟩ := lastO_lt _ _ _ hl
    rw [Bool.and_eq_true] at hk2
    have hobj := (fo_obj s τ m k hk2.1).2
    have hkv := mvs_at h (show k < nV τ by omega)
    have hov : mv τ k < nS τ := by
      have := hkv.2.2.2.2.2.2.2.2
      unfold okV at this
      omega
    have e36 : (sX u 37 0 m 0).1 36 0 k = nI (mv τ k) := by rw [hu'.2 36 0 k rfl]; exact hkv.2.2.2.2.1
    obtain ⟨t, t1, t2⟩ := answer_eq h hK hu' (k := m) (by omega) c1 v1 v2 hov v9 v3 v4 v5
    obtain ⟨z, z1, z2⟩ := hid t t2
    have hik : inb (nI k) 40 = true := inb_nI (by omega) (by decide)
    have hft : Fr pScr τ t := hu'.tr (t2.wk pDa_scr)
    have hrt : ∀ j, j < m + 1 → t.1 37 0 j = bI (upB (fo s τ m).1 m false j) := fun j hj => by rw [t2.2 37 0 j rfl]; exact hrow j hj
    rw [hl, show oI (some k) = nI k from rfl, if_neg (nI_pos (by omega)), if_pos hik, nI_clamp (n := k) (by omega), e36, t1, Option.bind_some] at hst
    dsimp only at hst
    by_cases c0 : mk τ m = 0
    · have eF : fStep s τ m (fo s τ m) = (upB (fo s τ m).1 m false, z, b) := by
        unfold fStep
        rw [if_neg c1, if_pos c0, z2, if_pos c0, ← ha, ← hb]
      rw [if_pos c0, if_pos (show bI false = 0 from rfl), z1] at hst
      exact ⟨(z, b, t), hst, FoP_s eF hft hrt⟩
    · rw [if_neg c0] at hst z2
      cases cc : cls s τ (mk τ m) (my τ m) (mv τ m) (mv τ k) with
      | true =>
        have eF : fStep s τ m (fo s τ m) = (upB (upB (fo s τ m).1 m false) k false, a, b + (-1)) := by
          unfold fStep; rw [if_neg c1, if_neg c0, hl, ← ha, ← hb]; dsimp only; rw [if_pos cc]
        rw [cc, if_neg (show ¬ bI true = 0 by decide), if_pos hik, nar_0] at hst
        unfold M_follow_J155 at hst
        rw [nI_1] at hst
        refine ⟨(a, b + (-1), sX t 37 0 k 0), hst, FoP_s eF (hft.st _ _ _ _ rfl) ?_⟩
        intro j hj
        rw [sX_at]
        show _ = bI (if j = k then false else upB (fo s τ m).1 m false j)
        by_cases e : j = k
        · rw [if_pos ⟨rfl, rfl, e⟩, if_pos e]; rfl
        · rw [if_neg (by omega), if_neg e]; exact hrt j hj
      | false =>
        have eF : fStep s τ m (fo s τ m) = (upB (fo s τ m).1 m false, z, b) := by
          unfold fStep; rw [if_neg c1, if_neg c0, hl, z2, ← ha, ← hb]; dsimp only; rw [if_neg (by rw [cc]; decide)]
        rw [cc, if_pos (show bI false = 0 from rfl), z1] at hst
        exact ⟨(z, b, t), hst, FoP_s eF hft hrt⟩
theorem foll_eq {s τ : St} (h : Inv s τ) (hK : ∀ m, m < nM τ → Mnd s τ m) (K : Int32 → Int32 → St → Option (Int32 × St)) : ∃ u, M_follow_L6 K 1100 0 0 0 τ = K (fo s τ (nV τ)).2.1 (fo s τ (nV τ)).2.2 u ∧ Fr pScr τ u := by
  have hV := h.w.nV40
  have hh := lpU (fun n m (p : Int32 × Int32 × St) => M_follow_L6 K n p.1 p.2.1 (nI m) p.2.2) (FoP s τ) (fun p => K p.1 p.2.1 p.2.2) (nV τ) (by
    intro n p hp
    show M_follow_L6 K (n + 1) p.1 p.2.1 (nI (nV τ)) p.2.2 = _
    rw [M_follow_L6, hp.2.2.1.2 0 0 33 rfl, (mvN h).1, if_pos (nI_le (Nat.le_refl _) (by omega))]) (by
    intro m n p hm hp
    by_cases c1 : mk τ m = 1
    · exact foll_1 h K hm hp c1
    · exact foll_2 h hK K hm hp c1) (n := 1100) (s := ((0 : Int32), (0 : Int32), τ)) (by omega) ⟨rfl, rfl, Fr.rf _ _, fun k hk => absurd hk (Nat.not_lt_zero _)⟩
  obtain ⟨p, p1, p2, p3, p4, -⟩ := hh
  refine ⟨p.2.2, ?_, p4⟩
  rw [← p2, ← p3]
  exact p1
theorem step_39 : Stp_39 Inv := by
  intro σ τ h
  unfold Q_follow M_follow
  obtain ⟨s, s1, s2, s3, s4⟩ := settled_eq h
  obtain ⟨t, t1, t2, t3, t4⟩ := read_eq s2 s4
  obtain ⟨u, u1, u2⟩ := foll_eq s2 s4 (fun (v1_65 : Int32) (v2_66 : Int32) (s_67 : St) => Option.bind (M_ask v1_65 v2_66 s_67) (fun r_68 => some (r_68.1, r_68.2)))
  rw [s1, Option.bind_some, t1, Option.bind_some, u1, t3, t4]
  exact ⟨_, _, _, rfl, rfl, Inv_tell (Inv_ms (Inv_fr (t2.wk pRt_cs) s2) u2) _⟩
