/-! ===== fresh cases ===== -/
def frB (a b : Bool) : Nat := if a = false then 0 else if b = false then 1 else 2
def frs (τ : St) (m x : Nat) : Nat := frB (anyB (mO τ m x) 244) (anyB (mN τ m x) 244)
theorem cnt0_any (p : Nat → Bool) (n : Nat) : cnt p n = 0 ↔ anyB p n = false := by
  induction n with
  | zero => exact ⟨fun _ => rfl, fun _ => rfl⟩
  | succ n ih =>
    have hc : cnt p (n + 1) = cnt p n + (if p n = true then 1 else 0) := rfl
    have ha : anyB p (n + 1) = (anyB p n || p n) := rfl
    rw [hc, ha]
    cases hp : p n
    · rw [if_neg (by decide), Bool.or_false, Nat.add_zero (cnt p n)]; exact ih
    · rw [if_pos rfl, Bool.or_true]
      exact ⟨fun x => absurd x (by omega), fun x => absurd x (by decide)⟩
theorem cnt_ON (τ : St) (m x n : Nat) : cnt (mO τ m x) n + cnt (mN τ m x) n = cnt (chp τ m) n := by
  induction n with
  | zero => rfl
  | succ n ih =>
    have h1 : cnt (mO τ m x) (n + 1) = cnt (mO τ m x) n + (if (chp τ m n && decide (vd n x = 1)) = true then 1 else 0) := rfl
    have h2 : cnt (mN τ m x) (n + 1) = cnt (mN τ m x) n + (if (chp τ m n && decide (vd n x = 0)) = true then 1 else 0) := rfl
    have h3 : cnt (chp τ m) (n + 1) = cnt (chp τ m) n + (if chp τ m n = true then 1 else 0) := rfl
    rw [h1, h2, h3]
    cases chp τ m n
    · simp only [Bool.false_and]
      rw [if_neg (by decide)]
      omega
    · rcases vd_01 n x with e | e <;> rw [e] <;> simp <;> omega
theorem freshNow_eq {τ u : St} {m x : Nat} (hx : x < 32) (hp : ∀ r, r < 244 → u.1 31 0 r = bI (chp τ m r)) : M_freshNow (nI x) u = some (nI (frs τ m x)) := by
  have hK : ∀ K, M_freshNow_L7 K (nI x) u 1100 0 0 0 = K (nI (cnt (chp τ m) 244)) (nI (cnt (mO τ m x) 244)) := by
    intro K
    refine lpF (fun n r (v : Int32 × Int32) => M_freshNow_L7 K (nI x) u n v.1 v.2 (nI r)) (fun i => (nI (cnt (chp τ m) i), nI (cnt (mO τ m x) i))) _ 244 ?_ ?_ (n := 1100) (by decide)
    · intro n
      show M_freshNow_L7 K (nI x) u (n + 1) _ _ (nI 244) = _
      rw [M_freshNow_L7, if_pos (by decide)]
    · intro r n hr
      show M_freshNow_L7 K (nI x) u (n + 1) (nI (cnt (chp τ m) r)) (nI (cnt (mO τ m x) r)) (nI r) = M_freshNow_L7 K (nI x) u n (nI (cnt (chp τ m) r + if chp τ m r = true then 1 else 0)) (nI (cnt (mO τ m x) r + if (chp τ m r && decide (vd r x = 1)) = true then 1 else 0)) (nI (r + 1))
      have hi : inb (nI r) 244 = true := inb_nI hr (by decide)
      rw [M_freshNow_L7, if_neg (g244 hr), if_pos hi, if_pos hi, nI_clamp (n := r) (by omega), hp r hr, M_answer_eq hr hx, Option.bind_some]
      unfold M_freshNow_J54
      rw [nI_1]
      cases chp τ m r
      · rw [if_pos (show bI false = 0 from rfl), if_pos (show bI false = 0 from rfl), Int32.add_zero, Int32.add_zero]; rfl
      · rw [if_neg (show ¬ bI true = 0 from by decide), if_neg (show ¬ bI true = 0 from by decide), if_pos rfl, nI_1, nI_add]
        rcases vd_01 r x with e | e <;> rw [e] <;> rfl
  unfold M_freshNow
  rw [hK]
  have h1 := cnt_ON τ m x 244
  have h2 := cnt0_any (mO τ m x) 244
  have h3 := cnt0_any (mN τ m x) 244
  have hl := cnt_le (chp τ m) 244
  have q0 := nI_eq (a := cnt (mO τ m x) 244) (b := 0) (by omega) (by omega)
  have q1 := nI_eq (a := cnt (mO τ m x) 244) (b := cnt (chp τ m) 244) (by omega) (by omega)
  unfold frs frB
  by_cases c0 : cnt (mO τ m x) 244 = 0
  · rw [if_pos (show nI (cnt (mO τ m x) 244) = 0 from q0.mpr c0), if_pos (h2.mp c0)]; rfl
  · rw [if_neg (show ¬ nI (cnt (mO τ m x) 244) = 0 from fun z => c0 (q0.mp z)), if_neg (show ¬ anyB (mO τ m x) 244 = false from fun z => c0 (h2.mpr z))]
    by_cases c1 : cnt (mN τ m x) 244 = 0
    · rw [if_pos (q1.mpr (by omega)), if_pos (h3.mp c1)]; rfl
    · rw [if_neg (fun z => c1 (by have := q1.mp z; omega)), if_neg (fun z => c1 (h3.mpr z))]; rfl
theorem may_eq {v : Int32} {x : Nat} (hx : x < 32) : (if ((ush v (nI x)) &&& 1) = 1 then 1 else 0 : Int32) = bI (tb v x) := by
  rw [ush_tb hx]
  cases tb v x <;> rfl
theorem mayOwe_eq {s τ : St} {m x : Nat} (hx : x < 32) (hK : Mnd s τ m) : Mi_mayOwe m (nI x) s = bI (anyB (mO τ m x) 244) := by
  unfold Mi_mayOwe
  rw [may_eq hx, hK.2.2.2.1 x hx]
theorem mayNot_eq {s τ : St} {m x : Nat} (hx : x < 32) (hK : Mnd s τ m) : Mi_mayNotOwe m (nI x) s = bI (anyB (mN τ m x) 244) := by
  unfold Mi_mayNotOwe
  rw [may_eq hx, hK.2.2.2.2 x hx]
theorem would_eq {s τ : St} {m x : Nat} (hx : x < 32) (hK : Mnd s τ m) : Mi_wouldSay m (nI x) s = nI (frs τ m x) := by
  unfold Mi_wouldSay
  rw [mayOwe_eq hx hK, mayNot_eq hx hK]
  unfold frs frB
  cases anyB (mO τ m x) 244 <;> cases anyB (mN τ m x) 244 <;> rfl
theorem freshOf_eq {τ u : St} (w : WF τ) {m x : Nat} (hm : m < 1000) (hx : x < 32) (hu : Fr pScr τ u) : ∃ u', M_freshOf (nI m) (nI x) u = some (nI (frs τ m x), u') ∧ Fr pScr τ u' := by
  obtain ⟨u', u1, u2, u3⟩ := setCheap_as w hm hu
  refine ⟨u', ?_, pCh_tr hu u2⟩
  unfold M_freshOf
  rw [u1, Option.bind_some, freshNow_eq hx u3]
  rfl
theorem step_42 : Stp_42 Inv := by
  intro a1 a2 σ τ h
  unfold Q_fresh M_fresh M_isSet
  by_cases hx : ∃ j, j < nM τ ∧ a1 = nI j
  · obtain ⟨m, hm, rfl⟩ := hx
    have hM := h.w.nM8
    rw [if_neg (hasM_in h hm).1, if_neg (hasM_in h hm).2]
    by_cases hy : ∃ j, j < 32 ∧ a2 = nI j
    · obtain ⟨x, hx, rfl⟩ := hy
      obtain ⟨s, s1, s2, s3, s4⟩ := settled_eq h
      obtain ⟨u, u1, u2⟩ := freshOf_eq h.w (m := m) (by omega) hx (Fr.rf _ τ)
      rw [if_neg (wi32 hx), if_neg (mi32 hx), s1, u1, Option.bind_some, Option.bind_some, if_pos (inb_nI (by omega) (by decide)), nI_clamp (n := m) (by omega), would_eq hx (s4 m hm)]
      exact ⟨_, _, _, rfl, rfl, Inv_ms s2 u2⟩
    · rw [if_pos (wo32 hy), if_pos (mo32 hy)]
      exact ⟨_, _, _, rfl, rfl, h⟩
  · rw [if_pos (hasM_out h hx).1, if_pos (hasM_out h hx).2]
    exact ⟨_, _, _, rfl, rfl, h⟩
/-! plain -/
def spk (τ : St) (m : Nat) : Bool := decide (0 < kO τ m)
def eI (a b c : Bool) : Int32 := nI ((if a = true then 1 else 0) + (if b = true then 2 else 0) + (if c = true then 4 else 0))
def eX (τ : St) (x k m : Nat) : Bool := spk τ m && decide (frs τ m x = k)
theorem anyB_or (p q : Nat → Bool) (n : Nat) : anyB (fun i => p i || q i) n = (anyB p n || anyB q n) := by
  induction n with
  | zero => rfl
  | succ n ih =>
    unfold anyB
    rw [ih]
    cases anyB p n <;> cases anyB q n <;> cases p n <;> cases q n <;> rfl
theorem anyB_congr {p q : Nat → Bool} {n : Nat} (h : ∀ i, i < n → p i = q i) : anyB p n = anyB q n := by
  induction n with
  | zero => rfl
  | succ n ih =>
    unfold anyB
    rw [ih (fun i hi => h i (by omega)), h n (by omega)]
theorem bI_orI (a b : Bool) : bI a ||| bI b = bI (a || b) := by cases a <;> cases b <;> decide
theorem some_ON (τ : St) (m x : Nat) : anyB (mO τ m x) 244 = true ∨ anyB (mN τ m x) 244 = true := by
  have h1 := cnt_ON τ m x 244
  have h2 := chp_pos (τ := τ) m
  cases ha : anyB (mO τ m x) 244
  · cases hb : anyB (mN τ m x) 244
    · have := (cnt0_any _ _).mpr ha
      have := (cnt0_any _ _).mpr hb
      omega
    · exact Or.inr rfl
  · exact Or.inl rfl
theorem spkA (τ : St) (x m : Nat) : (spk τ m && anyB (mO τ m x) 244) = (eX τ x 1 m || eX τ x 2 m) := by
  unfold eX frs frB
  cases spk τ m <;> cases anyB (mO τ m x) 244 <;> cases anyB (mN τ m x) 244 <;> rfl
theorem spkB (τ : St) (x m : Nat) : (spk τ m && anyB (mN τ m x) 244) = (eX τ x 0 m || eX τ x 2 m) := by
  have h := some_ON τ m x
  unfold eX frs frB
  cases spk τ m <;> cases ha : anyB (mO τ m x) 244 <;> cases hb : anyB (mN τ m x) 244 <;> simp_all
theorem known_eq {s τ : St} (h : Inv s τ) (hK : ∀ m, m < nM τ → Mnd s τ m) {x : Nat} (hx : x < 32) : Bk_knownToAll (nI x) s = some (if (anyB (eX τ x 1) (nM τ) || anyB (eX τ x 2) (nM τ)) = false then 1 else if (anyB (eX τ x 0) (nM τ) || anyB (eX τ x 2) (nM τ)) = false then 1 else 0) := by
  have hM := h.w.nM8
  have hL : ∀ K, Bk_knownToAll_L8 K (nI x) s 1100 0 0 0 = K (bI (anyB (fun m => spk τ m && anyB (mO τ m x) 244) (nM τ))) (bI (anyB (fun m => spk τ m && anyB (mN τ m x) 244) (nM τ))) := by
    intro K
    refine lpF (fun n m (v : Int32 × Int32) => Bk_knownToAll_L8 K (nI x) s n v.1 v.2 (nI m)) (fun i => (bI (anyB (fun m => spk τ m && anyB (mO τ m x) 244) i), bI (anyB (fun m => spk τ m && anyB (mN τ m x) 244) i))) _ (nM τ) ?_ ?_ (n := 1100) (by omega)
    · intro n
      show Bk_knownToAll_L8 K (nI x) s (n + 1) _ _ (nI (nM τ)) = _
      rw [Bk_knownToAll_L8, nMs h, if_pos (nI_le (Nat.le_refl _) (by omega))]
    · intro m n hm
      show Bk_knownToAll_L8 K (nI x) s (n + 1) (bI (anyB (fun m => spk τ m && anyB (mO τ m x) 244) m)) (bI (anyB (fun m => spk τ m && anyB (mN τ m x) 244) m)) (nI m) = Bk_knownToAll_L8 K (nI x) s n (bI (anyB (fun m => spk τ m && anyB (mO τ m x) 244) m || (spk τ m && anyB (mO τ m x) 244))) (bI (anyB (fun m => spk τ m && anyB (mN τ m x) 244) m || (spk τ m && anyB (mN τ m x) 244))) (nI (m + 1))
      rw [Bk_knownToAll_L8, nMs h, if_neg (nI_ge hm (by omega)), if_pos (inb_nI (by omega) (by decide)), nI_clamp (n := m) (by omega)]
      unfold Bk_knownToAll_J60
      rw [nI_1]
      by_cases c : 0 < kO τ m
      · have es : spk τ m = true := decide_eq_true c
        rw [if_neg (fun z => (spoken_eq h hm).mp z c), mayOwe_eq hx (hK m hm), mayNot_eq hx (hK m hm), bI_orI, bI_orI, es, Bool.true_and, Bool.true_and]
      · have es : spk τ m = false := decide_eq_false c
        rw [if_pos ((spoken_eq h hm).mpr c), es, Bool.false_and, Bool.false_and, Bool.or_false, Bool.or_false]
  unfold Bk_knownToAll
  rw [hL]
  have e1 : anyB (fun m => spk τ m && anyB (mO τ m x) 244) (nM τ) = (anyB (eX τ x 1) (nM τ) || anyB (eX τ x 2) (nM τ)) := by
    rw [← anyB_or]
    exact anyB_congr (fun m _ => spkA τ x m)
  have e2 : anyB (fun m => spk τ m && anyB (mN τ m x) 244) (nM τ) = (anyB (eX τ x 0) (nM τ) || anyB (eX τ x 2) (nM τ)) := by
    rw [← anyB_or]
    exact anyB_congr (fun m _ => spkB τ x m)
  rw [e1, e2]
  cases anyB (eX τ x 0) (nM τ) <;> cases anyB (eX τ x 1) (nM τ) <;> cases anyB (eX τ x 2) (nM τ) <;> rfl
theorem frs_lt (τ : St) (m x : Nat) : frs τ m x = 0 ∨ frs τ m x = 1 ∨ frs τ m x = 2 := by
  unfold frs frB
  cases anyB (mO τ m x) 244 <;> cases anyB (mN τ m x) 244 <;> simp
theorem eI_st (a b c : Bool) : (eI a b c ||| ((1 : Int32) <<< (nI 0 &&& 31)) = eI true b c) ∧ (eI a b c ||| ((1 : Int32) <<< (nI 1 &&& 31)) = eI a true c) ∧ (eI a b c ||| ((1 : Int32) <<< (nI 2 &&& 31)) = eI a b true) := by
  cases a <;> cases b <;> cases c <;> decide +kernel
theorem plain_lp {τ : St} (w : WF τ) (K : Int32 → St → Option (Int32 × St)) {y : Nat} (hy : y < nS τ) : ∃ u, M_plain_L14 K (nI y) 1100 0 0 τ = K (eI (anyB (eX τ (sx τ y) 0) (nM τ)) (anyB (eX τ (sx τ y) 1) (nM τ)) (anyB (eX τ (sx τ y) 2) (nM τ))) u ∧ Fr pScr τ u := by
  have hM := w.nM8
  have hS := w.nS24
  obtain ⟨o1, ⟨o2, o3⟩, ⟨o4, o5⟩, ⟨o6, o7⟩, o8⟩ := wfS w hy
  have hh := lpU (fun n m (p : Int32 × St) => M_plain_L14 K (nI y) n p.1 (nI m) p.2) (fun m p => p.1 = eI (anyB (eX τ (sx τ y) 0) m) (anyB (eX τ (sx τ y) 1) m) (anyB (eX τ (sx τ y) 2) m) ∧ Fr pScr τ p.2) (fun p => K p.1 p.2) (nM τ) (by
    intro n p hp
    show M_plain_L14 K (nI y) (n + 1) p.1 (nI (nM τ)) p.2 = _
    rw [M_plain_L14, nMt w hp.2, if_pos (nI_le (Nat.le_refl _) (by omega))]) (by
    intro m n p hm hp
    obtain ⟨v, u⟩ := p
    obtain ⟨e, hu⟩ := hp
    dsimp only at e hu
    subst e
    have e18 : u.1 18 0 y = nI (sc τ y) := (hu.2 _ _ _ rfl).trans o2
    have e11 : u.1 11 0 (sc τ y) = nI (sx τ y) := (hu.2 _ _ _ rfl).trans o4
    have hso : M_sayingsOf (nI m) u = some (nI (kO τ m)) := by
      rw [sayingsOf_eq (WF_eq hu.eqm w) (by omega), (mnd_view hu.eqm).2.2.2.2.1]
    obtain ⟨u', u1, u2⟩ := freshOf_eq w (m := m) (by omega) o5 hu
    have hs0 : ∀ k, anyB (eX τ (sx τ y) k) (m + 1) = (anyB (eX τ (sx τ y) k) m || (spk τ m && decide (frs τ m (sx τ y) = k))) := fun k => rfl
    by_cases c : 0 < kO τ m
    · have es : spk τ m = true := decide_eq_true c
      refine ⟨(eI (anyB (eX τ (sx τ y) 0) (m + 1)) (anyB (eX τ (sx τ y) 1) (m + 1)) (anyB (eX τ (sx τ y) 2) (m + 1)), u'), ?_, rfl, u2⟩
      show M_plain_L14 K (nI y) (n + 1) (eI (anyB (eX τ (sx τ y) 0) m) (anyB (eX τ (sx τ y) 1) m) (anyB (eX τ (sx τ y) 2) m)) (nI m) u = M_plain_L14 K (nI y) n _ (nI (m + 1)) u'
      rw [M_plain_L14, nMt w hu, if_neg (nI_ge hm (by omega)), hso, Option.bind_some, if_neg (fun z => (kO_le0 w m).mp z c), if_pos (inb_nI (by omega) (by decide)), nI_clamp (n := y) (by omega), e18, if_pos (inb_nI o3 (by decide)), nI_clamp (n := sc τ y) (by omega), e11, u1, Option.bind_some]
      unfold M_plain_J53
      rw [nI_1, hs0, hs0, hs0, es, Bool.true_and, Bool.true_and, Bool.true_and]
      obtain ⟨x1, x2, x3⟩ := eI_st (anyB (eX τ (sx τ y) 0) m) (anyB (eX τ (sx τ y) 1) m) (anyB (eX τ (sx τ y) 2) m)
      rcases frs_lt τ m (sx τ y) with f | f | f
      · rw [f, x1]; simp
      · rw [f, x2]; simp
      · rw [f, x3]; simp
    · have es : spk τ m = false := decide_eq_false c
      refine ⟨(eI (anyB (eX τ (sx τ y) 0) (m + 1)) (anyB (eX τ (sx τ y) 1) (m + 1)) (anyB (eX τ (sx τ y) 2) (m + 1)), u), ?_, rfl, hu⟩
      show M_plain_L14 K (nI y) (n + 1) (eI (anyB (eX τ (sx τ y) 0) m) (anyB (eX τ (sx τ y) 1) m) (anyB (eX τ (sx τ y) 2) m)) (nI m) u = M_plain_L14 K (nI y) n _ (nI (m + 1)) u
      rw [M_plain_L14, nMt w hu, if_neg (nI_ge hm (by omega)), hso, Option.bind_some, if_pos ((kO_le0 w m).mpr c)]
      unfold M_plain_J53
      rw [or0, nI_1, hs0, hs0, hs0, es]
      simp) (n := 1100) (s := ((0 : Int32), τ)) (by omega) ⟨rfl, Fr.rf _ _⟩
  obtain ⟨p, p1, p2, p3⟩ := hh
  refine ⟨p.2, ?_, p3⟩
  rw [← p2]
  exact p1
theorem kO_pos {τ : St} {y : Nat} (hy : y < nS τ) : 0 < kO τ (sm τ y) := by
  have := nO_lt τ hy rfl
  unfold kO
  omega
theorem step_27 : Stp_27 Inv := by
  intro a1 σ τ h
  unfold Q_plain M_plain
  by_cases hx : ∃ j, j < nS τ ∧ a1 = nI j
  · obtain ⟨y, hy, rfl⟩ := hx
    obtain ⟨s, s1, s2, s3, s4⟩ := settled_eq h
    obtain ⟨o1, ⟨o2, o3⟩, ⟨o4, o5⟩, ⟨o6, o7⟩, o8⟩ := wfS h.w hy
    obtain ⟨u, u1, u2⟩ := plain_lp h.w (fun (v2_22 : Int32) (s_23 : St) => some ((if v2_22 = 1 then 1 else (if v2_22 = 2 then 1 else 0) : Int32), s_23)) hy
    rw [if_neg (hasS_in h hy).1, if_neg (hasS_in h hy).2, caseTr_eq h.w h.c hy, Option.bind_some, s1, Option.bind_some, known_eq s2 s4 o5, Option.bind_some, u1]
    refine ⟨_, s, u, rfl, ?_, Inv_ms s2 u2⟩
    have hsp : (anyB (eX τ (sx τ y) 0) (nM τ) || (anyB (eX τ (sx τ y) 1) (nM τ) || anyB (eX τ (sx τ y) 2) (nM τ))) = true := by
      rw [← anyB_or, ← anyB_or]
      refine anyB_iff.mpr ⟨sm τ y, (h.w.say y hy).1.2, ?_⟩
      have es : spk τ (sm τ y) = true := decide_eq_true (kO_pos hy)
      unfold eX
      rw [es]
      rcases frs_lt τ (sm τ y) (sx τ y) with f | f | f <;> rw [f] <;> rfl
    congr 2
    revert hsp
    cases anyB (eX τ (sx τ y) 0) (nM τ) <;> cases anyB (eX τ (sx τ y) 1) (nM τ) <;> cases anyB (eX τ (sx τ y) 2) (nM τ) <;> intro hsp <;> first | (exact absurd hsp (by decide)) | decide +kernel
  · rw [if_pos (hasS_out h hx).1, if_pos (hasS_out h hx).2]
    exact ⟨_, _, _, rfl, rfl, h⟩
/-! next -/
def fmX (f : Nat → Nat) : Nat → Nat
  | 0 => 0
  | n + 1 => if f (fmX f n) < f n then n else fmX f n
theorem fmX_lt (f : Nat → Nat) : ∀ n, 0 < n → fmX f n < n := by
  intro n
  induction n with
  | zero => intro h; omega
  | succ n ih =>
    intro _
    unfold fmX
    split
    · omega
    · rcases Nat.eq_zero_or_pos n with h | h
      · subst h; exact Nat.zero_lt_one
      · have := ih h; omega
def dou (τ : St) (n x : Nat) : Nat := cnt (fun m => eX τ x 2 m) n
theorem dou_le (τ : St) (n x : Nat) : dou τ n x ≤ n := cnt_le _ _
theorem unsure_eq {s τ : St} (h : Inv s τ) (hK : ∀ m, m < nM τ → Mnd s τ m) {x : Nat} (hx : x < 32) : Bk_manyUnsure (nI x) s = some (nI (dou τ (nM τ) x)) := by
  have hM := h.w.nM8
  refine lpF (fun n m v => Bk_manyUnsure_L5 (nI x) s n v (nI m)) (fun i => nI (dou τ i x)) _ (nM τ) ?_ ?_ (n := 1100) (by omega)
  · intro n
    show Bk_manyUnsure_L5 (nI x) s (n + 1) _ (nI (nM τ)) = _
    rw [Bk_manyUnsure_L5, nMs h, if_pos (nI_le (Nat.le_refl _) (by omega))]
  · intro m n hm
    show Bk_manyUnsure_L5 (nI x) s (n + 1) (nI (dou τ m x)) (nI m) = Bk_manyUnsure_L5 (nI x) s n (nI (dou τ m x + if (spk τ m && decide (frs τ m x = 2)) = true then 1 else 0)) (nI (m + 1))
    rw [Bk_manyUnsure_L5, nMs h, if_neg (nI_ge hm (by omega)), if_pos (inb_nI (by omega) (by decide)), nI_clamp (n := m) (by omega), would_eq hx (hK m hm)]
    unfold Bk_manyUnsure_J44
    rw [nI_1]
    by_cases c : 0 < kO τ m
    · have es : spk τ m = true := decide_eq_true c
      rw [if_neg (fun z => (spoken_eq h hm).mp z c), es, Bool.true_and]
      rcases frs_lt τ m x with f | f | f <;> rw [f]
      · rw [if_neg (by decide), if_neg (by decide), Nat.add_zero (dou τ m x)]
      · rw [if_neg (by decide), if_neg (by decide), Nat.add_zero (dou τ m x)]
      · rw [if_pos (show nI 2 = 2 from rfl), if_pos (by decide), nI_1]
    · have es : spk τ m = false := decide_eq_false c
      rw [if_pos ((spoken_eq h hm).mpr c), es, Bool.false_and, if_neg (by decide), Nat.add_zero (dou τ m x)]
theorem g32 {i : Nat} (hi : i < 32) : ¬ (32 : Int32) ≤ nI i := nI_ge (b := 32) hi (by decide)
theorem Qnext_lp {s τ : St} (h : Inv s τ) (hK : ∀ m, m < nM τ → Mnd s τ m) (K : Int32 → Int32 → St → Option (Int32 × St)) : Q_next_L28 K 1100 0 (-1) 0 s = K (nI (fmX (dou τ (nM τ)) 32)) (nI (dou τ (nM τ) (fmX (dou τ (nM τ)) 32))) s := by
  have hM := h.w.nM8
  have hd := dou_le τ (nM τ)
  have hh := lpU (fun n x (p : Int32 × Int32) => Q_next_L28 K n p.1 p.2 (nI x) s) (fun x p => (x = 0 ∧ p = (0, -1)) ∨ (0 < x ∧ p = (nI (fmX (dou τ (nM τ)) x), nI (dou τ (nM τ) (fmX (dou τ (nM τ)) x))))) (fun p => K p.1 p.2 s) 32 (by
    intro n p hp
    show Q_next_L28 K (n + 1) p.1 p.2 (nI 32) s = _
    rw [Q_next_L28, if_pos (by decide)]) (by
    intro x n p hx hp
    refine ⟨(nI (fmX (dou τ (nM τ)) (x + 1)), nI (dou τ (nM τ) (fmX (dou τ (nM τ)) (x + 1)))), ?_, Or.inr ⟨by omega, rfl⟩⟩
    show Q_next_L28 K (n + 1) p.1 p.2 (nI x) s = Q_next_L28 K n _ _ (nI (x + 1)) s
    rw [Q_next_L28, if_neg (g32 hx), unsure_eq h hK hx, Option.bind_some]
    unfold Q_next_J59
    rw [nI_1]
    have hf : fmX (dou τ (nM τ)) (x + 1) = if dou τ (nM τ) (fmX (dou τ (nM τ)) x) < dou τ (nM τ) x then x else fmX (dou τ (nM τ)) x := rfl
    rcases hp with ⟨e, e'⟩ | ⟨e, e'⟩
    · subst e; subst e'
      have e0 : fmX (dou τ (nM τ)) (0 + 1) = 0 := by
        show (if _ then 0 else fmX (dou τ (nM τ)) 0) = 0
        have : fmX (dou τ (nM τ)) 0 = 0 := rfl
        rw [this]
        split <;> rfl
      rw [e0]
      have hn : ¬ nI (dou τ (nM τ) 0) ≤ -1 := by
        rw [Int32.le_iff_toInt_le, nI_toInt (by have := hd 0; omega), show (-1 : Int32).toInt = -1 from by decide]
        omega
      dsimp only
      rw [if_neg hn]
    · subst e'
      have hle := nI_leI (a := dou τ (nM τ) x) (b := dou τ (nM τ) (fmX (dou τ (nM τ)) x)) (by have := hd x; omega) (by have := hd (fmX (dou τ (nM τ)) x); omega)
      rw [hf]
      dsimp only
      by_cases c : dou τ (nM τ) (fmX (dou τ (nM τ)) x) < dou τ (nM τ) x
      · rw [if_neg (fun z => by have := hle.mp z; omega), if_pos c]
      · rw [if_pos (hle.mpr (by omega)), if_neg c]) (n := 1100) (s := ((0 : Int32), (-1 : Int32))) (by decide) (Or.inl ⟨rfl, rfl⟩)
  obtain ⟨p, p1, p2⟩ := hh
  rcases p2 with ⟨e, -⟩ | ⟨-, e⟩
  · exact absurd e (by decide)
  · subst e; exact p1
def pDb (kd _ : Nat) : Bool := kd == 39
theorem pDb_scr : ∀ k j, pScr k j = false → pDb k j = false := by
  intro k j h
  unfold pScr at h
  unfold pDb
  simp only [Bool.or_eq_false_iff, Bool.and_eq_false_iff, beq_eq_false_iff_ne] at h ⊢
  omega
theorem next_in {τ : St} {m : Nat} (v1 v2 : Int32) (K : St → Option (Int32 × St)) {u : St} (hp : ∀ r, r < 244 → u.1 31 0 r = bI (chp τ m r)) : ∃ u', M_next_L50 K v1 v2 1100 0 u = K u' ∧ Fr pDb u u' ∧ ∀ x, x < 32 → u'.1 39 0 x = u.1 39 0 x + (if frs τ m x = 2 then 1 else 0) := by
  have hh := lpU (fun n x t => M_next_L50 K v1 v2 n (nI x) t) (fun x t => Fr pDb u t ∧ (∀ z, z < x → t.1 39 0 z = u.1 39 0 z + (if frs τ m z = 2 then 1 else 0)) ∧ ∀ z, x ≤ z → t.1 39 0 z = u.1 39 0 z) K 32 (by
    intro n t ht
    show M_next_L50 K v1 v2 (n + 1) (nI 32) t = K t
    rw [M_next_L50, if_pos (by decide)]) (by
    intro x n t hx ht
    obtain ⟨hf, h1, h2⟩ := ht
    have hp' : ∀ r, r < 244 → t.1 31 0 r = bI (chp τ m r) := fun r hr => (hf.2 _ _ _ rfl).trans (hp r hr)
    have hi : inb (nI x) 32 = true := inb_nI hx (by decide)
    have hq := nI_eq (a := frs τ m x) (b := 2) (by rcases frs_lt τ m x with f | f | f <;> omega) (by decide)
    have e2 : (if nI (frs τ m x) = 2 then 1 else 0 : Int32) = if frs τ m x = 2 then 1 else 0 := by
      rcases frs_lt τ m x with f | f | f <;> rw [f] <;> rfl
    refine ⟨sX t 39 0 x (u.1 39 0 x + (if frs τ m x = 2 then 1 else 0)), ?_, hf.st _ _ _ _ rfl, ?_, ?_⟩
    · show M_next_L50 K v1 v2 (n + 1) (nI x) t = M_next_L50 K v1 v2 n (nI (x + 1)) _
      rw [M_next_L50, if_neg (g32 hx), if_pos hi, freshNow_eq hx hp', Option.bind_some, if_pos hi, nI_clamp (n := x) (by omega), h2 x (Nat.le_refl _), e2, nI_1]
    · intro z hz
      by_cases e : z = x
      · subst e; rw [sX_s]
      · rw [sX_o (by omega)]; exact h1 z (by omega)
    · intro z hz
      rw [sX_o (by omega)]; exact h2 z (by omega)) (n := 1100) (s := u) (by decide) ⟨Fr.rf _ _, fun z hz => absurd hz (Nat.not_lt_zero _), fun z _ => rfl⟩
  obtain ⟨t, t1, t2, t3, -⟩ := hh
  exact ⟨t, t1, t2, t3⟩
theorem step_43 : Stp_43 Inv := by
  intro σ τ h
  have hM := h.w.nM8
  have hS := h.w.nS24
  have hd := dou_le τ (nM τ)
  -- the reference
  have hz : ∀ K, ∃ u, M_next_L4 K 0 1100 0 τ = K u ∧ Fr pScr τ u ∧ ∀ x, x < 32 → u.1 39 0 x = 0 := by
    intro K
    refine lpU (fun n x t => M_next_L4 K 0 n (nI x) t) (fun x t => Fr pScr τ t ∧ ∀ z, z < x → t.1 39 0 z = 0) K 32 ?_ ?_ (n := 1100) (s := τ) (by decide) ⟨Fr.rf _ _, fun z hz => absurd hz (Nat.not_lt_zero _)⟩
    · intro n t ht
      show M_next_L4 K 0 (n + 1) (nI 32) t = K t
      rw [M_next_L4, if_pos (by decide)]
    · intro x n t hx ht
      refine ⟨sX t 39 0 x 0, ?_, ht.1.st _ _ _ _ rfl, ?_⟩
      · show M_next_L4 K 0 (n + 1) (nI x) t = M_next_L4 K 0 n (nI (x + 1)) _
        rw [M_next_L4, if_neg (g32 hx), if_pos (inb_nI hx (by decide)), nI_clamp (n := x) (by omega), nI_1]
      · intro z hz
        by_cases e : z = x
        · subst e; rw [sX_s]
        · rw [sX_o (by omega)]; exact ht.2 z (by omega)
  have hm : ∀ K u0, Fr pScr τ u0 → (∀ x, x < 32 → u0.1 39 0 x = 0) → ∃ u, M_next_L25 K 1100 0 0 u0 = K (bI (anyB (spk τ) (nM τ))) u ∧ Fr pScr τ u ∧ ∀ x, x < 32 → u.1 39 0 x = nI (dou τ (nM τ) x) := by
    intro K u0 hu0 h0
    have hh := lpU (fun n m (p : Int32 × St) => M_next_L25 K n p.1 (nI m) p.2) (fun m p => p.1 = bI (anyB (spk τ) m) ∧ Fr pScr τ p.2 ∧ ∀ x, x < 32 → p.2.1 39 0 x = nI (dou τ m x)) (fun p => K p.1 p.2) (nM τ) (by
      intro n p hp
      show M_next_L25 K (n + 1) p.1 (nI (nM τ)) p.2 = _
      rw [M_next_L25, nMt h.w hp.2.1, if_pos (nI_le (Nat.le_refl _) (by omega))]) (by
      intro m n p hm hp
      obtain ⟨v, u⟩ := p
      obtain ⟨e, hu, hx⟩ := hp
      dsimp only at e hu hx
      subst e
      have hso : M_sayingsOf (nI m) u = some (nI (kO τ m)) := by
        rw [sayingsOf_eq (WF_eq hu.eqm h.w) (by omega), (mnd_view hu.eqm).2.2.2.2.1]
      have ha : anyB (spk τ) (m + 1) = (anyB (spk τ) m || spk τ m) := rfl
      have hdo : ∀ x, dou τ (m + 1) x = dou τ m x + if (spk τ m && decide (frs τ m x = 2)) = true then 1 else 0 := fun x => rfl
      by_cases c : 0 < kO τ m
      · have es : spk τ m = true := decide_eq_true c
        obtain ⟨u', u1, u2, u3⟩ := setCheap_as h.w (m := m) (by omega) hu
        obtain ⟨t, t1, t2, t3⟩ := next_in (τ := τ) (m := m) 1 (nI m) (fun (s_32 : St) => M_next_J85 (M_next_L25 K n) 1 (nI m) s_32) u3
        refine ⟨(bI (anyB (spk τ) (m + 1)), t), ?_, rfl, (pCh_tr hu u2).tr (t2.wk pDb_scr), ?_⟩
        · show M_next_L25 K (n + 1) (bI (anyB (spk τ) m)) (nI m) u = M_next_L25 K n _ (nI (m + 1)) t
          rw [M_next_L25, nMt h.w hu, if_neg (nI_ge hm (by omega)), hso, Option.bind_some, if_neg (fun z => (kO_le0 h.w m).mp z c), u1, Option.bind_some, t1]
          unfold M_next_J85
          rw [nI_1, ha, es, Bool.or_true]
          rfl
        · intro x hx'
          rw [t3 x hx', u2.2 39 0 x rfl, hx x hx', hdo, es, Bool.true_and]
          rcases frs_lt τ m x with f | f | f <;> rw [f]
          · rw [if_neg (by decide), if_neg (by decide), Int32.add_zero]; rfl
          · rw [if_neg (by decide), if_neg (by decide), Int32.add_zero]; rfl
          · rw [if_pos rfl, if_pos (by decide), nI_1]
      · have es : spk τ m = false := decide_eq_false c
        refine ⟨(bI (anyB (spk τ) (m + 1)), u), ?_, rfl, hu, ?_⟩
        · show M_next_L25 K (n + 1) (bI (anyB (spk τ) m)) (nI m) u = M_next_L25 K n _ (nI (m + 1)) u
          rw [M_next_L25, nMt h.w hu, if_neg (nI_ge hm (by omega)), hso, Option.bind_some, if_pos ((kO_le0 h.w m).mpr c)]
          unfold M_next_J85
          rw [nI_1, ha, es, Bool.or_false]
        · intro x hx'
          rw [hx x hx', hdo, es, Bool.false_and, if_neg (by decide)]; rfl) (n := 1100) (s := ((0 : Int32), u0)) (by omega) ⟨rfl, hu0, fun x hx => (h0 x hx)⟩
    obtain ⟨p, p1, p2, p3, p4⟩ := hh
    exact ⟨p.2, by rw [← p2]; exact p1, p3, p4⟩
  have hb : ∀ K v u, (∀ x, x < 32 → u.1 39 0 x = nI (dou τ (nM τ) x)) → M_next_L95 K v 1100 0 1 u = K (nI (fmX (dou τ (nM τ)) 32)) u := by
    intro K v u hu
    have hh := lpV (fun n x (b : Int32) => M_next_L95 K v n b (nI x) u) (fun x b => 0 < x ∧ b = nI (fmX (dou τ (nM τ)) x)) (fun b => K b u) 1 32 (by
      intro n b _
      show M_next_L95 K v (n + 1) b (nI 32) u = _
      rw [M_next_L95, if_pos (by decide)]) (by
      intro x n b hx hp
      obtain ⟨h0, e⟩ := hp
      subst e
      have hfl := fmX_lt (dou τ (nM τ)) x h0
      refine ⟨nI (fmX (dou τ (nM τ)) (x + 1)), ?_, by omega, rfl⟩
      show M_next_L95 K v (n + 1) _ (nI x) u = M_next_L95 K v n _ (nI (x + 1)) u
      have hf : fmX (dou τ (nM τ)) (x + 1) = if dou τ (nM τ) (fmX (dou τ (nM τ)) x) < dou τ (nM τ) x then x else fmX (dou τ (nM τ)) x := rfl
      have hle := nI_leI (a := dou τ (nM τ) x) (b := dou τ (nM τ) (fmX (dou τ (nM τ)) x)) (by have := hd x; omega) (by have := hd (fmX (dou τ (nM τ)) x); omega)
      rw [M_next_L95, if_neg (g32 hx), if_pos (inb_nI hx (by decide)), if_pos (inb_nI (by omega) (by decide)), nI_clamp (n := x) (by omega), nI_clamp (n := fmX (dou τ (nM τ)) x) (by omega), hu x hx, hu _ (by omega), nI_1, hf]
      by_cases c : dou τ (nM τ) (fmX (dou τ (nM τ)) x) < dou τ (nM τ) x
      · rw [if_neg (fun z => by have := hle.mp z; omega), if_pos c]
      · rw [if_pos (hle.mpr (by omega)), if_neg c]) (n := 1100) (s := (0 : Int32)) (by decide) (by decide) ⟨by decide, by
        have e0 : fmX (dou τ (nM τ)) 1 = 0 := by
          have := fmX_lt (dou τ (nM τ)) 1 (by decide)
          omega
        rw [e0]; rfl⟩
    obtain ⟨b, b1, b2, b3⟩ := hh
    rw [b3] at b1
    exact b1
  unfold Q_next M_next
  obtain ⟨u0, z1, z2, z3⟩ := hz (fun (s_7 : St) => M_next_L25 (fun (v1_35 : Int32) (s_36 : St) => M_next_L95 (fun (v2_48 : Int32) (s_49 : St) => if v1_35 = 0 then (some ((-9), s_49)) else (if inb v2_48 32 = true then Option.bind (M_ask (s_49.1 39 0 v2_48.toNatClampNeg) v2_48 s_49) (fun r_52 => some (r_52.1, r_52.2)) else none)) v1_35 1100 0 1 s_36) 1100 0 0 s_7)
  obtain ⟨u, m1, m2, m3⟩ := hm (fun (v1_35 : Int32) (s_36 : St) => M_next_L95 (fun (v2_48 : Int32) (s_49 : St) => if v1_35 = 0 then (some ((-9), s_49)) else (if inb v2_48 32 = true then Option.bind (M_ask (s_49.1 39 0 v2_48.toNatClampNeg) v2_48 s_49) (fun r_52 => some (r_52.1, r_52.2)) else none)) v1_35 1100 0 1 s_36) u0 z2 z3
  rw [z1, m1, hb _ _ _ m3]
  have e7 : σ.1 3 0 7 = nI (nS τ) := h.c.say.1.trans h.w.1.2.2.1.1
  have hfl := fmX_lt (dou τ (nM τ)) 32 (by decide)
  rw [e7]
  by_cases c : nS τ = 0
  · have es : anyB (spk τ) (nM τ) = false := by
      cases ha : anyB (spk τ) (nM τ)
      · rfl
      · obtain ⟨m, _, hm⟩ := anyB_iff.mp ha
        have : 0 < kO τ m := of_decide_eq_true hm
        unfold kO at this
        rw [c] at this
        exact absurd this (Nat.lt_irrefl _)
    rw [if_pos (show nI (nS τ) = 0 from by rw [c]; rfl), es, if_pos (show bI false = 0 from rfl)]
    exact ⟨_, _, _, rfl, rfl, Inv_ms h m2⟩
  · have es : anyB (spk τ) (nM τ) = true := anyB_iff.mpr ⟨sm τ 0, (h.w.say 0 (by omega)).1.2, decide_eq_true (kO_pos (by omega))⟩
    obtain ⟨s, s1, s2, s3, s4⟩ := settled_eq h
    rw [if_neg (nI_ne0 (by omega) (by omega)), s1, Option.bind_some, Qnext_lp s2 s4, es, if_neg (show ¬ bI true = 0 from by decide), if_pos (inb_nI hfl (by decide)), nI_clamp (by omega), m3 _ hfl]
    exact ⟨_, _, _, rfl, rfl, Inv_tell (Inv_ms s2 m2) _⟩
