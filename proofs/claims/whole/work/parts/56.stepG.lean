/-! ===== law ===== -/
/-- what m's rule answers of x -/
def vr (s : St) (x m : Nat) : Nat := vd (tn (s.1 24 m 2)) x
def vot (τ : St) (b m : Nat) : Nat := if spk τ m = true then (if b = 2 then nP τ m + 1 else 1) else 0
def vO (s τ : St) (b x n : Nat) : Nat := sumN (fun m => if vr s x m = 1 then vot τ b m else 0) n
def vN (s τ : St) (b x n : Nat) : Nat := sumN (fun m => if vr s x m = 1 then 0 else vot τ b m) n
def lm (τ : St) : Nat → Option Nat
  | 0 => none
  | m + 1 => if spk τ m = true then (match lm τ m with
    | none => some m
    | some l => if tn (τ.1 14 0 l) < tn (τ.1 14 0 m) then some m else some l) else lm τ m
def oI : Option Nat → Int32
  | none => -9
  | some l => nI l
theorem lm_lt (τ : St) : ∀ n l, lm τ n = some l → l < n := by
  intro n
  induction n with
  | zero => intro l h; exact absurd h (by simp [lm])
  | succ n ih =>
    intro l h
    unfold lm at h
    by_cases c : spk τ n = true
    · rw [if_pos c] at h
      cases e : lm τ n with
      | none => rw [e] at h; simp at h; omega
      | some q =>
        rw [e] at h
        have := ih q e
        dsimp only at h
        split at h <;> simp at h <;> omega
    · rw [if_neg c] at h
      have := ih l h
      omega
theorem lm_none (τ : St) : ∀ n, lm τ n = none → ∀ m, m < n → spk τ m = false := by
  intro n
  induction n with
  | zero => intro _ m hm; omega
  | succ n ih =>
    intro h m hm
    unfold lm at h
    by_cases c : spk τ n = true
    · rw [if_pos c] at h
      cases e : lm τ n with
      | none => rw [e] at h; simp at h
      | some q =>
        rw [e] at h
        dsimp only at h
        split at h <;> simp at h
    · rw [if_neg c] at h
      by_cases e : m = n
      · subst e
        cases hx : spk τ m
        · rfl
        · exact absurd hx c
      · exact ih h m (by omega)
theorem sumN_0 {f : Nat → Nat} {n : Nat} (h : ∀ i, i < n → f i = 0) : sumN f n = 0 := by
  induction n with
  | zero => rfl
  | succ n ih =>
    unfold sumN
    rw [ih (fun i hi => h i (by omega)), h n (by omega)]
def rulE (s τ : St) (b x : Nat) : Int32 := if b = 1 then (match lm τ (nM τ) with
  | none => -9
  | some l => nI (vr s x l)) else if vO s τ b x (nM τ) = vN s τ b x (nM τ) then -9 else if vO s τ b x (nM τ) ≤ vN s τ b x (nM τ) then 0 else 1
def grdE (s τ : St) (b x : Nat) : Int32 := if b = 1 then oI (lm τ (nM τ)) else nI (vO s τ b x (nM τ))
theorem nP_le (τ : St) (m : Nat) : nP τ m ≤ nM τ := cnt_le _ _
theorem vot_le {τ : St} (w : WF τ) (b m : Nat) : vot τ b m ≤ 9 := by
  have := nP_le τ m
  have := w.nM8
  unfold vot
  split
  · split <;> omega
  · omega
theorem vO_le {s τ : St} (w : WF τ) (b x : Nat) {n : Nat} (hn : n ≤ nM τ) : vO s τ b x n ≤ 72 ∧ vN s τ b x n ≤ 72 := by
  have hM := w.nM8
  have h1 := sumN_le (f := fun m => if vr s x m = 1 then vot τ b m else 0) (n := n) (c := 9) (fun i _ => by have := vot_le w b i; split <;> omega)
  have h2 := sumN_le (f := fun m => if vr s x m = 1 then 0 else vot τ b m) (n := n) (c := 9) (fun i _ => by have := vot_le w b i; split <;> omega)
  unfold vO vN
  omega
theorem vr_eq {s τ : St} (h : Inv s τ) {m x : Nat} (hK : Mnd s τ m) (hx : x < 32) : Ru_verdict (s.1 24 m 2) (nI x) s = some (nI (vr s x m)) ∧ M_answer (s.1 24 m 2) (nI x) = some (nI (vr s x m)) := by
  obtain ⟨l, hl, el⟩ := Mnd_l h.w hK
  unfold vr
  rw [el, tn_nI (by omega)]
  exact ⟨Ru_verdict_eq h.c.rul.1 hl hx, M_answer_eq hl hx⟩
theorem more_eq {s τ : St} (h : Inv s τ) (hK : ∀ m, m < nM τ → Mnd s τ m) {b x : Nat} (hb : b = 0 ∨ b = 2) (hx : x < 32) : Ct_ofTheMore (nI b) (nI x) s = some (rulE s τ b x, sX s 5 0 0 (grdE s τ b x)) := by
  have hM := h.w.nM8
  have hL : ∀ K, Ct_ofTheMore_L9 K (nI b) (nI x) 1100 0 0 0 s = K (nI (vO s τ b x (nM τ))) (nI (vN s τ b x (nM τ))) s := by
    intro K
    refine lpF (fun n m (v : Int32 × Int32) => Ct_ofTheMore_L9 K (nI b) (nI x) n v.1 v.2 (nI m) s) (fun i => (nI (vO s τ b x i), nI (vN s τ b x i))) _ (nM τ) ?_ ?_ (n := 1100) (by omega)
    · intro n
      show Ct_ofTheMore_L9 K (nI b) (nI x) (n + 1) _ _ (nI (nM τ)) s = _
      rw [Ct_ofTheMore_L9, nMs h, if_pos (nI_le (Nat.le_refl _) (by omega))]
    · intro m n hm
      show Ct_ofTheMore_L9 K (nI b) (nI x) (n + 1) (nI (vO s τ b x m)) (nI (vN s τ b x m)) (nI m) s = Ct_ofTheMore_L9 K (nI b) (nI x) n (nI (vO s τ b x m + if vr s x m = 1 then vot τ b m else 0)) (nI (vN s τ b x m + if vr s x m = 1 then 0 else vot τ b m)) (nI (m + 1)) s
      have hJ : ∀ t : Nat, Ct_ofTheMore_J53 (Ct_ofTheMore_L9 K (nI b) (nI x) n) (nI b) (nI x) (nI (vO s τ b x m)) (nI (vN s τ b x m)) (nI m) (nI t) s = Ct_ofTheMore_L9 K (nI b) (nI x) n (nI (vO s τ b x m + if vr s x m = 1 then t else 0)) (nI (vN s τ b x m + if vr s x m = 1 then 0 else t)) (nI (m + 1)) s := by
        intro t
        unfold Ct_ofTheMore_J53 Ct_ofTheMore_J97
        rw [if_pos (inb_nI (by omega) (by decide)), nI_clamp (n := m) (by omega), (vr_eq h (hK m hm) hx).1, Option.bind_some, nI_1]
        have h01 : vr s x m = 0 ∨ vr s x m = 1 := vd_01 _ _
        rcases h01 with e | e
        · rw [e, if_neg (show ¬ nI 0 = 1 by decide), if_neg (by decide), if_neg (by decide), nI_add]; rfl
        · rw [e, if_pos (show nI 1 = 1 from rfl), if_pos rfl, if_pos rfl, nI_add]; rfl
      rw [Ct_ofTheMore_L9, nMs h, if_neg (nI_ge hm (by omega)), if_pos (inb_nI (by omega) (by decide)), nI_clamp (n := m) (by omega)]
      by_cases c : 0 < kO τ m
      · have es : spk τ m = true := decide_eq_true c
        rw [if_neg (fun z => (spoken_eq h hm).mp z c)]
        unfold vot
        rw [es, if_pos rfl]
        rcases hb with e | e
        · subst e
          rw [if_pos (show nI 0 = 0 from rfl), if_neg (show ¬ (0 : Nat) = 2 by decide)]
          exact hJ 1
        · subst e
          rw [if_neg (show ¬ nI 2 = 0 by decide), Bk_pupils_eq h (by omega), Option.bind_some, nI_1, if_pos rfl]
          exact hJ (nP τ m + 1)
      · have es : spk τ m = false := decide_eq_false c
        rw [if_pos ((spoken_eq h hm).mpr c)]
        unfold vot Ct_ofTheMore_J97
        rw [es, if_neg (show ¬ false = true by decide), nI_1]
        split <;> rfl
  have hbb := vO_le (s := s) h.w b x (Nat.le_refl (nM τ))
  have q1 := nI_eq (a := vO s τ b x (nM τ)) (b := vN s τ b x (nM τ)) (by omega) (by omega)
  have q2 := nI_leI (a := vO s τ b x (nM τ)) (b := vN s τ b x (nM τ)) (by omega) (by omega)
  have hb1 : ¬ b = 1 := by omega
  unfold Ct_ofTheMore
  rw [hL]
  unfold rulE grdE
  rw [if_neg hb1, if_neg hb1]
  simp only [q1, q2]
theorem later_eq {s τ : St} (h : Inv s τ) (hK : ∀ m, m < nM τ → Mnd s τ m) {x : Nat} (hx : x < 32) : Ct_ofTheLater (nI x) s = some (rulE s τ 1 x, sX s 5 0 0 (grdE s τ 1 x)) := by
  have hM := h.w.nM8
  have hL : ∀ K, Ct_ofTheLater_L6 K (nI x) 1100 (-9) 0 s = K (oI (lm τ (nM τ))) s := by
    intro K
    refine lpF (fun n m (v : Int32) => Ct_ofTheLater_L6 K (nI x) n v (nI m) s) (fun i => oI (lm τ i)) _ (nM τ) ?_ ?_ (n := 1100) (by omega)
    · intro n
      show Ct_ofTheLater_L6 K (nI x) (n + 1) _ (nI (nM τ)) s = _
      rw [Ct_ofTheLater_L6, nMs h, if_pos (nI_le (Nat.le_refl _) (by omega))]
    · intro m n hm
      show Ct_ofTheLater_L6 K (nI x) (n + 1) (oI (lm τ m)) (nI m) s = Ct_ofTheLater_L6 K (nI x) n (oI (lm τ (m + 1))) (nI (m + 1)) s
      rw [Ct_ofTheLater_L6, nMs h, if_neg (nI_ge hm (by omega)), if_pos (inb_nI (by omega) (by decide)), nI_clamp (n := m) (by omega)]
      unfold Ct_ofTheLater_J53 Ct_ofTheLater_J56
      rw [nI_1]
      have hl : lm τ (m + 1) = if spk τ m = true then (match lm τ m with
        | none => some m
        | some l => if tn (τ.1 14 0 l) < tn (τ.1 14 0 m) then some m else some l) else lm τ m := rfl
      rw [hl]
      by_cases c : 0 < kO τ m
      · have es : spk τ m = true := decide_eq_true c
        rw [if_neg (fun z => (spoken_eq h hm).mp z c), if_pos es]
        cases e : lm τ m with
        | none => rw [if_pos (show oI none = -9 from rfl)]; rfl
        | some l =>
          have hll := lm_lt τ m l e
          obtain ⟨a1, d1, x1, x2, x3, x4, x5, x6⟩ := life_at h hm
          obtain ⟨a2, d2, y1, y2, y3, y4, y5, y6⟩ := life_at h (show l < nM τ by omega)
          rw [show oI (some l) = nI l from rfl, if_neg (neg9 (by omega)), if_pos (inb_nI (by omega) (by decide)), if_pos (inb_nI (by omega) (by decide)), nI_clamp (n := l) (by omega), x6, y6]
          dsimp only
          rw [x4, y4, tn_nI (by omega), tn_nI (by omega)]
          have hle := nI_leI (a := d1) (b := d2) (by omega) (by omega)
          by_cases cd : d2 < d1
          · rw [if_neg (fun z => by have := hle.mp z; omega), if_pos cd]; rfl
          · rw [if_pos (hle.mpr (by omega)), if_neg cd]; rfl
      · have es : ¬ spk τ m = true := fun z => c (of_decide_eq_true z)
        rw [if_pos ((spoken_eq h hm).mpr c), if_neg es]
  unfold Ct_ofTheLater
  rw [hL]
  unfold rulE grdE
  rw [if_pos rfl, if_pos rfl]
  cases e : lm τ (nM τ) with
  | none => rw [if_pos (show oI none = -9 from rfl)]
  | some l =>
    have hll := lm_lt τ _ l e
    have h5 : Inv (sX s 5 0 0 (oI (some l))) τ := Inv_fr ((Fr.rf _ _).st _ _ _ _ rfl) h
    have hK5 : Mnd (sX s 5 0 0 (oI (some l))) τ l := Mnd_s (by funext j; rw [sX_o (by omega)]) (by funext j; rw [sX_o (by omega)]) (hK l hll)
    have e2 : (sX s 5 0 0 (oI (some l))).1 24 l 2 = s.1 24 l 2 := sX_o (by omega)
    have hv := (vr_eq h5 hK5 hx).1
    rw [if_neg (show ¬ oI (some l) = -9 from neg9 (by omega)), show oI (some l) = nI l from rfl, if_pos (inb_nI (by omega) (by decide)), nI_clamp (n := l) (by omega)]
    have ev : vr (sX s 5 0 0 (oI (some l))) x l = vr s x l := by unfold vr; rw [e2]
    rw [ev] at hv
    exact congrArg (fun o => Option.bind o (fun r_31 => some (r_31, sX s 5 0 0 (nI l)))) hv
theorem ruling_eq {s τ : St} (h : Inv s τ) (hK : ∀ m, m < nM τ → Mnd s τ m) {b x : Nat} (hb : b < 3) (hx : x < 32) : Ct_ruling (nI b) (nI x) s = some (rulE s τ b x, sX s 5 0 0 (grdE s τ b x)) := by
  have h3 : b = 1 ∨ b = 0 ∨ b = 2 := by omega
  unfold Ct_ruling
  rcases h3 with e | e
  · subst e
    rw [if_pos (show nI 1 = 1 from rfl), later_eq h hK hx]; rfl
  · have e1 : ¬ nI b = 1 := by rcases e with e | e <;> subst e <;> decide
    rw [if_neg e1, more_eq h hK e hx]; rfl
theorem lawOf_eq {s τ u : St} (h : Inv s τ) (hK : ∀ m, m < nM τ → Mnd s τ m) (hu : Fr pScr τ u) (h32 : ∀ m, m < nM τ → u.1 32 0 m = s.1 24 m 2) {b x : Nat} (hb : b < 3) (hx : x < 32) : ∃ u', M_lawOf (nI b) (nI x) u = some (rulE s τ b x, u') ∧ Fr pScr τ u' ∧ (∀ m, m < nM τ → u'.1 32 0 m = s.1 24 m 2) ∧ (¬ rulE s τ b x = -9 → u'.1 0 0 38 = grdE s τ b x) := by
  have hM := h.w.nM8
  have hL : ∀ K, ∃ t, M_lawOf_L14 K (nI b) (nI x) 1100 0 (-9) 0 (sX u 0 0 38 0) = K (nI (vO s τ b x (nM τ) + vN s τ b x (nM τ))) (oI (lm τ (nM τ))) t ∧ Fr pScr τ t ∧ (∀ m, m < nM τ → t.1 32 0 m = s.1 24 m 2) ∧ t.1 0 0 38 = nI (vO s τ b x (nM τ)) := by
    intro K
    have hh := lpU (fun n m (p : Int32 × Int32 × St) => M_lawOf_L14 K (nI b) (nI x) n p.1 p.2.1 (nI m) p.2.2) (fun m p => p.1 = nI (vO s τ b x m + vN s τ b x m) ∧ p.2.1 = oI (lm τ m) ∧ Fr pScr τ p.2.2 ∧ (∀ k, k < nM τ → p.2.2.1 32 0 k = s.1 24 k 2) ∧ p.2.2.1 0 0 38 = nI (vO s τ b x m)) (fun p => K p.1 p.2.1 p.2.2) (nM τ) (by
      intro n p hp
      show M_lawOf_L14 K (nI b) (nI x) (n + 1) p.1 p.2.1 (nI (nM τ)) p.2.2 = _
      rw [M_lawOf_L14, nMt h.w hp.2.2.1, if_pos (nI_le (Nat.le_refl _) (by omega))]) (by
      intro m n p hm hp
      obtain ⟨v, l, t⟩ := p
      obtain ⟨p1, p2, p3, p4, p5⟩ := hp
      dsimp only at p1 p2 p3 p4 p5
      subst p1; subst p2
      have hso : M_sayingsOf (nI m) t = some (nI (kO τ m)) := by
        rw [sayingsOf_eq (WF_eq p3.eqm h.w) (by omega), (mnd_view p3.eqm).2.2.2.2.1]
      have hpu : M_pupils (nI m) t = some (nI (nP τ m)) := by
        rw [M_pupils_eq (WF_eq p3.eqm h.w) (by omega)]
        have e1 : nM t = nM τ := (p3.eqm.v).2.1
        have e2 : leads t = leads τ := (p3.eqm.v).2.2.2.2.2.2.2.2.2.2.2
        have e3 : t.1 15 0 = τ.1 15 0 := p3.eqm.1 15 rfl
        unfold nP
        rw [e1, e2, e3]
      have hvo : vO s τ b x (m + 1) = vO s τ b x m + if vr s x m = 1 then vot τ b m else 0 := rfl
      have hvn : vN s τ b x (m + 1) = vN s τ b x m + if vr s x m = 1 then 0 else vot τ b m := rfl
      have h01 : vr s x m = 0 ∨ vr s x m = 1 := vd_01 _ _
      have hsum : vO s τ b x (m + 1) + vN s τ b x (m + 1) = vO s τ b x m + vN s τ b x m + vot τ b m := by
        rw [hvo, hvn]
        rcases h01 with e | e <;> rw [e] <;> simp <;> omega
      have hll : lm τ (m + 1) = if spk τ m = true then (match lm τ m with
        | none => some m
        | some l => if tn (τ.1 14 0 l) < tn (τ.1 14 0 m) then some m else some l) else lm τ m := rfl
      have hvl := vot_le h.w b m
      have hJ : ∀ tv : Nat, tv = vot τ b m → (0 < tv ↔ spk τ m = true) → M_lawOf_J53 (M_lawOf_L14 K (nI b) (nI x) n) (nI b) (nI x) (nI (vO s τ b x m + vN s τ b x m)) (oI (lm τ m)) (nI m) (nI tv) t = M_lawOf_L14 K (nI b) (nI x) n (nI (vO s τ b x (m + 1) + vN s τ b x (m + 1))) (oI (lm τ (m + 1))) (nI (m + 1)) (sX t 0 0 38 (nI (vO s τ b x (m + 1)))) := by
        intro tv etv hsp
        have e38 : t.1 0 0 38 + (if nI (vr s x m) = 1 then nI tv else 0 : Int32) = nI (vO s τ b x (m + 1)) := by
          rw [p5, hvo, ← etv]
          rcases h01 with e | e
          · rw [e, if_neg (show ¬ nI 0 = 1 by decide), if_neg (by decide), Int32.add_zero]; rfl
          · rw [e, if_pos (show nI 1 = 1 from rfl), if_pos rfl, nI_add]
        unfold M_lawOf_J53 M_lawOf_J124
        rw [if_pos (inb_nI (by omega) (by decide)), nI_clamp (n := m) (by omega), p4 m hm, (vr_eq h (hK m hm) hx).2, Option.bind_some, e38, nI_add, nI_1, hsum, ← etv]
        have hle0 := nI_leI (a := tv) (b := 0) (by omega) (by omega)
        by_cases c : spk τ m = true
        · have c0 : ¬ nI tv ≤ 0 := fun z => by have := hle0.mp z; have := hsp.mpr c; omega
          rw [if_neg c0, hll, if_pos c]
          cases e : lm τ m with
          | none => rw [if_pos (show oI none < 0 from by decide)]; rfl
          | some l =>
            have hlt := lm_lt τ m l e
            obtain ⟨a1, d1, x1, x2, x3, x4, x5, x6⟩ := life_at h hm
            obtain ⟨a2, d2, y1, y2, y3, y4, y5, y6⟩ := life_at h (show l < nM τ by omega)
            have z1 : ∀ z, (sX t 0 0 38 z).1 14 0 m = nI d1 := fun z => by rw [sX_o (by omega), p3.2 14 0 m rfl]; exact x4
            have z2 : ∀ z, (sX t 0 0 38 z).1 14 0 l = nI d2 := fun z => by rw [sX_o (by omega), p3.2 14 0 l rfl]; exact y4
            rw [show oI (some l) = nI l from rfl, if_neg (nI_pos (by omega)), if_pos (inb_nI (by omega) (by decide)), if_pos (inb_nI (by omega) (by decide)), nI_clamp (n := l) (by omega), z1, z2]
            dsimp only
            rw [x4, y4, tn_nI (by omega), tn_nI (by omega)]
            have hle := nI_leI (a := d1) (b := d2) (by omega) (by omega)
            by_cases cd : d2 < d1
            · rw [if_neg (fun z => by have := hle.mp z; omega), if_pos cd]; rfl
            · rw [if_pos (hle.mpr (by omega)), if_neg cd]; rfl
        · have c0 : nI tv ≤ 0 := hle0.mpr (by
            have : ¬ 0 < tv := fun z => c (hsp.mp z)
            omega)
          rw [if_pos c0, hll, if_neg c]
      refine ⟨(nI (vO s τ b x (m + 1) + vN s τ b x (m + 1)), oI (lm τ (m + 1)), sX t 0 0 38 (nI (vO s τ b x (m + 1)))), ?_, rfl, rfl, p3.st _ _ _ _ rfl, ?_, sX_s⟩
      · show M_lawOf_L14 K (nI b) (nI x) (n + 1) (nI (vO s τ b x m + vN s τ b x m)) (oI (lm τ m)) (nI m) t = M_lawOf_L14 K (nI b) (nI x) n _ _ (nI (m + 1)) _
        rw [M_lawOf_L14, nMt h.w p3, if_neg (nI_ge hm (by omega)), hso, Option.bind_some, hpu, Option.bind_some]
        by_cases c : 0 < kO τ m
        · have es : spk τ m = true := decide_eq_true c
          have hk9 := h.w.k9 m
          rw [if_neg (nI_ne0 c (by omega))]
          by_cases c2 : b = 2
          · subst c2
            rw [if_pos (show nI 2 = 2 from rfl), nI_1]
            have ev : nP τ m + 1 = vot τ 2 m := by unfold vot; rw [if_pos es, if_pos rfl]
            exact hJ (nP τ m + 1) ev ⟨fun _ => es, fun _ => by omega⟩
          · have e2 : ¬ nI b = 2 := fun z => c2 ((nI_eq (a := b) (b := 2) (by omega) (by decide)).mp z)
            rw [if_neg e2]
            have ev : 1 = vot τ b m := by unfold vot; rw [if_pos es, if_neg c2]
            exact hJ 1 ev ⟨fun _ => es, fun _ => by omega⟩
        · have es : ¬ spk τ m = true := fun z => c (of_decide_eq_true z)
          rw [if_pos (show nI (kO τ m) = 0 from by rw [show kO τ m = 0 by omega]; rfl)]
          have ev : 0 = vot τ b m := by unfold vot; rw [if_neg es]
          exact hJ 0 ev ⟨fun z => absurd z (Nat.lt_irrefl _), fun z => absurd z es⟩
      · intro k hk
        show (sX t 0 0 38 _).1 32 0 k = _
        rw [sX_o (by omega)]; exact p4 k hk) (n := 1100) (s := ((0 : Int32), (-9 : Int32), sX u 0 0 38 0)) (by omega) ⟨rfl, rfl, hu.st _ _ _ _ rfl, fun k hk => by
          show (sX u 0 0 38 0).1 32 0 k = _
          rw [sX_o (by omega)]; exact h32 k hk, sX_s⟩
    obtain ⟨p, p1, p2, p3, p4, p5, p6⟩ := hh
    exact ⟨p.2.2, by rw [← p2, ← p3]; exact p1, p4, p5, p6⟩
  have hbb := vO_le (s := s) h.w b x (Nat.le_refl (nM τ))
  unfold M_lawOf
  obtain ⟨t, t1, t2, t3, t4⟩ := hL (fun (v3_46 : Int32) (v4_47 : Int32) (s_48 : St) => if 0 ≤ v4_47 then (if nI b = 1 then (if inb v4_47 8 = true then Option.bind (M_answer ((sX s_48 0 0 38 v4_47).1 32 0 v4_47.toNatClampNeg) (nI x)) (fun r_55 => some (r_55, sX s_48 0 0 38 v4_47)) else none) else (some ((if (2 * (s_48.1 0 0 38)) = v3_46 then (-9) else (if (2 * (s_48.1 0 0 38)) ≤ v3_46 then 0 else 1) : Int32), s_48))) else (some ((-9), s_48)))
  rw [t1, t4]
  have h2 : (2 : Int32) * nI (vO s τ b x (nM τ)) = nI (2 * vO s τ b x (nM τ)) := pk_mul 2 _
  have q1 := nI_eq (a := 2 * vO s τ b x (nM τ)) (b := vO s τ b x (nM τ) + vN s τ b x (nM τ)) (by omega) (by omega)
  have q2 := nI_leI (a := 2 * vO s τ b x (nM τ)) (b := vO s τ b x (nM τ) + vN s τ b x (nM τ)) (by omega) (by omega)
  rw [h2]
  unfold rulE grdE
  cases e : lm τ (nM τ) with
  | none =>
    rw [if_neg (show ¬ (0 : Int32) ≤ oI none from by decide)]
    have hz : ∀ m, m < nM τ → vot τ b m = 0 := fun m hm => by unfold vot; rw [lm_none τ _ e m hm]; rfl
    have e1 : vO s τ b x (nM τ) = 0 := sumN_0 (fun m hm => by rw [hz m hm]; split <;> rfl)
    have e2 : vN s τ b x (nM τ) = 0 := sumN_0 (fun m hm => by rw [hz m hm]; split <;> rfl)
    refine ⟨t, ?_, t2, t3, ?_⟩
    · by_cases c : b = 1
      · rw [if_pos c]
      · rw [if_neg c, if_pos (by omega)]
    · by_cases c : b = 1
      · rw [if_pos c]; exact fun z => absurd rfl z
      · rw [if_neg c, if_pos (by omega)]; exact fun z => absurd rfl z
  | some l =>
    have hll := lm_lt τ _ l e
    rw [show oI (some l) = nI l from rfl, if_pos (nI_pos' (by omega))]
    by_cases c : b = 1
    · subst c
      rw [if_pos (show nI 1 = 1 from rfl), if_pos (inb_nI (by omega) (by decide)), nI_clamp (n := l) (by omega), sX_o (by omega), t3 l hll, (vr_eq h (hK l hll) hx).2, Option.bind_some, if_pos rfl, if_pos rfl]
      refine ⟨_, rfl, t2.st _ _ _ _ rfl, ?_, fun _ => sX_s⟩
      intro m hm
      rw [sX_o (by omega)]; exact t3 m hm
    · have e1 : ¬ nI b = 1 := fun z => c ((nI_eq (a := b) (b := 1) (by omega) (by decide)).mp z)
      rw [if_neg e1, if_neg c, if_neg c]
      refine ⟨t, ?_, t2, t3, fun _ => t4⟩
      congr 2
      by_cases c1 : vO s τ b x (nM τ) = vN s τ b x (nM τ)
      · rw [if_pos c1, if_pos (q1.mpr (by omega))]
      · rw [if_neg c1, if_neg (fun z => c1 (by have := q1.mp z; omega))]
        by_cases c2 : vO s τ b x (nM τ) ≤ vN s τ b x (nM τ)
        · rw [if_pos c2, if_pos (q2.mpr (by omega))]
        · rw [if_neg c2, if_neg (fun z => c2 (by have := q2.mp z; omega))]
theorem step_40 : Stp_40 Inv := by
  intro a1 a2 σ τ h
  unfold Q_law M_law M_isBy M_isSet
  by_cases hx : ∃ j, j < 3 ∧ a1 = nI j
  · obtain ⟨b, hb, rfl⟩ := hx
    rw [if_neg (wi3 hb), if_neg (mi3 hb)]
    by_cases hy : ∃ j, j < 32 ∧ a2 = nI j
    · obtain ⟨x, hx, rfl⟩ := hy
      obtain ⟨s, s1, s2, s3, s4⟩ := settled_eq h
      obtain ⟨u, u1, u2, u3⟩ := setRules_eq h.w s4
      obtain ⟨t, t1, t2, t3, t4⟩ := lawOf_eq s2 s4 u2 u3 hb hx
      rw [if_neg (wi32 hx), if_neg (mi32 hx), s1, u1, Option.bind_some, Option.bind_some, ruling_eq s2 s4 hb hx, t1, Option.bind_some, Option.bind_some]
      have h5 : Inv (sX s 5 0 0 (grdE s τ b x)) t := Inv_ms (Inv_fr ((Fr.rf _ _).st _ _ _ _ rfl) s2) t2
      by_cases c : rulE s τ b x = -9
      · rw [if_pos c, if_pos c]
        exact ⟨_, _, _, rfl, rfl, h5⟩
      · dsimp only
        rw [if_neg c, if_neg c, sX_s, t4 c]
        exact ⟨_, _, _, rfl, rfl, Inv_tell h5 _⟩
    · rw [if_pos (wo32 hy), if_pos (mo32 hy)]
      exact ⟨_, _, _, rfl, rfl, h⟩
  · rw [if_pos (wo3 hx), if_pos (mo3 hx)]
    exact ⟨_, _, _, rfl, rfl, h⟩
def pFv (kd _ : Nat) : Bool := kd == 5
theorem pFv_cs : ∀ k j, pCs k j = false → pFv k j = false := by
  intro k j h
  unfold pCs at h
  unfold pFv
  simp only [Bool.or_eq_false_iff, Bool.and_eq_false_iff, beq_eq_false_iff_ne] at h ⊢
  omega
theorem rul_at {s s' τ : St} (h : Inv s τ) (hK : ∀ m, m < nM τ → Mnd s τ m) (hf : Fr pFv s s') {b x : Nat} (hb : b < 3) (hx : x < 32) : ∃ s'', Ct_ruling (nI b) (nI x) s' = some (rulE s τ b x, s'') ∧ Fr pFv s s'' := by
  have h' : Inv s' τ := Inv_fr (hf.wk pFv_cs) h
  have k24 : s'.1 24 = s.1 24 := funext fun n => hf.fn (fun j => rfl) n
  have k25 : s'.1 25 = s.1 25 := funext fun n => hf.fn (fun j => rfl) n
  have hK' : ∀ m, m < nM τ → Mnd s' τ m := fun m hm => Mnd_s (by rw [k24]) (by rw [k25]) (hK m hm)
  have e1 : vr s' = vr s := by funext x m; unfold vr; rw [k24]
  have er : rulE s' τ b x = rulE s τ b x := by
    unfold rulE vO vN
    rw [e1]
  have hr := ruling_eq h' hK' hb hx
  rw [er] at hr
  exact ⟨_, hr, hf.st 5 0 0 _ rfl⟩
theorem step_41 : Stp_41 Inv := by
  intro a1 a2 σ τ h
  unfold Q_lawsPart M_lawsPart M_isBy
  by_cases hx : ∃ j, j < 3 ∧ a1 = nI j
  · obtain ⟨b, hb, rfl⟩ := hx
    rw [if_neg (wi3 hb), if_neg (mi3 hb)]
    by_cases hy : ∃ j, j < 3 ∧ a2 = nI j
    · obtain ⟨d, hd, rfl⟩ := hy
      obtain ⟨s, s1, s2, s3, s4⟩ := settled_eq h
      obtain ⟨u, u1, u2, u3⟩ := setRules_eq h.w s4
      rw [if_neg (wi3 hd), if_neg (mi3 hd), s1, u1, Option.bind_some, Option.bind_some]
      have hq : ∃ p : Int32 × St, Q_lawsPart_L32 (nI b) (nI d) 1100 0 0 s = some (p.1, p.2) ∧ p.1 = nI (cnt (fun x => decide (¬ rulE s τ b x = rulE s τ d x)) 32) ∧ Fr pFv s p.2 := by
        refine lpU (fun n x (p : Int32 × St) => Q_lawsPart_L32 (nI b) (nI d) n p.1 (nI x) p.2) (fun x p => p.1 = nI (cnt (fun x => decide (¬ rulE s τ b x = rulE s τ d x)) x) ∧ Fr pFv s p.2) (fun p => some (p.1, p.2)) 32 ?_ ?_ (n := 1100) (s := ((0 : Int32), s)) (by decide) ⟨rfl, Fr.rf _ _⟩
        · intro n p hp
          show Q_lawsPart_L32 (nI b) (nI d) (n + 1) p.1 (nI 32) p.2 = _
          rw [Q_lawsPart_L32, if_pos (by decide)]
        · intro x n p hx hp
          obtain ⟨v, t⟩ := p
          obtain ⟨e, hf⟩ := hp
          dsimp only at e hf
          subst e
          obtain ⟨t1, x1, x2⟩ := rul_at s2 s4 hf hb hx
          obtain ⟨t2, y1, y2⟩ := rul_at s2 s4 x2 hd hx
          refine ⟨(nI (cnt (fun x => decide (¬ rulE s τ b x = rulE s τ d x)) (x + 1)), t2), ?_, rfl, y2⟩
          show Q_lawsPart_L32 (nI b) (nI d) (n + 1) _ (nI x) t = Q_lawsPart_L32 (nI b) (nI d) n (nI (cnt (fun x => decide (¬ rulE s τ b x = rulE s τ d x)) x + if decide (¬ rulE s τ b x = rulE s τ d x) = true then 1 else 0)) (nI (x + 1)) t2
          rw [Q_lawsPart_L32, if_neg (g32 hx), x1, Option.bind_some, y1, Option.bind_some]
          unfold Q_lawsPart_J67
          rw [nI_1]
          by_cases c : rulE s τ b x = rulE s τ d x
          · rw [if_pos c, if_neg (by simp [c])]; rfl
          · rw [if_neg c, if_pos (decide_eq_true c), nI_1]
      have hm : ∃ p : Int32 × St, M_lawsPart_L25 (nI b) (nI d) 1100 0 0 u = some (p.1, p.2) ∧ p.1 = nI (cnt (fun x => decide (¬ rulE s τ b x = rulE s τ d x)) 32) ∧ Fr pScr τ p.2 ∧ ∀ m, m < nM τ → p.2.1 32 0 m = s.1 24 m 2 := by
        refine lpU (fun n x (p : Int32 × St) => M_lawsPart_L25 (nI b) (nI d) n p.1 (nI x) p.2) (fun x p => p.1 = nI (cnt (fun x => decide (¬ rulE s τ b x = rulE s τ d x)) x) ∧ Fr pScr τ p.2 ∧ ∀ m, m < nM τ → p.2.1 32 0 m = s.1 24 m 2) (fun p => some (p.1, p.2)) 32 ?_ ?_ (n := 1100) (s := ((0 : Int32), u)) (by decide) ⟨rfl, u2, u3⟩
        · intro n p hp
          show M_lawsPart_L25 (nI b) (nI d) (n + 1) p.1 (nI 32) p.2 = _
          rw [M_lawsPart_L25, if_pos (by decide)]
        · intro x n p hx hp
          obtain ⟨v, t⟩ := p
          obtain ⟨e, hf, h3⟩ := hp
          dsimp only at e hf h3
          subst e
          obtain ⟨t1, x1, x2, x3, -⟩ := lawOf_eq s2 s4 hf h3 hb hx
          obtain ⟨t2, y1, y2, y3, -⟩ := lawOf_eq s2 s4 x2 x3 hd hx
          refine ⟨(nI (cnt (fun x => decide (¬ rulE s τ b x = rulE s τ d x)) (x + 1)), t2), ?_, rfl, y2, y3⟩
          show M_lawsPart_L25 (nI b) (nI d) (n + 1) _ (nI x) t = M_lawsPart_L25 (nI b) (nI d) n (nI (cnt (fun x => decide (¬ rulE s τ b x = rulE s τ d x)) x + if decide (¬ rulE s τ b x = rulE s τ d x) = true then 1 else 0)) (nI (x + 1)) t2
          rw [M_lawsPart_L25, if_neg (g32 hx), x1, Option.bind_some, y1, Option.bind_some, nI_1]
          by_cases c : rulE s τ b x = rulE s τ d x
          · rw [if_pos c, if_neg (by simp [c]), Int32.add_zero]; rfl
          · rw [if_neg c, if_pos (decide_eq_true c), nI_1]
      obtain ⟨p, p1, p2, p3⟩ := hq
      obtain ⟨q, q1, q2, q3, -⟩ := hm
      rw [p2] at p1
      rw [q2] at q1
      exact ⟨_, _, _, p1, q1, Inv_ms (Inv_fr (p3.wk pFv_cs) s2) q3⟩
    · rw [if_pos (wo3 hy), if_pos (mo3 hy)]
      exact ⟨_, _, _, rfl, rfl, h⟩
  · rw [if_pos (wo3 hx), if_pos (mo3 hx)]
    exact ⟨_, _, _, rfl, rfl, h⟩
