/-! ===== the reference weighs: its table, its sums, its settling ===== -/
/-- only these places changed -/
def Fr (p : Nat → Nat → Bool) (τ τ' : St) : Prop := τ'.2 = τ.2 ∧ ∀ kd n j, p kd j = false → τ'.1 kd n j = τ.1 kd n j
theorem Fr.rf (p : Nat → Nat → Bool) (τ : St) : Fr p τ τ := ⟨rfl, fun _ _ _ _ => rfl⟩
theorem Fr.tr {p : Nat → Nat → Bool} {a b c : St} (h1 : Fr p a b) (h2 : Fr p b c) : Fr p a c := ⟨h2.1.trans h1.1, fun k n j h => (h2.2 k n j h).trans (h1.2 k n j h)⟩
theorem Fr.wk {p q : Nat → Nat → Bool} {a b : St} (h1 : Fr p a b) (h : ∀ k j, q k j = false → p k j = false) : Fr q a b := ⟨h1.1, fun k n j hq => h1.2 k n j (h k j hq)⟩
theorem Fr.st {p : Nat → Nat → Bool} {τ u : St} (h : Fr p τ u) (kd n j : Nat) (v : Int32) (hp : p kd j = true) : Fr p τ (sX u kd n j v) := by
  refine ⟨(sX_2 ..).trans h.1, fun k n' j' hq => ?_⟩
  rw [sX_at, if_neg]
  · exact h.2 k n' j' hq
  · intro e
    obtain ⟨e1, e2, e3⟩ := e
    subst e1; subst e3
    rw [hp] at hq
    exact absurd hq (by decide)
/-- the reference's scratch -/
def pScr (kd j : Nat) : Bool := kd == 25 || kd == 31 || kd == 32 || kd == 37 || kd == 39 || kd == 7 || kd == 0 && (j == 23 || j == 26 || j == 27 || j == 28 || j == 29 || j == 30 || j == 38)
theorem Fr.eqm {τ τ' : St} (h : Fr pScr τ τ') : Eqm τ τ' := by
  refine ⟨fun kd hk => ?_, fun j hj => ?_, by rw [h.1], by rw [h.1]⟩
  · funext j
    apply h.2
    unfold kP at hk
    unfold pScr
    simp only [Bool.or_eq_true, beq_iff_eq] at hk
    have : kd ≠ 25 ∧ kd ≠ 31 ∧ kd ≠ 32 ∧ kd ≠ 37 ∧ kd ≠ 39 ∧ kd ≠ 7 ∧ kd ≠ 0 := by omega
    simp [this]
  · apply h.2
    unfold kI at hj
    unfold pScr
    simp only [Bool.or_eq_true, beq_iff_eq] at hj
    have : j ≠ 23 ∧ j ≠ 26 ∧ j ≠ 27 ∧ j ≠ 28 ∧ j ≠ 29 ∧ j ≠ 30 ∧ j ≠ 38 := by omega
    simp [this]
theorem co_eqm {τ τ' : St} (h : Eqm τ τ') : co τ' = co τ := by
  obtain ⟨v1, v2, v3, v4, v5, v6, v7, v8, v9, v10, v11, v12⟩ := h.v
  funext s r
  unfold co pA pS
  rw [h.1 24 rfl, v10, v8, h.1 21 rfl]
theorem wfS {τ : St} (w : WF τ) {s : Nat} (hs : s < nS τ) : okS τ s := by
  obtain ⟨w1, w2, w3, w4, w5, w6, w7⟩ := w
  obtain ⟨a1, a2, a3, a4, a5⟩ := w6 s hs
  have h1 := w1.1.2
  have h2 := w1.2.2.1.2
  have h3 := w4 (sc τ s) a2.2
  exact ⟨by omega, ⟨a2.1, by omega⟩, ⟨h3.1, h3.2⟩, a4, a5⟩
theorem wfP {τ : St} (w : WF τ) : okP τ := by
  obtain ⟨w1, w2, w3, w4, w5, w6, w7, w8, w9⟩ := w
  obtain ⟨a, a1, a2⟩ := w8 0 (by decide)
  obtain ⟨b, b1, b2⟩ := w8 1 (by decide)
  obtain ⟨c, c1, c2⟩ := w8 2 (by decide)
  have ea : pA τ = a := by unfold pA; rw [a2]; exact tn_nI (by omega)
  have eb : pS τ = b := by unfold pS; rw [b2]; exact tn_nI (by omega)
  have ec : pT τ = c := by unfold pT; rw [c2]; exact tn_nI (by omega)
  refine ⟨⟨?_, ?_⟩, ⟨?_, ?_⟩, ⟨?_, ?_⟩⟩
  · rw [ea]; exact a2
  · omega
  · rw [eb]; exact b2
  · omega
  · rw [ec]; exact c2
  · omega
def pTb (kd j : Nat) : Bool := kd == 25 || kd == 0 && j == 26
theorem pTb_scr : ∀ k j, pScr k j = false → pTb k j = false := by
  intro k j h
  unfold pScr at h
  unfold pTb
  simp only [Bool.or_eq_false_iff, Bool.and_eq_false_iff, beq_eq_false_iff_ne] at h ⊢
  omega
theorem tab_ix {k r : Nat} (hk : k < 9) (hr : r < 244) : (244 : Int32) * nI k + nI r = nI (244 * k + r) := by
  rw [show (244 : Int32) = nI 244 from rfl, pk_mul, nI_add]
theorem setTable_in {τ : St} (w : WF τ) (K : St → Option St) {m s k : Nat} (hs : s < nS τ) (hk : k < 9) : ∀ d r u n, r + d = 244 → d < n → Fr pTb τ u → u.1 0 0 26 = nI k → (∀ r', r' < r → u.1 25 0 (244 * k + r') = nI (co τ s r')) → ∃ u', M_setTable_L27 K (nI m) (nI s) n (nI r) u = K u' ∧ Fr pTb τ u' ∧ u'.1 0 0 26 = nI k ∧ (∀ j, j < 244 * k → u'.1 25 0 j = u.1 25 0 j) ∧ ∀ r', r' < 244 → u'.1 25 0 (244 * k + r') = nI (co τ s r') := by
  intro d
  induction d with
  | zero =>
    intro r u n hr hn hf h26 ht
    obtain ⟨n, rfl⟩ : ∃ n', n = n' + 1 := ⟨n - 1, by omega⟩
    have e : r = 244 := by omega
    subst e
    refine ⟨u, ?_, hf, h26, fun _ _ => rfl, ht⟩
    rw [M_setTable_L27, if_pos (by decide)]
  | succ d ih =>
    intro r u n hr hn hf h26 ht
    obtain ⟨n, rfl⟩ : ∃ n', n = n' + 1 := ⟨n - 1, by omega⟩
    have hE := (hf.wk pTb_scr).eqm
    have hw := WF_eq hE w
    have hc : M_costOf (nI s) (nI r) u = some (nI (co τ s r)) := by
      rw [M_costOf_eq (wfS hw (by rw [hE.v.2.2.1]; exact hs)) (wfP hw) (by omega), co_eqm hE]
    have hi : inb (nI (244 * k + r)) 2196 = true := inb_nI (by omega) (by decide)
    have hcl : (nI (244 * k + r)).toNatClampNeg = 244 * k + r := nI_clamp (by omega)
    obtain ⟨u', h1, h2, h3, h4, h5⟩ := ih (r + 1) (sX u 25 0 (244 * k + r) (nI (co τ s r))) n (by omega) (by omega) (hf.st _ _ _ _ rfl) (by rw [sX_at, if_neg (by omega)]; exact h26) (by
      intro r' hr'
      rw [sX_at]
      by_cases e : r' = r
      · subst e; rw [if_pos ⟨rfl, rfl, rfl⟩]
      · rw [if_neg (by omega)]; exact ht r' (by omega))
    refine ⟨u', ?_, h2, h3, ?_, h5⟩
    · rw [M_setTable_L27, if_neg (show ¬ (244 : Int32) ≤ nI r from nI_ge (b := 244) (by omega) (by decide)), hc]
      simp only [Option.bind_some, h26]
      rw [tab_ix hk (by omega), if_pos hi, hcl, nI_1]
      exact h1
    · intro j hj
      rw [h4 j hj, sX_at, if_neg (by omega)]
