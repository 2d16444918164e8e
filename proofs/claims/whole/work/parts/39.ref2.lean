theorem WF.nS24 {τ : St} (w : WF τ) : nS τ ≤ 24 := w.1.2.2.1.2
theorem WF.nM8 {τ : St} (w : WF τ) : nM τ ≤ 8 := w.1.2.1.2
theorem WF.say {τ : St} (w : WF τ) : W_say τ := w.2.2.2.2.2.1
theorem WF.nine {τ : St} (w : WF τ) : W_nine τ := w.2.2.2.2.2.2.1
theorem WF.k9 {τ : St} (w : WF τ) (m : Nat) : kO τ m ≤ 9 := w.nine m
/-- the table is laid for m -/
def Tab (τ u : St) (m : Nat) : Prop := u.1 0 0 26 = nI (kO τ m) ∧ ∀ i, i < kO τ m → ∀ r, r < 244 → u.1 25 0 (244 * i + r) = nI (cR τ m r i)
theorem setTable_out {τ : St} (w : WF τ) {m : Nat} (hm : m < 1000) : ∀ d s u n, s + d = nS τ → d < n → Fr pTb τ u → u.1 0 0 26 = nI (nO τ m s) → (∀ i, i < nO τ m s → ∀ r, r < 244 → u.1 25 0 (244 * i + r) = nI (cR τ m r i)) → ∃ u', M_setTable_L7 (nI m) n (nI s) u = some u' ∧ Fr pTb τ u' ∧ Tab τ u' m := by
  have hS := w.nS24
  intro d
  induction d with
  | zero =>
    intro s u n hr hn hf h26 ht
    obtain ⟨n, rfl⟩ : ∃ n', n = n' + 1 := ⟨n - 1, by omega⟩
    have e : s = nS τ := by omega
    subst e
    refine ⟨u, ?_, hf, h26, ht⟩
    have h16 : u.1 0 0 16 = nI (nS τ) := (hf.2 _ _ _ rfl).trans w.1.2.2.1.1
    rw [M_setTable_L7, h16, if_pos ((nI_leI (by omega) (by omega)).mpr (Nat.le_refl _))]
  | succ d ih =>
    intro s u n hr hn hf h26 ht
    obtain ⟨n, rfl⟩ : ∃ n', n = n' + 1 := ⟨n - 1, by omega⟩
    have h16 : u.1 0 0 16 = nI (nS τ) := (hf.2 _ _ _ rfl).trans w.1.2.2.1.1
    have hs : s < nS τ := by omega
    have h17 : u.1 17 0 s = nI (sm τ s) := (hf.2 _ _ _ rfl).trans (w.say s hs).1.1
    have hsm : sm τ s < 8 := Nat.lt_of_lt_of_le (w.say s hs).1.2 w.nM8
    rw [M_setTable_L7, h16, if_neg (nI_ge hs (by omega)), if_pos (inb_nI (by omega) (by decide)), nI_clamp (show s < 2147483648 by omega), h17]
    by_cases e : sm τ s = m
    · rw [if_pos (by rw [e])]
      have hk : nO τ m s < 9 := Nat.lt_of_lt_of_le (nO_lt τ hs e) (w.nine m)
      obtain ⟨u', h1, h2, h3, h4, h5⟩ := setTable_in w (fun (s_20 : St) => M_setTable_J71 (M_setTable_L7 (nI m) n) (nI m) (nI s) (sX s_20 0 0 26 ((s_20.1 0 0 26) + 1))) (m := m) (k := nO τ m s) hs hk 244 0 u 1100 (by omega) (by omega) hf h26 (fun r' h => absurd h (Nat.not_lt_zero _))
      rw [show (0 : Int32) = nI 0 from rfl, h1]
      have eN : nO τ m (s + 1) = nO τ m s + 1 := by rw [nO_s, if_pos e]
      show ∃ u'', M_setTable_L7 (nI m) n (nI s + 1) (sX u' 0 0 26 (u'.1 0 0 26 + 1)) = some u'' ∧ _
      rw [h3, nI_1, nI_1]
      refine ih (s + 1) _ n (by omega) (by omega) (h2.st _ _ _ _ rfl) (by rw [sX_at, if_pos ⟨rfl, rfl, rfl⟩, eN]) ?_
      intro i hi r hr
      rw [sX_at, if_neg (by omega)]
      rw [eN] at hi
      by_cases ei : i = nO τ m s
      · subst ei
        rw [h5 r hr]
        unfold cR
        rw [ow_at hs e]
      · rw [h4 _ (by omega)]
        exact ht i (by omega) r hr
    · rw [if_neg (fun x => e ((nI_eq (by omega) (by omega)).mp x))]
      have eN : nO τ m (s + 1) = nO τ m s := by rw [nO_s, if_neg e, Nat.add_zero]
      show ∃ u'', M_setTable_L7 (nI m) n (nI s + 1) u = some u'' ∧ _
      rw [nI_1]
      exact ih (s + 1) u n (by omega) (by omega) hf (by rw [eN]; exact h26) (by rw [eN]; exact ht)
theorem M_setTable_eq {τ : St} (w : WF τ) {m : Nat} (hm : m < 1000) : ∃ u, M_setTable (nI m) τ = some u ∧ Fr pTb τ u ∧ Tab τ u m := by
  have hS := w.nS24
  unfold M_setTable
  exact setTable_out w hm (nS τ) 0 (sX τ 0 0 26 0) 1100 (by omega) (by omega) ((Fr.rf _ _).st _ _ _ _ rfl) (by rw [sX_at, if_pos ⟨rfl, rfl, rfl⟩]; rfl) (fun i h => absurd h (Nat.not_lt_zero _))
