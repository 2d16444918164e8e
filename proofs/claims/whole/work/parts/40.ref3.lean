theorem co_le {τ : St} (w : WF τ) (s r : Nat) : co τ s r ≤ 99 := by
  obtain ⟨⟨p1, p2⟩, ⟨p3, p4⟩, -⟩ := wfP w
  unfold co pc_
  split
  · omega
  · split
    · split <;> omega
    · omega
theorem sumBy_lp {τ u : St} (w : WF τ) {m r : Nat} (hT : Tab τ u m) (hr : r < 244) : ∀ d i n, i + d = kO τ m → d < n → M_sumBy_L4 (nI r) u n (nI (sumN (cR τ m r) i)) (nI i) = some (nI (s1 τ m r)) := by
  have hk := w.k9 m
  intro d
  induction d with
  | zero =>
    intro i n hi hn
    obtain ⟨n, rfl⟩ : ∃ n', n = n' + 1 := ⟨n - 1, by omega⟩
    have e : i = kO τ m := by omega
    subst e
    rw [M_sumBy_L4, hT.1, if_pos ((nI_leI (by omega) (by omega)).mpr (Nat.le_refl _))]
    rfl
  | succ d ih =>
    intro i n hi hn
    obtain ⟨n, rfl⟩ : ∃ n', n = n' + 1 := ⟨n - 1, by omega⟩
    rw [M_sumBy_L4, hT.1, if_neg (nI_ge (show i < kO τ m by omega) (by omega)), tab_ix (by omega) hr, if_pos (inb_nI (by omega) (by decide)), nI_clamp (by omega), hT.2 i (by omega) r hr, nI_add, nI_1]
    exact ih (i + 1) n (by omega) (by omega)
theorem M_sumBy_eq {τ u : St} (w : WF τ) {m r : Nat} (hT : Tab τ u m) (hr : r < 244) : M_sumBy (nI r) u = some (nI (s1 τ m r)) := by
  have hk := w.k9 m
  unfold M_sumBy
  exact sumBy_lp w hT hr (kO τ m) 0 1100 (by omega) (by omega)
theorem s1_le {τ : St} (w : WF τ) (m r : Nat) : s1 τ m r ≤ 891 := by
  have h := sumN_le (f := cR τ m r) (n := kO τ m) (c := 99) (fun i _ => co_le w _ _)
  have hk := w.k9 m
  unfold s1
  omega
theorem mn_le (a b : Nat) : mn a b ≤ a ∧ mn a b ≤ b := by unfold mn; split <;> omega
theorem s2_le {τ : St} (w : WF τ) (m a b : Nat) : s2 τ m a b ≤ 990 := by
  have h := sumN_le (f := fun i => mn (cR τ m a i) (cR τ m b i)) (n := kO τ m) (c := 99) (fun i _ => Nat.le_trans (mn_le _ _).1 (co_le w _ _))
  have hk := w.k9 m
  have hp := (wfP w).2.2.2
  unfold s2
  omega
theorem sumByTwo_lp {τ u : St} (w : WF τ) {m a b : Nat} (hT : Tab τ u m) (ha : a < 244) (hb : b < 244) : ∀ d i n, i + d = kO τ m → d < n → M_sumByTwo_L10 (nI a) (nI b) u n (nI (pT τ + sumN (fun i => mn (cR τ m a i) (cR τ m b i)) i)) (nI i) = some (nI (s2 τ m a b)) := by
  have hk := w.k9 m
  intro d
  induction d with
  | zero =>
    intro i n hi hn
    obtain ⟨n, rfl⟩ : ∃ n', n = n' + 1 := ⟨n - 1, by omega⟩
    have e : i = kO τ m := by omega
    subst e
    rw [M_sumByTwo_L10, hT.1, if_pos ((nI_leI (by omega) (by omega)).mpr (Nat.le_refl _))]
    rfl
  | succ d ih =>
    intro i n hi hn
    obtain ⟨n, rfl⟩ : ∃ n', n = n' + 1 := ⟨n - 1, by omega⟩
    have hca := co_le w (ow τ m i) a
    have hcb := co_le w (ow τ m i) b
    have em : (if nI (cR τ m b i) ≤ nI (cR τ m a i) then nI (cR τ m b i) else nI (cR τ m a i)) = nI (mn (cR τ m a i) (cR τ m b i)) := by
      have := nI_leI (a := cR τ m b i) (b := cR τ m a i) (by unfold cR; omega) (by unfold cR; omega)
      unfold mn
      by_cases h : cR τ m b i ≤ cR τ m a i
      · rw [if_pos h, if_pos (this.mpr h)]
      · rw [if_neg h, if_neg (fun x => h (this.mp x))]
    rw [M_sumByTwo_L10, hT.1, if_neg (nI_ge (show i < kO τ m by omega) (by omega)), tab_ix (by omega) ha, tab_ix (by omega) hb, if_pos (inb_nI (by omega) (by decide)), if_pos (inb_nI (by omega) (by decide)), nI_clamp (show 244 * i + a < 2147483648 by omega), nI_clamp (show 244 * i + b < 2147483648 by omega), hT.2 i (by omega) a ha, hT.2 i (by omega) b hb, em, nI_add, nI_1, Nat.add_assoc]
    exact ih (i + 1) n (by omega) (by omega)
theorem M_sumByTwo_eq {τ u : St} (w : WF τ) {m a b : Nat} (hT : Tab τ u m) (h24 : u.1 24 0 2 = τ.1 24 0 2) (ha : a < 244) (hb : b < 244) : M_sumByTwo (nI a) (nI b) u = some (nI (s2 τ m a b)) := by
  have hk := w.k9 m
  unfold M_sumByTwo
  rw [h24, (wfP w).2.2.1]
  exact sumByTwo_lp w hT ha hb (kO τ m) 0 1100 (by omega) (by omega)
