/-! ===== two rules: candidates are enough ===== -/
def Dom (τ : St) (m a b : Nat) : Prop := ∀ j, j < kO τ m → lv τ m a j ≤ lv τ m b j
theorem sumN_mono {f g : Nat → Nat} {n : Nat} (h : ∀ i, i < n → f i ≤ g i) : sumN f n ≤ sumN g n := by
  induction n with
  | zero => exact Nat.le_refl _
  | succ n ih =>
    unfold sumN
    have h1 := ih (fun i hi => h i (by omega))
    have h2 := h n (by omega)
    omega
theorem mn_comm (a b : Nat) : mn a b = mn b a := by
  unfold mn
  split <;> split <;> omega
theorem mn_mono {a b a' b' : Nat} (h : a ≤ a') (h' : b ≤ b') : mn a b ≤ mn a' b' := by
  unfold mn
  split <;> split <;> omega
theorem s2_comm (τ : St) (m a b : Nat) : s2 τ m a b = s2 τ m b a := by
  unfold s2
  congr 1
  exact sumN_congr (fun i _ => mn_comm _ _)
theorem s2_dom {τ : St} {m a b a' b' : Nat} (h : Dom τ m a a') (h' : Dom τ m b b') : s2 τ m a b ≤ s2 τ m a' b' := by
  unfold s2
  have : sumN (fun i => mn (cR τ m a i) (cR τ m b i)) (kO τ m) ≤ sumN (fun i => mn (cR τ m a' i) (cR τ m b' i)) (kO τ m) := sumN_mono (fun i hi => mn_mono (pc_mono _ _ (h i hi)) (pc_mono _ _ (h' i hi)))
  omega
theorem s2_self (τ : St) (m a : Nat) : s1 τ m a ≤ s2 τ m a a := by
  unfold s1 s2
  have : sumN (cR τ m a) (kO τ m) = sumN (fun i => mn (cR τ m a i) (cR τ m a i)) (kO τ m) := sumN_congr (fun i _ => by unfold mn; split <;> omega)
  omega
def Dq (c : Nat → Nat) (q x y : Nat) : Prop := ∃ i j, i < j ∧ j < q ∧ x = c i ∧ y = c j
theorem prune {τ : St} {m q v : Nat} {c : Nat → Nat} {o : Option (Nat × Nat)} (hlt : ∀ a, a < q → c a < 244) (hmono : ∀ a b, a < b → b < q → c a < c b) (hdom : ∀ r, r < 244 → ∃ a, a < q ∧ c a ≤ r ∧ Dom τ m (c a) r) (hv : v ≤ lst τ m) (h : Bst (s2 τ m) (Dq c q) (lst τ m) v o) : Bst (s2 τ m) DA (lst τ m) v o := by
  have key : ∀ a b, DA a b → (∃ x y, Dq c q x y ∧ s2 τ m x y ≤ s2 τ m a b ∧ (x < a ∨ x = a ∧ y ≤ b)) ∨ lst τ m ≤ s2 τ m a b := by
    intro a b hab
    obtain ⟨h1, h2⟩ := hab
    obtain ⟨i, hi, hia, hid⟩ := hdom a (by omega)
    obtain ⟨j, hj, hjb, hjd⟩ := hdom b (by omega)
    have hF := s2_dom hid hjd
    by_cases e1 : i < j
    · left
      exact ⟨c i, c j, ⟨i, j, e1, hj, rfl, rfl⟩, hF, by omega⟩
    · by_cases e2 : j < i
      · left
        have hm := hmono j i e2 hi
        refine ⟨c j, c i, ⟨j, i, e2, hi, rfl, rfl⟩, ?_, by omega⟩
        rw [s2_comm]; exact hF
      · right
        have e : i = j := by omega
        subst e
        have h3 := s2_self τ m (c i)
        have h4 : lst τ m ≤ s1 τ m (c i) := fmI_le _ 244 _ (hlt i hi)
        omega
  cases o with
  | none =>
    have e : v = lst τ m := h.1
    refine ⟨e, fun a b hab => ?_⟩
    rcases key a b hab with ⟨x, y, hq, hle, -⟩ | hge
    · have := h.2 x y hq
      omega
    · exact hge
  | some p =>
    obtain ⟨l, g⟩ := p
    obtain ⟨a1, a2, a3, a4, a5⟩ := h
    obtain ⟨i, j, hij, hjq, rfl, rfl⟩ := a1
    refine ⟨⟨hmono i j hij hjq, hlt j hjq⟩, a2, a3, fun a b hab => ?_, fun a b hab hl => ?_⟩
    · rcases key a b hab with ⟨x, y, hq, hle, -⟩ | hge
      · have := a4 x y hq
        omega
      · omega
    · rcases key a b hab with ⟨x, y, hq, hle, hx⟩ | hge
      · have := a5 x y hq (by omega)
        omega
      · omega
/-- gathered -/
def Cnd (τ s : St) (m i q : Nat) (c : Nat → Nat) : Prop := q ≤ i ∧ (∀ a, a < q → s.1 13 0 a = nI (c a) ∧ c a < i) ∧ (∀ a b, a < b → b < q → c a < c b) ∧ ∀ r, r < i → ∃ a, a < q ∧ c a ≤ r ∧ Dom τ m (c a) r
theorem gath_in {τ s : St} (w : WF τ) {m i q : Nat} {c : Nat → Nat} (K : Int32 → St → Option (Int32 × St)) (hg : Sng τ s m (kO τ m)) (hi : i < 244) (hC : Cnd τ s m i q c) : ∃ v, Bn_gatherCandidates_L16 K (nI q) (nI i) 1100 0 0 s = K v s ∧ (v = 0 ∨ v = 1 ∧ ∃ a, a < q ∧ Dom τ m (c a) i) := by
  obtain ⟨c1, c2, c3, c4⟩ := hC
  refine lpE (fun n a v => Bn_gatherCandidates_L16 K (nI q) (nI i) n v (nI a) s) (fun _ v => v = 0 ∨ v = 1 ∧ ∃ a, a < q ∧ Dom τ m (c a) i) (fun o => ∃ v, o = K v s ∧ (v = 0 ∨ v = 1 ∧ ∃ a, a < q ∧ Dom τ m (c a) i)) q ?_ ?_ q 0 1100 (0 : Int32) (by omega) (by omega) (Or.inl rfl)
  · intro n v hp
    refine ⟨v, ?_, hp⟩
    show Bn_gatherCandidates_L16 K (nI q) (nI i) (n + 1) v (nI q) s = K v s
    rw [Bn_gatherCandidates_L16, if_pos (nI_le (Nat.le_refl _) (by omega))]
  · intro a n v ha hp
    rcases hp with e | ⟨e, hd⟩
    · right
      subst e
      obtain ⟨e13, hca⟩ := c2 a ha
      obtain ⟨x, hx, hE⟩ := hg (c a) (by omega)
      obtain ⟨y, hy, hE'⟩ := hg i hi
      have hxl := hE.1
      have hyl := hE'.1
      have hand : nI x &&& nI y = nI (x &&& y) := nI_and (by omega) (by omega)
      have hle : x &&& y ≤ x := Nat.and_le_left
      refine ⟨if nI (x &&& y) = nI x then 1 else 0, ?_, ?_⟩
      · show Bn_gatherCandidates_L16 K (nI q) (nI i) (n + 1) 0 (nI a) s = Bn_gatherCandidates_L16 K (nI q) (nI i) n _ (nI (a + 1)) s
        rw [Bn_gatherCandidates_L16, if_neg (nI_ge ha (by omega)), if_pos rfl, if_pos (inb_nI (by omega) (by decide)), nI_clamp (n := a) (by omega), e13, if_pos (inb_nI (by omega) (by decide)), if_pos (inb_nI hi (by decide)), nI_clamp (n := c a) (by omega), nI_clamp (n := i) (by omega), hx, hy, hand, nI_1]
      · by_cases he : x &&& y = x
        · right
          rw [if_pos (by rw [he])]
          exact ⟨rfl, a, ha, En_sub hE hE' (w.k9 m) (lv_le τ m _) he⟩
        · left
          rw [if_neg (fun z => he ((nI_eq (by omega) (by omega)).mp z))]
    · left
      refine ⟨1, ?_, Or.inr ⟨rfl, hd⟩⟩
      subst e
      show Bn_gatherCandidates_L16 K (nI q) (nI i) (n + 1) 1 (nI a) s = K 1 s
      rw [Bn_gatherCandidates_L16, if_neg (nI_ge ha (by omega)), if_neg (by decide)]
def pGc (kd _ : Nat) : Bool := kd == 13
theorem gath {τ s0 : St} (w : WF τ) {m : Nat} (hg : Sng τ s0 m (kO τ m)) : ∃ q s c, Bn_gatherCandidates s0 = some (nI q, s) ∧ Fr pGc s0 s ∧ Cnd τ s m 244 q c := by
  have h := lpU (fun n i (p : Int32 × St) => Bn_gatherCandidates_L4 n p.1 (nI i) p.2) (fun i p => ∃ q c, p.1 = nI q ∧ Fr pGc s0 p.2 ∧ Cnd τ p.2 m i q c) (fun p => some (p.1, p.2)) 244 (by
      intro n p hp
      show Bn_gatherCandidates_L4 (n + 1) p.1 (nI 244) p.2 = some (p.1, p.2)
      rw [Bn_gatherCandidates_L4, if_pos (by decide)]) (by
      intro i n p hi hp
      obtain ⟨v, s⟩ := p
      obtain ⟨q, c, e, hf, hC⟩ := hp
      dsimp only at e hf hC
      subst e
      have hg' : Sng τ s m (kO τ m) := by
        intro r hr
        rw [hf.2 12 0 r rfl]; exact hg r hr
      obtain ⟨v, hv, hvo⟩ := gath_in w (fun (v3_19 : Int32) (s_20 : St) => Bn_gatherCandidates_J66 (Bn_gatherCandidates_L4 n) (nI q) (nI i) v3_19 s_20) hg' hi hC
      obtain ⟨c1, c2, c3, c4⟩ := hC
      rcases hvo with e | ⟨e, a, ha, hd⟩
      · subst e
        refine ⟨(nI (q + 1), sX s 13 0 q (nI i)), ?_, q + 1, fun a => if a = q then i else c a, rfl, hf.st _ _ _ _ rfl, ?_⟩
        · show Bn_gatherCandidates_L4 (n + 1) (nI q) (nI i) s = Bn_gatherCandidates_L4 n (nI (q + 1)) (nI (i + 1)) (sX s 13 0 q (nI i))
          rw [Bn_gatherCandidates_L4, if_neg (g244 hi), hv]
          unfold Bn_gatherCandidates_J66 Bn_gatherCandidates_J83
          rw [if_pos rfl, if_pos (inb_nI (by omega) (by decide)), nI_clamp (n := q) (by omega), nI_1, nI_1]
        · refine ⟨by omega, ?_, ?_, ?_⟩
          · intro a ha
            dsimp only
            by_cases e : a = q
            · subst e
              rw [if_pos rfl, sX_s]
              exact ⟨rfl, by omega⟩
            · rw [if_neg e, sX_o (by omega)]
              have := c2 a (by omega)
              exact ⟨this.1, by omega⟩
          · intro a b hab hb
            dsimp only
            rw [if_neg (show ¬ a = q by omega)]
            by_cases e : b = q
            · rw [if_pos e]; exact (c2 a (by omega)).2
            · rw [if_neg e]; exact c3 a b hab (by omega)
          · intro r hr
            by_cases e : r = i
            · subst e
              refine ⟨q, by omega, ?_, ?_⟩
              · dsimp only; rw [if_pos rfl]; exact Nat.le_refl _
              · dsimp only; rw [if_pos rfl]; exact fun j _ => Nat.le_refl _
            · obtain ⟨a, ha, h1, h2⟩ := c4 r (by omega)
              refine ⟨a, by omega, ?_, ?_⟩
              · dsimp only; rw [if_neg (by omega)]; exact h1
              · dsimp only; rw [if_neg (by omega)]; exact h2
      · subst e
        refine ⟨(nI q, s), ?_, q, c, rfl, hf, ?_⟩
        · show Bn_gatherCandidates_L4 (n + 1) (nI q) (nI i) s = Bn_gatherCandidates_L4 n (nI q) (nI (i + 1)) s
          rw [Bn_gatherCandidates_L4, if_neg (g244 hi), hv]
          unfold Bn_gatherCandidates_J66 Bn_gatherCandidates_J83
          rw [if_neg (by decide), nI_1]
        · refine ⟨by omega, fun a ha => ⟨(c2 a ha).1, by have := (c2 a ha).2; omega⟩, c3, ?_⟩
          intro r hr
          by_cases e : r = i
          · subst e
            exact ⟨a, ha, Nat.le_of_lt (c2 a ha).2, hd⟩
          · exact c4 r (by omega)) (n := 1100) (s := (0, s0)) (by decide) ⟨0, fun _ => 0, rfl, Fr.rf _ _, Nat.le_refl _, fun a h => absurd h (Nat.not_lt_zero _), fun a b _ h => absurd h (Nat.not_lt_zero _), fun r h => absurd h (Nat.not_lt_zero _)⟩
  obtain ⟨⟨v, s⟩, he, q, c, e, hf, hC⟩ := h
  dsimp only at e hf hC
  subst e
  exact ⟨q, s, c, he, hf, hC⟩
def pTk (kd j : Nat) : Bool := kd == 10 && (j == 5 || j == 6 || j == 7)
def Dd (c : Nat → Nat) (q a b x y : Nat) : Prop := ∃ i j, i < j ∧ j < q ∧ (i < a ∨ i = a ∧ j < b) ∧ x = c i ∧ y = c j
def Dc (c : Nat → Nat) (q a x y : Nat) : Prop := ∃ i j, i < j ∧ j < q ∧ i < a ∧ x = c i ∧ y = c j
theorem Dd_0 (c : Nat → Nat) (q a : Nat) : Dd c q a (a + 1) = Dc c q a := by
  funext x y
  apply propext
  constructor
  · rintro ⟨i, j, h1, h2, h3, h4, h5⟩; exact ⟨i, j, h1, h2, by omega, h4, h5⟩
  · rintro ⟨i, j, h1, h2, h3, h4, h5⟩; exact ⟨i, j, h1, h2, by omega, h4, h5⟩
theorem Dd_e (c : Nat → Nat) (q a : Nat) : Dd c q a q = Dc c q (a + 1) := by
  funext x y
  apply propext
  constructor
  · rintro ⟨i, j, h1, h2, h3, h4, h5⟩; exact ⟨i, j, h1, h2, by omega, h4, h5⟩
  · rintro ⟨i, j, h1, h2, h3, h4, h5⟩; exact ⟨i, j, h1, h2, by omega, h4, h5⟩
theorem Dc_e (c : Nat → Nat) (q : Nat) : Dc c q q = Dq c q := by
  funext x y
  apply propext
  constructor
  · rintro ⟨i, j, h1, h2, h3, h4, h5⟩; exact ⟨i, j, h1, h2, h4, h5⟩
  · rintro ⟨i, j, h1, h2, h4, h5⟩; exact ⟨i, j, h1, h2, by omega, h4, h5⟩
def SC (τ s0 : St) (m : Nat) (D : Nat → Nat → Prop) (s : St) : Prop := Fr pTk s0 s ∧ ∃ v o, Bst (s2 τ m) D (lst τ m) v o ∧ v ≤ lst τ m ∧ s.1 10 0 5 = nI v ∧ s.1 10 0 6 = nI (oL (fmI (s1 τ m) 244) o) ∧ s.1 10 0 7 = oG o
theorem two_in {σ τ s0 : St} (w : WF τ) (cc : RC σ τ) {m q a : Nat} {c : Nat → Nat} (K : St → Option St) (hpr : ∀ j, j < 3 → s0.1 10 0 j = σ.1 10 0 j) (hg : Sng τ s0 m (kO τ m)) (hC : Cnd τ s0 m 244 q c) (ha : a < q) {s1_ : St} (h0 : SC τ s0 m (Dc c q a) s1_) : ∃ s, Bn_takeTwoRules_L28 K (nI q) (nI a) 1100 (nI (a + 1)) s1_ = K s ∧ SC τ s0 m (Dc c q (a + 1)) s := by
  obtain ⟨c1, c2, c3, c4⟩ := hC
  obtain ⟨p1, p2, p3, p4, p5, p6⟩ := cc.prA w
  have h := lpV (fun n b s => Bn_takeTwoRules_L28 K (nI q) (nI a) n (nI b) s) (fun b s => a < b ∧ SC τ s0 m (Dd c q a b) s) K (a + 1) q (by
      intro n s hp
      show Bn_takeTwoRules_L28 K (nI q) (nI a) (n + 1) (nI q) s = K s
      rw [Bn_takeTwoRules_L28, if_pos (nI_le (Nat.le_refl _) (by omega))]) (by
      intro b n s hb hp
      obtain ⟨hab, hf, v, o, hB, hv, h5, h6, h7⟩ := hp
      have hl := lst_le w m
      have h2 := s2_le w m (c a) (c b)
      have ea : s.1 13 0 a = nI (c a) := (hf.2 _ _ _ rfl).trans (c2 a ha).1
      have eb : s.1 13 0 b = nI (c b) := (hf.2 _ _ _ rfl).trans (c2 b hb).1
      have hca := (c2 a ha).2
      have hcb := (c2 b hb).2
      obtain ⟨x, hx, hE⟩ := hg (c a) hca
      obtain ⟨y, hy, hE'⟩ := hg (c b) hcb
      have ex : s.1 12 0 (c a) = nI x := (hf.2 _ _ _ rfl).trans hx
      have ey : s.1 12 0 (c b) = nI y := (hf.2 _ _ _ rfl).trans hy
      have hxl := hE.1
      have hyl := hE'.1
      have hand : nI x &&& nI y = nI (x &&& y) := nI_and (by omega) (by omega)
      have e0 : s.1 10 0 0 = nI (pA τ) := (hf.2 _ _ _ rfl).trans ((hpr 0 (by decide)).trans p1)
      have e1 : s.1 10 0 1 = nI (pS τ) := (hf.2 _ _ _ rfl).trans ((hpr 1 (by decide)).trans p3)
      have e2 : s.1 10 0 2 = nI (pT τ) := (hf.2 _ _ _ rfl).trans ((hpr 2 (by decide)).trans p5)
      have hsum : Bn_sumOf (nI (x &&& y)) s = nI (sumN (fun i => mn (cR τ m (c a) i) (cR τ m (c b) i)) (kO τ m)) := by
        rw [sumOf_En e0 e1 p2 p4 (L := fun i => lmin (lv τ m (c a) i) (lv τ m (c b) i)) (fun i => by have := lv_le τ m (c a) i; have := lv_le τ m (c b) i; unfold lmin; split <;> omega) (w.k9 m) (En_and hE hE' (lv_le τ m _) (lv_le τ m _))]
        congr 1
        exact sumN_congr (fun i _ => pc_lmin _ _ _ _)
      have hcost : s.1 10 0 2 + Bn_sumOf (nI (x &&& y)) s = nI (s2 τ m (c a) (c b)) := by
        rw [hsum, e2, nI_add]; rfl
      have hs := Bst_step (a := c a) (b := c b) (D' := Dd c q a (b + 1)) hB hv (by
          intro x y
          constructor
          · rintro ⟨i, j, h1, h2, h3, h4, h5⟩
            by_cases e : i = a ∧ j = b
            · right; rw [h4, h5, e.1, e.2]; exact ⟨rfl, rfl⟩
            · left; exact ⟨i, j, h1, h2, by omega, h4, h5⟩
          · rintro (⟨i, j, h1, h2, h3, h4, h5⟩ | ⟨h4, h5⟩)
            · exact ⟨i, j, h1, h2, by omega, h4, h5⟩
            · exact ⟨a, b, hab, hb, by omega, h4, h5⟩) (by
          rintro x y ⟨i, j, h1, h2, h3, h4, h5⟩
          rw [h4, h5]
          rcases h3 with h3 | ⟨h3, h3'⟩
          · left; exact c3 i a h3 ha
          · right; rw [h3]; exact ⟨rfl, c3 j b h3' hb⟩)
      have hlt := nI_ltI (a := s2 τ m (c a) (c b)) (b := v) (by omega) (by omega)
      by_cases cc : s2 τ m (c a) (c b) < v
      · rw [if_pos cc, if_pos cc] at hs
        refine ⟨sX (sX (sX s 10 0 5 (nI (s2 τ m (c a) (c b)))) 10 0 6 (nI (c a))) 10 0 7 (nI (c b)), ?_, by omega, ((hf.st _ _ _ _ rfl).st _ _ _ _ rfl).st _ _ _ _ rfl, s2 τ m (c a) (c b), some (c a, c b), hs, by omega, ?_, ?_, ?_⟩
        · show Bn_takeTwoRules_L28 K (nI q) (nI a) (n + 1) (nI b) s = Bn_takeTwoRules_L28 K (nI q) (nI a) n (nI (b + 1)) _
          rw [Bn_takeTwoRules_L28, if_neg (nI_ge hb (by omega)), if_pos (inb_nI (by omega) (by decide)), nI_clamp (n := a) (by omega), ea, if_pos (inb_nI hca (by decide)), if_pos (inb_nI (by omega) (by decide)), nI_clamp (n := b) (by omega), eb, if_pos (inb_nI hcb (by decide)), nI_clamp (n := c a) (by omega), nI_clamp (n := c b) (by omega), ex, ey, hand, hcost, h5, if_pos (hlt.mpr cc), if_pos (inb_nI (by omega) (by decide)), if_pos (inb_nI (by omega) (by decide))]
          unfold Bn_takeTwoRules_J109
          rw [nI_1, sX_o (a := 13) (by omega), sX_o (a := 13) (by omega), sX_o (a := 13) (by omega), ea, eb]
        · rw [sX_o (by omega), sX_o (by omega), sX_s]
        · rw [sX_o (by omega), sX_s]; rfl
        · rw [sX_s]; rfl
      · rw [if_neg cc, if_neg cc] at hs
        refine ⟨s, ?_, by omega, hf, v, o, hs, hv, h5, h6, h7⟩
        show Bn_takeTwoRules_L28 K (nI q) (nI a) (n + 1) (nI b) s = Bn_takeTwoRules_L28 K (nI q) (nI a) n (nI (b + 1)) _
        rw [Bn_takeTwoRules_L28, if_neg (nI_ge hb (by omega)), if_pos (inb_nI (by omega) (by decide)), nI_clamp (n := a) (by omega), ea, if_pos (inb_nI hca (by decide)), if_pos (inb_nI (by omega) (by decide)), nI_clamp (n := b) (by omega), eb, if_pos (inb_nI hcb (by decide)), nI_clamp (n := c a) (by omega), nI_clamp (n := c b) (by omega), ex, ey, hand, hcost, h5, if_neg (fun x => cc (hlt.mp x))]
        unfold Bn_takeTwoRules_J109
        rw [nI_1]) (n := 1100) (s := s1_) (by omega) (by omega) ⟨by omega, by rw [Dd_0]; exact h0⟩
  obtain ⟨s, he, -, h1⟩ := h
  rw [Dd_e] at h1
  exact ⟨s, he, h1⟩
def pT2 (kd j : Nat) : Bool := kd == 13 || kd == 10 && (j == 5 || j == 6 || j == 7)
theorem pT2_cs : ∀ k j, pCs k j = false → pT2 k j = false := by
  intro k j h
  unfold pCs at h
  unfold pT2
  simp only [Bool.or_eq_false_iff, Bool.and_eq_false_iff, beq_eq_false_iff_ne] at h ⊢
  omega
theorem pGc_2 : ∀ k j, pT2 k j = false → pGc k j = false := by
  intro k j h
  unfold pT2 at h
  unfold pGc
  simp only [Bool.or_eq_false_iff, Bool.and_eq_false_iff, beq_eq_false_iff_ne] at h ⊢
  omega
theorem pTk_2 : ∀ k j, pT2 k j = false → pTk k j = false := by
  intro k j h
  unfold pT2 at h
  unfold pTk
  simp only [Bool.or_eq_false_iff, Bool.and_eq_false_iff, beq_eq_false_iff_ne] at h ⊢
  omega
theorem Bn_two_eq {σ τ s0 : St} (w : WF τ) (cc : RC σ τ) {m : Nat} (hW : Wg σ τ s0 m) : ∃ s v l g, Bn_takeTwoRules s0 = some s ∧ Fr pT2 s0 s ∧ Stl τ m v l g ∧ s.1 10 0 5 = nI v ∧ s.1 10 0 6 = nI l ∧ s.1 10 0 7 = g := by
  obtain ⟨hf, hg, h11, h4, h5, h6, h7⟩ := hW
  obtain ⟨p1, p2, p3, p4, p5, p6⟩ := cc.prA w
  have hl := lst_le w m
  have e2 : s0.1 10 0 2 = nI (pT τ) := (hf.2 _ _ _ rfl).trans p5
  have hlt := nI_ltI (a := pT τ) (b := lst τ m) (by omega) (by omega)
  unfold Bn_takeTwoRules
  rw [e2, h4]
  by_cases c : pT τ < lst τ m
  · rw [if_pos (hlt.mpr c)]
    obtain ⟨q, t, cd, g1, g2, g3⟩ := gath w hg
    rw [g1, Option.bind_some]
    have hg' : Sng τ t m (kO τ m) := by
      intro r hr
      rw [g2.2 12 0 r rfl]; exact hg r hr
    have hpr : ∀ j, j < 3 → t.1 10 0 j = σ.1 10 0 j := by
      intro j hj
      rw [g2.2 10 0 j rfl]
      have : j = 0 ∨ j = 1 ∨ j = 2 := by omega
      rcases this with e | e | e <;> subst e <;> exact hf.2 _ _ _ rfl
    have h := lpU (fun n a s => Bn_takeTwoRules_L19 (nI q) n (nI a) s) (fun a s => SC τ t m (Dc cd q a) s) some q (by
      intro n s hp
      show Bn_takeTwoRules_L19 (nI q) (n + 1) (nI q) s = some s
      rw [Bn_takeTwoRules_L19, if_pos (nI_le (Nat.le_refl _) (by have := g3.1; omega))]) (by
      intro a n s ha hp
      obtain ⟨s', x1, x2⟩ := two_in w cc (fun (s_26 : St) => (Bn_takeTwoRules_L19 (nI q) n) (nI a + 1) s_26) hpr hg' g3 ha hp
      refine ⟨s', ?_, x2⟩
      show Bn_takeTwoRules_L19 (nI q) (n + 1) (nI a) s = Bn_takeTwoRules_L19 (nI q) n (nI (a + 1)) s'
      rw [Bn_takeTwoRules_L19, if_neg (nI_ge ha (by have := g3.1; omega))]
      rw [nI_1] at x1 ⊢
      exact x1) (n := 1100) (s := t) (by have := g3.1; omega) ⟨Fr.rf _ _, lst τ m, none, ⟨rfl, fun i j hd => by obtain ⟨x, y, z1, z2, z3, z4⟩ := hd; exact absurd z3 (Nat.not_lt_zero _)⟩, Nat.le_refl _, (g2.2 _ _ _ rfl).trans h5, (g2.2 _ _ _ rfl).trans h6, (g2.2 _ _ _ rfl).trans h7⟩
    obtain ⟨s, he, hfs, v, o, hB, hv, k5, k6, k7⟩ := h
    rw [Dc_e] at hB
    exact ⟨s, v, _, _, he, (g2.wk pGc_2).tr (hfs.wk pTk_2), ⟨o, prune (fun a ha => (g3.2.1 a ha).2) g3.2.2.1 g3.2.2.2 hv hB, rfl, rfl⟩, k5, k6, k7⟩
  · rw [if_neg (fun x => c (hlt.mp x))]
    refine ⟨s0, lst τ m, _, _, rfl, Fr.rf _ _, ⟨none, ⟨rfl, fun i j _ => ?_⟩, rfl, rfl⟩, h5, h6, h7⟩
    have := s2_ge τ m i j
    omega
