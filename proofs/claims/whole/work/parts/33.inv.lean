/-! ===== the invariant, but for the minds: what a store of the reference is, and how the class's store shows it ===== -/
def nC (τ : St) : Nat := tn (τ.1 0 0 10)
def nM (τ : St) : Nat := tn (τ.1 0 0 12)
def nS (τ : St) : Nat := tn (τ.1 0 0 16)
def nV (τ : St) : Nat := tn (τ.1 0 0 33)
/-- of a saying: master, case, year, answer, traits of its case -/
def sm (τ : St) (s : Nat) : Nat := tn (τ.1 17 0 s)
def sc (τ : St) (s : Nat) : Nat := tn (τ.1 18 0 s)
def sy (τ : St) (s : Nat) : Nat := tn (τ.1 19 0 s)
def sa (τ : St) (s : Nat) : Nat := tn (τ.1 20 0 s)
def cs (τ : St) (c : Nat) : Nat := tn (τ.1 11 0 c)
def sx (τ : St) (s : Nat) : Nat := cs τ (sc τ s)
/-- how many of the first n are so -/
def cnt (p : Nat → Bool) : Nat → Nat
  | 0 => 0
  | n + 1 => cnt p n + (if p n = true then 1 else 0)
/-- how many sayings of a master, among the first n -/
def nO (τ : St) (m n : Nat) : Nat := cnt (fun s => decide (sm τ s = m)) n
def W_cnt (τ : St) : Prop := (τ.1 0 0 10 = nI (nC τ) ∧ nC τ ≤ 12) ∧ (τ.1 0 0 12 = nI (nM τ) ∧ nM τ ≤ 8) ∧ (τ.1 0 0 16 = nI (nS τ) ∧ nS τ ≤ 24) ∧ (τ.1 0 0 33 = nI (nV τ) ∧ nV τ ≤ 40)
def okSz (v : Int32) : Prop := v = -9 ∨ ∃ n, n ≤ 40 ∧ v = nI n
def W_row (τ : St) : Prop := ∀ r, r < 6 → okSz (τ.1 5 0 r)
def W_text (τ : St) : Prop := (∀ t, t < 4 → okSz (τ.1 8 0 t)) ∧ ∀ i, i < 160 → (τ.1 9 0 i).toInt8.toInt32 = τ.1 9 0 i
def W_case (τ : St) : Prop := ∀ c, c < nC τ → τ.1 11 0 c = nI (cs τ c) ∧ cs τ c < 32
def W_mas (τ : St) : Prop := ∀ m, m < nM τ → (∃ a b, a ≤ b ∧ b < 1000 ∧ τ.1 13 0 m = nI a ∧ τ.1 14 0 m = nI b) ∧ (τ.1 15 0 m = -9 ∨ ∃ t, t < m ∧ τ.1 15 0 m = nI t)
def W_say (τ : St) : Prop := ∀ s, s < nS τ → (τ.1 17 0 s = nI (sm τ s) ∧ sm τ s < nM τ) ∧ (τ.1 18 0 s = nI (sc τ s) ∧ sc τ s < nC τ) ∧ (τ.1 19 0 s = nI (sy τ s) ∧ tn (τ.1 13 0 (sm τ s)) ≤ sy τ s ∧ sy τ s ≤ tn (τ.1 14 0 (sm τ s))) ∧ (τ.1 20 0 s = nI (sa τ s) ∧ sa τ s < 2) ∧ okB (τ.1 21 0 s)
def W_nine (τ : St) : Prop := ∀ m, nO τ m (nS τ) ≤ 9
def W_pr (τ : St) : Prop := ∀ k, k < 3 → ∃ p, p ≤ 99 ∧ τ.1 24 0 k = nI p
def W_cp (τ : St) : Prop := ∀ i, i < 5 * nS τ → τ.1 22 0 i = -9 ∨ τ.1 22 0 i = 0 ∨ τ.1 22 0 i = 1
def okMv (τ : St) (k : Nat) : Prop := ∃ kd s v, kd ≤ 6 ∧ s < nS τ ∧ τ.1 34 0 k = nI kd ∧ τ.1 35 0 k = nI s ∧ τ.1 36 0 k = nI v ∧ ((kd = 0 ∨ kd = 6) ∧ v = 0 ∨ kd = 1 ∧ v < nS τ ∧ v ≠ s ∨ (kd = 2 ∨ kd = 4) ∧ v < 5 ∨ kd = 3 ∧ v < nM τ ∨ kd = 5 ∧ v < 1000)
def W_mov (τ : St) : Prop := ∀ k, k < nV τ → okMv τ k
def WF (τ : St) : Prop := W_cnt τ ∧ W_row τ ∧ W_text τ ∧ W_case τ ∧ W_mas τ ∧ W_say τ ∧ W_nine τ ∧ W_pr τ ∧ W_cp τ ∧ W_mov τ
def cSz (v : Int32) : Int32 := if v < 0 then -1 else v
/-- a leads back to b -/
def leads (τ : St) : Nat → Int32 → Nat → Bool
  | 0, _, _ => false
  | n + 1, at_, b => if at_ = -9 then false else if at_ = nI b then true else leads τ n (τ.1 15 0 (tn at_)) b
def R_row (σ τ : St) : Prop := (∀ r, r < 6 → σ.1 18 r 1 = cSz (τ.1 5 0 r)) ∧ ∀ r, r < 6 → ∀ i, i < 40 → σ.1 19 r i = τ.1 6 0 (40 * r + i)
def R_text (σ τ : St) : Prop := (∀ r, r < 4 → σ.1 20 r 1 = cSz (τ.1 8 0 r)) ∧ ∀ r, r < 4 → ∀ i, i < 40 → σ.1 21 r i = τ.1 9 0 (40 * r + i)
def R_case (σ τ : St) : Prop := σ.1 3 0 3 = τ.1 0 0 10 ∧ ∀ c, c < 12 → σ.1 14 0 c = τ.1 11 0 c
def R_mas (σ τ : St) : Prop := σ.1 3 0 5 = τ.1 0 0 12 ∧ (∀ m, m < nM τ → σ.1 22 m 0 = τ.1 13 0 m ∧ σ.1 22 m 1 = τ.1 14 0 m ∧ σ.1 22 m 2 = τ.1 15 0 m) ∧ ∀ m, m < nM τ → ∃ f, f < 256 ∧ σ.1 22 m 3 = nI f ∧ ∀ k, k < 8 → f.testBit k = leads τ 9 (τ.1 15 0 m) k
def R_say (σ τ : St) : Prop := σ.1 3 0 7 = τ.1 0 0 16 ∧ (∀ s, s < nS τ → σ.1 26 s 0 = τ.1 17 0 s ∧ σ.1 26 s 1 = τ.1 18 0 s ∧ σ.1 26 s 2 = τ.1 19 0 s ∧ σ.1 26 s 3 = τ.1 20 0 s ∧ σ.1 26 s 4 = τ.1 21 0 s) ∧ (∀ s, s < nS τ → ∀ c, c < 5 → σ.1 27 s c = τ.1 22 0 (5 * s + c)) ∧ ∀ s, nS τ ≤ s → s < 24 → ∀ c, c < 5 → σ.1 27 s c = -9
def R_own (σ τ : St) : Prop := (∀ m, m < 8 → σ.1 22 m 5 = nI (nO τ m (nS τ))) ∧ ∀ s, s < nS τ → σ.1 23 (sm τ s) (nO τ (sm τ s) s) = nI s
def R_pr (σ τ : St) : Prop := ∀ k, k < 3 → σ.1 10 0 k = τ.1 24 0 k
def R_rul (σ : St) : Prop := σ.1 8 0 = owT ∧ σ.1 9 0 = lkT
def R_mov (σ τ : St) : Prop := σ.1 4 0 1 = τ.1 0 0 33 ∧ ∀ k, k < nV τ → σ.1 28 k 0 = τ.1 34 0 k ∧ σ.1 28 k 1 = τ.1 35 0 k ∧ σ.1 28 k 2 = τ.1 36 0 k
def R_misc (σ τ : St) : Prop := σ.1 0 0 6 = τ.1 0 0 0 ∧ (∀ f, f < 6 → σ.1 6 0 f = τ.1 1 0 f) ∧ σ.1 0 0 7 = τ.1 0 0 2 ∧ σ.2 8 = τ.2 3 ∧ σ.2 9 = τ.2 4
def RC (σ τ : St) : Prop := R_row σ τ ∧ R_text σ τ ∧ R_case σ τ ∧ R_mas σ τ ∧ R_say σ τ ∧ R_own σ τ ∧ R_pr σ τ ∧ R_rul σ ∧ R_mov σ τ ∧ R_misc σ τ
