/-! ===== slip: numbers alone ===== -/
def pL45 (v1 v2 v3 : Int32) : Nat → Int64 → Int64 → Int64 → Int32 → Option Int64
  | 0, _, _, _, _ => none
  | n + 1, v4, v6, v8, v10 => if v10 < v3 then some v8 else (if ¬ (((v1 - v10) + 1).toInt64) = 0 then pL45 v1 v2 v3 n ((v4 * v10.toInt64) / (((v1 - v10) + 1).toInt64)) (v6 * ((v2 - 1).toInt64)) (v8 + (v4 * v6)) (v10 + (-1)) else none)
theorem pL45_eq (K : Int64 → St → Option (Int32 × St)) (v1 v2 v3 : Int32) (s : St) : ∀ n v4 v6 v8 v10, Q_slip_L45 K v1 v2 v3 n v4 v6 v8 v10 s = Option.bind (pL45 v1 v2 v3 n v4 v6 v8 v10) (fun x => K x s) := by
  intro n
  induction n with
  | zero => intro v4 v6 v8 v10; rfl
  | succ n ih =>
    intro v4 v6 v8 v10
    rw [Q_slip_L45, pL45, ih]
    split
    · rfl
    · split <;> rfl
def pL98 (v1 v2 : Int32) : Nat → Int64 → Int32 → Option Int64
  | 0, _, _ => none
  | n + 1, v10, v12 => if v1 ≤ v12 then some v10 else pL98 v1 v2 n (v10 * v2.toInt64) (v12 + 1)
theorem pL98_eq (K : Int64 → St → Option (Int32 × St)) (v1 v2 : Int32) (v8 : Int64) (s : St) : ∀ n v10 v12, Q_slip_L98 K v1 v2 v8 n v10 v12 s = Option.bind (pL98 v1 v2 n v10 v12) (fun x => K x s) := by
  intro n
  induction n with
  | zero => intro v10 v12; rfl
  | succ n ih =>
    intro v10 v12
    rw [Q_slip_L98, pL98, ih]
    split <;> rfl
def pL9 : Nat → Int64 → Int64 → Int32 → Option Int64
  | 0, _, _, _ => none
  | n + 1, v5, v7, v9 => if 200 ≤ v9 then some v5 else (if (lg_cmp v7 0) = 0 then some v5 else (if ¬ v7 = 0 then pL9 n v7 (v5 - v5 / v7 * v7) (v9 + 1) else none))
theorem pL9_eq (K : Int64 → St → Option St) (v1 v3 : Int64) (s : St) : ∀ n v5 v7 v9, Q_tellFraction_L9 K v1 v3 n v5 v7 v9 s = Option.bind (pL9 n v5 v7 v9) (fun x => K x s) := by
  intro n
  induction n with
  | zero => intro v5 v7 v9; rfl
  | succ n ih =>
    intro v5 v7 v9
    rw [Q_tellFraction_L9, pL9, ih]
    split
    · rfl
    · split
      · rfl
      · split <;> rfl
def qP (v1 v2 v3 : Int32) : Option (Int64 × Int64) := Option.bind (pL45 v1 v2 v3 1100 1 1 0 v1) (fun w => Option.bind (pL98 v1 v2 1100 1 0) (fun wh => Option.bind (pL9 1100 wh w 0) (fun g => if (lg_cmp g 0) = 0 then none else (if ¬ g = 0 then some (w / g, wh / g) else none))))
def pM40 (v1 v2 : Int32) : Nat → Int64 → Int32 → Option Int64
  | 0, _, _ => none
  | n + 1, v4, v8 => if v1 ≤ v8 then some v4 else pM40 v1 v2 n (v4 * v2.toInt64) (v8 + 1)
theorem pM40_eq (K : Int64 → St → Option (Int32 × St)) (v1 v2 v3 : Int32) (v6 : Int64) (s : St) : ∀ n v4 v8, M_slip_L40 K v1 v2 v3 v6 n v4 v8 s = Option.bind (pM40 v1 v2 n v4 v8) (fun x => K x s) := by
  intro n
  induction n with
  | zero => intro v4 v8; rfl
  | succ n ih =>
    intro v4 v8
    rw [M_slip_L40, pM40, ih]
    split <;> rfl
def pM78 (v1 v2 v10 : Int32) : Nat → Int64 → Int32 → Option Int64
  | 0, _, _ => none
  | n + 1, v11, v13 => if (v1 - v10) ≤ v13 then some v11 else pM78 v1 v2 v10 n (v11 * ((v2 - 1).toInt64)) (v13 + 1)
theorem pM78_eq (K : Int64 → St → Option (Int32 × St)) (v1 v2 v3 v10 : Int32) (v4 v6 v8 : Int64) (s : St) : ∀ n v11 v13, M_slip_L78 K v1 v2 v3 v4 v6 v8 v10 n v11 v13 s = Option.bind (pM78 v1 v2 v10 n v11 v13) (fun x => K x s) := by
  intro n
  induction n with
  | zero => intro v11 v13; rfl
  | succ n ih =>
    intro v11 v13
    rw [M_slip_L78, pM78, ih]
    split <;> rfl
def pM65 (v1 v2 v3 : Int32) : Nat → Int64 → Int64 → Int32 → Option Int64
  | 0, _, _, _ => none
  | n + 1, v6, v8, v10 => if v1 < v10 then some v6 else Option.bind (pM78 v1 v2 v10 1100 v8 0) (fun v11 => if ¬ ((v10 + 1).toInt64) = 0 then pM65 v1 v2 v3 n (v6 + (if v10 < v3 then 0 else v11 : Int64)) ((v8 * ((v1 - v10).toInt64)) / ((v10 + 1).toInt64)) (v10 + 1) else none)
theorem pM65_eq (K : Int64 → St → Option (Int32 × St)) (v1 v2 v3 : Int32) (v4 : Int64) (s : St) : ∀ n v6 v8 v10, M_slip_L65 K v1 v2 v3 v4 n v6 v8 v10 s = Option.bind (pM65 v1 v2 v3 n v6 v8 v10) (fun x => K x s) := by
  intro n
  induction n with
  | zero => intro v6 v8 v10; rfl
  | succ n ih =>
    intro v6 v8 v10
    rw [M_slip_L65, pM65, pM78_eq]
    split
    · rfl
    · cases pM78 v1 v2 v10 1100 v8 0 with
      | none => rfl
      | some x =>
        rw [Option.bind_some, Option.bind_some]
        split
        · exact ih _ _ _
        · rfl
def pM149 : Nat → Int64 → Int64 → Option Int64
  | 0, _, _ => none
  | n + 1, v10, v12 => if (lg_cmp v12 0) = 0 then some v10 else (if ¬ v12 = 0 then pM149 n v12 (v10 - v10 / v12 * v12) else none)
theorem pM149_eq (K : Int64 → St → Option (Int32 × St)) (v4 v6 : Int64) (s : St) : ∀ n v10 v12, M_slip_L149 K v4 v6 n v10 v12 s = Option.bind (pM149 n v10 v12) (fun x => K x s) := by
  intro n
  induction n with
  | zero => intro v10 v12; rfl
  | succ n ih =>
    intro v10 v12
    rw [M_slip_L149, pM149, ih]
    split
    · rfl
    · split <;> rfl
def mP (v1 v2 v3 : Int32) : Option (Int64 × Int64) := Option.bind (pM40 v1 v2 1100 1 0) (fun al => Option.bind (pM65 v1 v2 v3 1100 0 1 0) (fun sm => Option.bind (pM149 1100 sm al) (fun x => if ¬ x = 0 then some (sm / x, al / x) else none)))
def slipOk (n m k : Nat) : Bool := decide (qP (nI n) (nI m) (nI k) = mP (nI n) (nI m) (nI k)) && (qP (nI n) (nI m) (nI k)).isSome
set_option maxRecDepth 100000 in
theorem slip_1 : ∀ m, m < 8 → ∀ k, k < 2 → slipOk 1 (m + 2) k = true := by decide +kernel
set_option maxRecDepth 100000 in
theorem slip_2 : ∀ m, m < 8 → ∀ k, k < 3 → slipOk 2 (m + 2) k = true := by decide +kernel
set_option maxRecDepth 100000 in
theorem slip_3 : ∀ m, m < 8 → ∀ k, k < 4 → slipOk 3 (m + 2) k = true := by decide +kernel
set_option maxRecDepth 100000 in
theorem slip_4 : ∀ m, m < 8 → ∀ k, k < 5 → slipOk 4 (m + 2) k = true := by decide +kernel
set_option maxRecDepth 100000 in
theorem slip_5 : ∀ m, m < 8 → ∀ k, k < 6 → slipOk 5 (m + 2) k = true := by decide +kernel
set_option maxRecDepth 100000 in
theorem slip_6 : ∀ m, m < 8 → ∀ k, k < 7 → slipOk 6 (m + 2) k = true := by decide +kernel
set_option maxRecDepth 100000 in
theorem slip_7 : ∀ m, m < 8 → ∀ k, k < 8 → slipOk 7 (m + 2) k = true := by decide +kernel
set_option maxRecDepth 100000 in
theorem slip_8 : ∀ m, m < 8 → ∀ k, k < 9 → slipOk 8 (m + 2) k = true := by decide +kernel
set_option maxRecDepth 100000 in
theorem slip_9 : ∀ m, m < 8 → ∀ k, k < 10 → slipOk 9 (m + 2) k = true := by decide +kernel
set_option maxRecDepth 100000 in
theorem slip_10 : ∀ m, m < 8 → ∀ k, k < 11 → slipOk 10 (m + 2) k = true := by decide +kernel
set_option maxRecDepth 100000 in
theorem slip_11 : ∀ m, m < 8 → ∀ k, k < 12 → slipOk 11 (m + 2) k = true := by decide +kernel
set_option maxRecDepth 100000 in
theorem slip_12 : ∀ m, m < 8 → ∀ k, k < 13 → slipOk 12 (m + 2) k = true := by decide +kernel
theorem slip_all {n m k : Nat} (hn : 1 ≤ n) (hn2 : n ≤ 12) (hm : 2 ≤ m) (hm2 : m ≤ 9) (hk : k ≤ n) : ∃ a b, qP (nI n) (nI m) (nI k) = some (a, b) ∧ mP (nI n) (nI m) (nI k) = some (a, b) := by
  have key : slipOk n m k = true := by
    have h12 : n = 1 ∨ n = 2 ∨ n = 3 ∨ n = 4 ∨ n = 5 ∨ n = 6 ∨ n = 7 ∨ n = 8 ∨ n = 9 ∨ n = 10 ∨ n = 11 ∨ n = 12 := by omega
    obtain ⟨q, rfl⟩ : ∃ q, m = q + 2 := ⟨m - 2, by omega⟩
    rcases h12 with e | e | e | e | e | e | e | e | e | e | e | e <;> subst e
    · exact slip_1 q (by omega) k (by omega)
    · exact slip_2 q (by omega) k (by omega)
    · exact slip_3 q (by omega) k (by omega)
    · exact slip_4 q (by omega) k (by omega)
    · exact slip_5 q (by omega) k (by omega)
    · exact slip_6 q (by omega) k (by omega)
    · exact slip_7 q (by omega) k (by omega)
    · exact slip_8 q (by omega) k (by omega)
    · exact slip_9 q (by omega) k (by omega)
    · exact slip_10 q (by omega) k (by omega)
    · exact slip_11 q (by omega) k (by omega)
    · exact slip_12 q (by omega) k (by omega)
  unfold slipOk at key
  rw [Bool.and_eq_true] at key
  have e := of_decide_eq_true key.1
  obtain ⟨p, hp⟩ := Option.isSome_iff_exists.mp key.2
  exact ⟨p.1, p.2, hp, e ▸ hp⟩
theorem sY_at (σ : St) (j : Nat) (v : Int64) (i : Nat) : (sY σ j v).2 i = if i = j then v else σ.2 i := rfl
theorem step_34 : Stp_34 Inv := by
  intro a1 a2 a3 σ τ h
  unfold Q_slip M_slip
  by_cases c1 : a1 < 1
  · have e : M_in a1 1 12 = 0 := by unfold M_in; rw [if_pos c1]
    rw [if_pos c1, if_pos e]; exact ⟨_, _, _, rfl, rfl, h⟩
  · by_cases c2 : 12 < a1
    · have e : M_in a1 1 12 = 0 := by unfold M_in; rw [if_neg c1, if_pos c2]
      rw [if_neg c1, if_pos c2, if_pos e]; exact ⟨_, _, _, rfl, rfl, h⟩
    · have e : ¬ M_in a1 1 12 = 0 := by unfold M_in; rw [if_neg c1, if_neg c2]; decide
      rw [if_neg c1, if_neg c2, if_neg e]
      by_cases c3 : a2 < 2
      · have e : M_in a2 2 9 = 0 := by unfold M_in; rw [if_pos c3]
        rw [if_pos c3, if_pos e]; exact ⟨_, _, _, rfl, rfl, h⟩
      · by_cases c4 : 9 < a2
        · have e : M_in a2 2 9 = 0 := by unfold M_in; rw [if_neg c3, if_pos c4]
          rw [if_neg c3, if_pos c4, if_pos e]; exact ⟨_, _, _, rfl, rfl, h⟩
        · have e : ¬ M_in a2 2 9 = 0 := by unfold M_in; rw [if_neg c3, if_neg c4]; decide
          rw [if_neg c3, if_neg c4, if_neg e]
          by_cases c5 : a3 < 0
          · have e : M_in a3 0 a1 = 0 := by unfold M_in; rw [if_pos c5]
            rw [if_pos c5, if_pos e]; exact ⟨_, _, _, rfl, rfl, h⟩
          · by_cases c6 : a3 ≤ a1
            · have e : ¬ M_in a3 0 a1 = 0 := by unfold M_in; rw [if_neg c5, if_neg (Int32.not_lt.mpr c6)]; decide
              rw [if_neg c5, if_pos c6, if_neg e]
              obtain ⟨n, hn, rfl⟩ := nI_of2 (M := 12) (n := 12) (by decide) (fun x => c1 (Int32.lt_trans x (by decide))) (Int32.not_lt.mp c2)
              obtain ⟨m, hm, rfl⟩ := nI_of2 (M := 9) (n := 9) (by decide) (fun x => c3 (Int32.lt_trans x (by decide))) (Int32.not_lt.mp c4)
              obtain ⟨k, hk, rfl⟩ := nI_of2 (M := nI n) (n := n) (nI_toInt (by omega)) c5 c6
              have hn1 : 1 ≤ n := by
                by_cases z : 1 ≤ n
                · exact z
                · exact absurd (nI_lt (a := n) (b := 1) (by omega) (by decide)) c1
              have hm1 : 2 ≤ m := by
                by_cases z : 2 ≤ m
                · exact z
                · exact absurd (nI_lt (a := m) (b := 2) (by omega) (by decide)) c3
              obtain ⟨a, b, x1, x2⟩ := slip_all hn1 hn hm1 hm hk
              have hq : Q_slip_L45 (fun (v8_19 : Int64) (s_20 : St) => Q_slip_L98 (fun (v10_30 : Int64) (s_31 : St) => Option.bind (Q_tellFraction v8_19 v10_30 s_31) (fun r_32 => some (1, r_32))) (nI n) (nI m) v8_19 1100 1 0 s_20) (nI n) (nI m) (nI k) 1100 1 1 0 (nI n) σ = some (1, sY (sY σ 8 a) 9 b) := by
                rw [pL45_eq]
                unfold qP at x1
                cases h1 : pL45 (nI n) (nI m) (nI k) 1100 1 1 0 (nI n) with
                | none => rw [h1] at x1; exact absurd x1 (by simp)
                | some w =>
                  rw [h1, Option.bind_some] at x1
                  rw [Option.bind_some, pL98_eq]
                  cases h2 : pL98 (nI n) (nI m) 1100 1 0 with
                  | none => rw [h2] at x1; exact absurd x1 (by simp)
                  | some wh =>
                    rw [h2, Option.bind_some] at x1
                    rw [Option.bind_some]
                    unfold Q_tellFraction
                    rw [pL9_eq]
                    cases h3 : pL9 1100 wh w 0 with
                    | none => rw [h3] at x1; exact absurd x1 (by simp)
                    | some g =>
                      rw [h3, Option.bind_some] at x1
                      rw [Option.bind_some]
                      unfold Q_tellFraction_J45
                      by_cases g0 : lg_cmp g 0 = 0
                      · rw [if_pos g0] at x1; exact absurd x1 (by simp)
                      · rw [if_neg g0] at x1
                        rw [if_neg g0]
                        by_cases g1 : g = 0
                        · rw [if_neg (fun z => z g1)] at x1; exact absurd x1 (by simp)
                        · rw [if_pos g1] at x1
                          rw [if_pos g1, if_pos g1, Option.bind_some]
                          injection x1 with x1
                          injection x1 with y1 y2
                          rw [y1, y2]
              have hm : M_slip_L40 (fun (v4_14 : Int64) (s_15 : St) => M_slip_L65 (fun (v6_45 : Int64) (s_46 : St) => M_slip_L149 (fun (v10_56 : Int64) (s_57 : St) => if ¬ v10_56 = 0 then if ¬ v10_56 = 0 then some (1, sY (sY s_57 3 (v6_45 / v10_56)) 4 (v4_14 / v10_56)) else none else none) v4_14 v6_45 1100 v6_45 v4_14 s_46) (nI n) (nI m) (nI k) v4_14 1100 0 1 0 s_15) (nI n) (nI m) (nI k) 0 1100 1 0 τ = some (1, sY (sY τ 3 a) 4 b) := by
                rw [pM40_eq]
                unfold mP at x2
                cases h1 : pM40 (nI n) (nI m) 1100 1 0 with
                | none => rw [h1] at x2; exact absurd x2 (by simp)
                | some al =>
                  rw [h1, Option.bind_some] at x2
                  rw [Option.bind_some, pM65_eq]
                  cases h2 : pM65 (nI n) (nI m) (nI k) 1100 0 1 0 with
                  | none => rw [h2] at x2; exact absurd x2 (by simp)
                  | some sm =>
                    rw [h2, Option.bind_some] at x2
                    rw [Option.bind_some, pM149_eq]
                    cases h3 : pM149 1100 sm al with
                    | none => rw [h3] at x2; exact absurd x2 (by simp)
                    | some g =>
                      rw [h3, Option.bind_some] at x2
                      rw [Option.bind_some]
                      by_cases g1 : g = 0
                      · rw [if_neg (fun z => z g1)] at x2; exact absurd x2 (by simp)
                      · rw [if_pos g1] at x2
                        rw [if_pos g1, if_pos g1]
                        injection x2 with x2
                        injection x2 with y1 y2
                        rw [y1, y2]
              rw [hq, hm]
              refine ⟨_, _, _, rfl, rfl, Inv_lng h rfl rfl ?_ ?_⟩
              · rw [sY_at, if_neg (by decide), sY_at, if_pos rfl, sY_at, if_neg (by decide), sY_at, if_pos rfl]
              · rw [sY_at, if_pos rfl, sY_at, if_pos rfl]
            · have e : M_in a3 0 a1 = 0 := by
                unfold M_in
                rw [if_neg c5, if_pos (Int32.not_le.mp c6)]
              rw [if_neg c5, if_neg c6, if_pos e]; exact ⟨_, _, _, rfl, rfl, h⟩
