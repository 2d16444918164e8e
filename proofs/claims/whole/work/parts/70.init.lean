/-! ===== the start ===== -/
theorem t0_k (kd : Nat) (h5 : kd ≠ 5) (h8 : kd ≠ 8) (h24 : kd ≠ 24) (n j : Nat) : tau0.1 kd n j = 0 := by
  unfold tau0
  rw [sX_o (by omega), sX_o (by omega), sX_o (by omega), sX_o (by omega), sX_o (by omega), sX_o (by omega), sX_o (by omega), sX_o (by omega), sX_o (by omega), sX_o (by omega), sX_o (by omega), sX_o (by omega), sX_o (by omega)]
  rfl
theorem t0_5 : ∀ r, r < 6 → tau0.1 5 0 r = -9 := by decide +kernel
theorem t0_8 : ∀ r, r < 4 → tau0.1 8 0 r = -9 := by decide +kernel
theorem t0_24 : ∀ k, k < 3 → tau0.1 24 0 k = (if k = 0 then 3 else if k = 1 then 5 else 7) := by decide +kernel
theorem t0_2 (j : Nat) : tau0.2 j = yM j := rfl
theorem n0_C : nC tau0 = 0 := by unfold nC; rw [t0_k 0 (by decide) (by decide) (by decide)]; rfl
theorem n0_M : nM tau0 = 0 := by unfold nM; rw [t0_k 0 (by decide) (by decide) (by decide)]; rfl
theorem n0_S : nS tau0 = 0 := by unfold nS; rw [t0_k 0 (by decide) (by decide) (by decide)]; rfl
theorem n0_V : nV tau0 = 0 := by unfold nV; rw [t0_k 0 (by decide) (by decide) (by decide)]; rfl
theorem WF_0 : WF tau0 := by
  refine ⟨⟨⟨?_, ?_⟩, ⟨?_, ?_⟩, ⟨?_, ?_⟩, ?_, ?_⟩, ?_, ⟨?_, ?_⟩, ?_, ?_, ?_, ?_, ?_, ?_, ?_⟩
  · rw [n0_C, t0_k 0 (by decide) (by decide) (by decide)]; rfl
  · rw [n0_C]; decide
  · rw [n0_M, t0_k 0 (by decide) (by decide) (by decide)]; rfl
  · rw [n0_M]; decide
  · rw [n0_S, t0_k 0 (by decide) (by decide) (by decide)]; rfl
  · rw [n0_S]; decide
  · rw [n0_V, t0_k 0 (by decide) (by decide) (by decide)]; rfl
  · rw [n0_V]; decide
  · intro r hr; exact Or.inl (t0_5 r hr)
  · intro r hr; exact Or.inl (t0_8 r hr)
  · intro i _
    rw [t0_k 9 (by decide) (by decide) (by decide)]; rfl
  · intro c hc; rw [n0_C] at hc; exact absurd hc (Nat.not_lt_zero _)
  · intro c hc; rw [n0_M] at hc; exact absurd hc (Nat.not_lt_zero _)
  · intro c hc; rw [n0_S] at hc; exact absurd hc (Nat.not_lt_zero _)
  · intro m
    rw [n0_S]; exact Nat.zero_le _
  · intro k hk
    rw [t0_24 k hk]
    split
    · exact ⟨3, by decide, rfl⟩
    · split
      · exact ⟨5, by decide, rfl⟩
      · exact ⟨7, by decide, rfl⟩
  · intro i hi; rw [n0_S] at hi; exact absurd hi (Nat.not_lt_zero _)
  · intro k hk; rw [n0_V] at hk; exact absurd hk (Nat.not_lt_zero _)
theorem RC_0 : RC sig0 tau0 := by
  refine ⟨⟨?_, ?_⟩, ⟨?_, ?_⟩, ⟨?_, ?_⟩, ⟨?_, ?_, ?_⟩, ⟨?_, ?_, ?_, ?_⟩, ⟨?_, ?_⟩, ?_, ⟨rfl, rfl⟩, ⟨?_, ?_⟩, ?_, ?_, ?_, ?_, ?_⟩
  · intro r hr; rw [t0_5 r hr]; exact (show (-1 : Int32) = cSz (-9) from by decide)
  · intro r hr i hi; rw [t0_k 6 (by decide) (by decide) (by decide)]; rfl
  · intro r hr; rw [t0_8 r hr]; exact (show (-1 : Int32) = cSz (-9) from by decide)
  · intro r hr i hi; rw [t0_k 9 (by decide) (by decide) (by decide)]; rfl
  · rw [t0_k 0 (by decide) (by decide) (by decide)]; rfl
  · intro c hc; rw [t0_k 11 (by decide) (by decide) (by decide)]; rfl
  · rw [t0_k 0 (by decide) (by decide) (by decide)]; rfl
  · intro m hm; rw [n0_M] at hm; exact absurd hm (Nat.not_lt_zero _)
  · intro m hm; rw [n0_M] at hm; exact absurd hm (Nat.not_lt_zero _)
  · rw [t0_k 0 (by decide) (by decide) (by decide)]; rfl
  · intro m hm; rw [n0_S] at hm; exact absurd hm (Nat.not_lt_zero _)
  · intro m hm; rw [n0_S] at hm; exact absurd hm (Nat.not_lt_zero _)
  · intro s _ _ c hc
    show (if c < 5 then (-9 : Int32) else 0) = -9
    rw [if_pos hc]
  · intro m hm
    rw [n0_S]; rfl
  · intro m hm; rw [n0_S] at hm; exact absurd hm (Nat.not_lt_zero _)
  · intro k hk
    rw [t0_24 k hk]
    have h3 : k = 0 ∨ k = 1 ∨ k = 2 := by omega
    rcases h3 with e | e | e <;> subst e <;> rfl
  · rw [t0_k 0 (by decide) (by decide) (by decide)]; rfl
  · intro m hm; rw [n0_V] at hm; exact absurd hm (Nat.not_lt_zero _)
  · rw [t0_k 0 (by decide) (by decide) (by decide)]; rfl
  · intro f hf; rw [t0_k 1 (by decide) (by decide) (by decide)]; rfl
  · rw [t0_k 0 (by decide) (by decide) (by decide)]; rfl
  · rfl
  · rfl
theorem Inv_0 : Inv sig0 tau0 := ⟨WF_0, RC_0, fun _ _ => Or.inl rfl⟩
theorem whole_start {p : Program} {e : Env} {s : State} {m : MethodId} {below : List Frame} {meth : Method} {c : Code} (l : Launch) {b L : Nat} {xs : Nat → Int32} (hL : L ≤ 3072) (C0 : lw_At p s m meth c b L xs) : W p l e room_1 s m #[Value.ref b] below meth c s.heap [] 0 0 (lw_Z below #[Value.ref b] s) (entryFrame m ([Value.ref b] : List Value).toArray 4) :=
  whole_open step_0 step_1 step_2 step_3 step_4 step_5 step_6 step_7 step_8 step_9 step_10 step_11 step_12 step_13 step_14 step_15 step_16 step_17 step_18 step_19 step_20 step_21 step_22 step_23 step_24 step_25 step_26 step_27 step_28 step_29 step_30 step_31 step_32 step_33 step_34 step_35 step_36 step_37 step_38 step_39 step_40 step_41 step_42 step_43 step_44 step_45 step_46 step_47 step_48 step_49 step_50 Inv_0 l hL C0
