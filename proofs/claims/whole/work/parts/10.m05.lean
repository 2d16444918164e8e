def M_all_L4   : Nat → Int32 → Int32 → St → Option (Int32 × St)
  | 0, _, _, _ => none
  | n + 1, v1_1, v2_2, s_3 => if (s_3.1 0 0 12) ≤ v2_2 then (some (v1_1, s_3)) else (Option.bind (M_settles v2_2 s_3) (fun r_5 => (M_all_L4 n) (v1_1 + (r_5.1 0 0 27)) (v2_2 + 1) r_5))
def M_all  (s0 : St) : Option (Int32 × St) :=
  M_all_L4 1100 0 0 s0
set_option maxHeartbeats 4000000 in
set_option maxRecDepth 100000 in
theorem t_X12_all_L4 {x : Ctx} {w : Wp}  {z : Int32 × St}    (C : Cx x WM w cX12_all 3 RX12 7 (some .int)) : ∀ (n : Nat) (v1_1 : Int32) (v2_2 : Int32) (s_3 : St), M_all_L4 n v1_1 v2_2 s_3 = some z → V x WM w 3 (QM x WM w (some (.int z.1)) z.2) s_3 4 [(0, .ref (wa w 0 0)), (1, .int v1_1), (2, .int v2_2)] [] := by
  intro n
  induction n with
  | zero => intro v1_1 v2_2 s_3 h; cases h
  | succ n ih =>
    intro v1_1 v2_2 s_3 h
    unfold M_all_L4 at h
    refine r_iload_n C dX12_all_4 rfl 2 rfl ?_
    refine r_aload_n C dX12_all_5 rfl 0 rfl ?_
    refine gfX12_128 C dX12_all_6 ?_
    refine r_icmp_ge (tgt := 30) C dX12_all_9 (by decide) (fun c_4 => ?_) (fun c_4 => ?_)
    · have h := ip h c_4
      refine r_iload_n C dX12_all_30 rfl 1 rfl ?_
      cases h
      exact r_iret C dX12_all_31
    · have h := iq h c_4
      refine r_aload_n C dX12_all_12 rfl 0 rfl ?_
      refine r_iload_n C dX12_all_13 rfl 2 rfl ?_
      obtain ⟨r_5, er_5, h⟩ := bdE h
      refine kX12_231 C (m_X12_settles er_5) (by decide) (Nat.le_of_ble_eq_true rfl) dX12_all_14 ?_
      refine r_iload_n C dX12_all_17 rfl 1 rfl ?_
      refine r_aload_n C dX12_all_18 rfl 0 rfl ?_
      refine gfX12_225 C dX12_all_19 ?_
      refine r_iadd C dX12_all_22 ?_
      refine r_istore_n C dX12_all_23 rfl (Nat.le_of_ble_eq_true rfl) (L' := [(1, _), (0, _), (2, _)]) rfl ?_
      refine r_iinc (v := v2_2 + 1) C dX12_all_24 (j := 2) rfl rfl (Nat.le_of_ble_eq_true rfl) (L' := [(2, _), (1, _), (0, _)]) rfl ?_
      refine r_goto (tgt := 4) C dX12_all_27 (by decide) ?_
      refine r_sub [2, 1, 0] rfl ?_
      exact ih _ _ _ h
set_option maxHeartbeats 4000000 in
set_option maxRecDepth 100000 in
theorem m_X12_all {l : Launch} {w : Wp}   {s0 : St} {z : Int32 × St} (h : M_all s0 = some z) : Cm l yX12_all (.code yX12_all cX12_all 3 (some .int)) 7 WM w [.ref (wa w 0 0)] s0 (some (.int z.1)) z.2 := by
  refine Cm.of (own := RX12) (by decide +kernel) rfl (Nat.le_of_ble_eq_true rfl) (L := [(0, .ref (wa w 0 0))]) rfl KoM (fun x hl C => ?_)
  subst hl
  unfold M_all at h
  refine r_iconst (v := 0) C dX12_all_0 (by decide) ?_
  refine r_istore_n C dX12_all_1 rfl (Nat.le_of_ble_eq_true rfl) (L' := [(1, _), (0, _)]) rfl ?_
  refine r_iconst (v := 0) C dX12_all_2 (by decide) ?_
  refine r_istore_n C dX12_all_3 rfl (Nat.le_of_ble_eq_true rfl) (L' := [(2, _), (1, _), (0, _)]) rfl ?_
  refine r_sub [2, 1, 0] rfl ?_
  exact t_X12_all_L4 C _ _ _ _ h
def M_setRules_L2   : Nat → Int32 → St → Option (St)
  | 0, _, _ => none
  | n + 1, v1_1, s_2 => if (s_2.1 0 0 12) ≤ v1_1 then (some s_2) else (Option.bind (M_settles v1_1 s_2) (fun r_4 => if inb v1_1 8 = true then (M_setRules_L2 n) (v1_1 + 1) (sX r_4 32 0 v1_1.toNatClampNeg (r_4.1 0 0 28)) else none))
def M_setRules  (s0 : St) : Option (St) :=
  M_setRules_L2 1100 0 s0
set_option maxHeartbeats 4000000 in
set_option maxRecDepth 100000 in
theorem t_X12_setRules_L2 {x : Ctx} {w : Wp}  {z : St}    (C : Cx x WM w cX12_setRules 2 RX12 7 none) : ∀ (n : Nat) (v1_1 : Int32) (s_2 : St), M_setRules_L2 n v1_1 s_2 = some z → V x WM w 2 (QM x WM w none z) s_2 2 [(0, .ref (wa w 0 0)), (1, .int v1_1)] [] := by
  intro n
  induction n with
  | zero => intro v1_1 s_2 h; cases h
  | succ n ih =>
    intro v1_1 s_2 h
    unfold M_setRules_L2 at h
    refine r_iload_n C dX12_setRules_2 rfl 1 rfl ?_
    refine r_aload_n C dX12_setRules_3 rfl 0 rfl ?_
    refine gfX12_128 C dX12_setRules_4 ?_
    refine r_icmp_ge (tgt := 31) C dX12_setRules_7 (by decide) (fun c_3 => ?_) (fun c_3 => ?_)
    · have h := ip h c_3
      cases h
      exact r_vret C dX12_setRules_31
    · have h := iq h c_3
      refine r_aload_n C dX12_setRules_10 rfl 0 rfl ?_
      refine r_iload_n C dX12_setRules_11 rfl 1 rfl ?_
      obtain ⟨r_4, er_4, h⟩ := bdE h
      refine kX12_231 C (m_X12_settles er_4) (by decide) (Nat.le_of_ble_eq_true rfl) dX12_setRules_12 ?_
      refine r_aload_n C dX12_setRules_15 rfl 0 rfl ?_
      refine gfX12_72 C dX12_setRules_16 ?_
      refine r_iload_n C dX12_setRules_19 rfl 1 rfl ?_
      refine r_aload_n C dX12_setRules_20 rfl 0 rfl ?_
      refine gfX12_212 C dX12_setRules_21 ?_
      obtain ⟨g_5, h⟩ := gdE h
      refine stM_32 C g_5 dX12_setRules_24 ?_
      refine r_iinc (v := v1_1 + 1) C dX12_setRules_25 (j := 1) rfl rfl (Nat.le_of_ble_eq_true rfl) (L' := [(1, _), (0, _)]) rfl ?_
      refine r_goto (tgt := 2) C dX12_setRules_28 (by decide) ?_
      refine r_sub [1, 0] rfl ?_
      exact ih _ _ h
set_option maxHeartbeats 4000000 in
set_option maxRecDepth 100000 in
theorem m_X12_setRules {l : Launch} {w : Wp}   {s0 : St} {z : St} (h : M_setRules s0 = some z) : Cm l yX12_setRules (.code yX12_setRules cX12_setRules 2 none) 7 WM w [.ref (wa w 0 0)] s0 none z := by
  refine Cm.of (own := RX12) (by decide +kernel) rfl (Nat.le_of_ble_eq_true rfl) (L := [(0, .ref (wa w 0 0))]) rfl KoM (fun x hl C => ?_)
  subst hl
  unfold M_setRules at h
  refine r_iconst (v := 0) C dX12_setRules_0 (by decide) ?_
  refine r_istore_n C dX12_setRules_1 rfl (Nat.le_of_ble_eq_true rfl) (L' := [(1, _), (0, _)]) rfl ?_
  refine r_sub [1, 0] rfl ?_
  exact t_X12_setRules_L2 C _ _ _ h
def M_againstOf_J67 (B4 : Int32 → Int32 → Option (Int32)) (v1_10 : Int32) (v3_11 : Int32) (t_12 : Int32) (t_13 : Int32) (s0 : St) : Option (Int32) :=
  B4 (t_13 ||| t_12) (v3_11 + 1)
def M_againstOf_J66 (B4 : Int32 → Int32 → Option (Int32)) (v1_7 : Int32) (v3_8 : Int32) (t_9 : Int32) (s0 : St) : Option (Int32) :=
  M_againstOf_J67 B4 v1_7 v3_8 0 t_9 s0
def M_againstOf_L4  (v1_1 : Int32) (s0 : St) : Nat → Int32 → Int32 → Option (Int32)
  | 0, _, _ => none
  | n + 1, v2_2, v3_3 => if (s0.1 0 0 12) ≤ v3_3 then (some v2_2) else (if inb v1_1 24 = true then if v3_3 = (s0.1 17 0 v1_1.toNatClampNeg) then (M_againstOf_J66 (M_againstOf_L4 v1_1 s0 n) v1_1 v3_3 v2_2 s0) else (Option.bind (M_sayingsOf v3_3 s0) (fun r_18 => if r_18 ≤ 0 then (M_againstOf_J66 (M_againstOf_L4 v1_1 s0 n) v1_1 v3_3 v2_2 s0) else (if inb v3_3 8 = true then if inb v1_1 24 = true then if inb (s0.1 18 0 v1_1.toNatClampNeg) 12 = true then Option.bind (M_answer (s0.1 32 0 v3_3.toNatClampNeg) (s0.1 11 0 ((s0.1 18 0 v1_1.toNatClampNeg).toNatClampNeg))) (fun r_23 => if inb v1_1 24 = true then (M_againstOf_L4 v1_1 s0 n) (v2_2 ||| (if r_23 = (s0.1 20 0 v1_1.toNatClampNeg) then 0 else (1 <<< (v3_3 &&& 31)) : Int32)) (v3_3 + 1) else none) else none else none else none))) else none)
def M_againstOf (v1 : Int32) (s0 : St) : Option (Int32) :=
  M_againstOf_L4 v1 s0 1100 0 0
set_option maxHeartbeats 4000000 in
set_option maxRecDepth 100000 in
theorem t_X12_againstOf_J67 {x : Ctx} {w : Wp} {v1_10 : Int32} {v3_11 : Int32} {t_12 : Int32} {t_13 : Int32} {s0 : St} {z : Int32}  {B4 : Int32 → Int32 → Option (Int32)} (hB4 : ∀ (u2_14 : Int32) (u3_15 : Int32), B4 u2_14 u3_15 = some z → V x WM w 4 (QM x WM w (some (.int z)) s0) s0 4 [(0, .ref (wa w 0 0)), (1, .int v1_10), (2, .int u2_14), (3, .int u3_15)] []) (C : Cx x WM w cX12_againstOf 4 RX12 3 (some .int)) (h : M_againstOf_J67 B4 v1_10 v3_11 t_12 t_13 s0 = some z) : V x WM w 4 (QM x WM w (some (.int z)) s0) s0 67 [(0, .ref (wa w 0 0)), (1, .int v1_10), (3, .int v3_11)] [.int t_12, .int t_13] := by
  unfold M_againstOf_J67 at h
  refine r_ior C dX12_againstOf_67 ?_
  refine r_istore_n C dX12_againstOf_68 rfl (Nat.le_of_ble_eq_true rfl) (L' := [(2, _), (0, _), (1, _), (3, _)]) rfl ?_
  refine r_iinc (v := v3_11 + 1) C dX12_againstOf_69 (j := 3) rfl rfl (Nat.le_of_ble_eq_true rfl) (L' := [(3, _), (2, _), (0, _), (1, _)]) rfl ?_
  refine r_goto (tgt := 4) C dX12_againstOf_72 (by decide) ?_
  refine r_sub [2, 3, 1, 0] rfl ?_
  exact hB4 _ _ h
set_option maxHeartbeats 4000000 in
set_option maxRecDepth 100000 in
theorem t_X12_againstOf_J66 {x : Ctx} {w : Wp} {v1_7 : Int32} {v3_8 : Int32} {t_9 : Int32} {s0 : St} {z : Int32}  {B4 : Int32 → Int32 → Option (Int32)} (hB4 : ∀ (u2_16 : Int32) (u3_17 : Int32), B4 u2_16 u3_17 = some z → V x WM w 4 (QM x WM w (some (.int z)) s0) s0 4 [(0, .ref (wa w 0 0)), (1, .int v1_7), (2, .int u2_16), (3, .int u3_17)] []) (C : Cx x WM w cX12_againstOf 4 RX12 3 (some .int)) (h : M_againstOf_J66 B4 v1_7 v3_8 t_9 s0 = some z) : V x WM w 4 (QM x WM w (some (.int z)) s0) s0 66 [(0, .ref (wa w 0 0)), (1, .int v1_7), (3, .int v3_8)] [.int t_9] := by
  unfold M_againstOf_J66 at h
  refine r_iconst (v := 0) C dX12_againstOf_66 (by decide) ?_
  refine r_sub [0, 1, 2] rfl ?_
  exact t_X12_againstOf_J67 hB4 C h
set_option maxHeartbeats 4000000 in
set_option maxRecDepth 100000 in
theorem t_X12_againstOf_L4 {x : Ctx} {w : Wp} {v1_1 : Int32} {s0 : St} {z : Int32}    (C : Cx x WM w cX12_againstOf 4 RX12 3 (some .int)) : ∀ (n : Nat) (v2_2 : Int32) (v3_3 : Int32), M_againstOf_L4 v1_1 s0 n v2_2 v3_3 = some z → V x WM w 4 (QM x WM w (some (.int z)) s0) s0 4 [(0, .ref (wa w 0 0)), (1, .int v1_1), (2, .int v2_2), (3, .int v3_3)] [] := by
  intro n
  induction n with
  | zero => intro v2_2 v3_3 h; cases h
  | succ n ih =>
    intro v2_2 v3_3 h
    unfold M_againstOf_L4 at h
    refine r_iload_n C dX12_againstOf_4 rfl 3 rfl ?_
    refine r_aload_n C dX12_againstOf_5 rfl 0 rfl ?_
    refine gfX12_128 C dX12_againstOf_6 ?_
    refine r_icmp_ge (tgt := 75) C dX12_againstOf_9 (by decide) (fun c_4 => ?_) (fun c_4 => ?_)
    · have h := ip h c_4
      refine r_iload_n C dX12_againstOf_75 rfl 2 rfl ?_
      cases h
      exact r_iret C dX12_againstOf_76
    · have h := iq h c_4
      refine r_iload_n C dX12_againstOf_12 rfl 2 rfl ?_
      refine r_iload_n C dX12_againstOf_13 rfl 3 rfl ?_
      refine r_aload_n C dX12_againstOf_14 rfl 0 rfl ?_
      refine gfX12_44 C dX12_againstOf_15 ?_
      refine r_iload_n C dX12_againstOf_18 rfl 1 rfl ?_
      obtain ⟨g_5, h⟩ := gdE h
      refine ldM_17 C g_5 dX12_againstOf_19 ?_
      refine r_icmp_eq (tgt := 66) C dX12_againstOf_20 (by decide) (fun c_6 => ?_) (fun c_6 => ?_)
      · have h := ip h c_6
        refine r_sub [0, 1, 3] rfl ?_
        exact t_X12_againstOf_J66 ih C h
      · have h := iq h c_6
        refine r_aload_n C dX12_againstOf_23 rfl 0 rfl ?_
        refine r_iload_n C dX12_againstOf_24 rfl 3 rfl ?_
        obtain ⟨r_18, er_18, h⟩ := bdE h
        refine kX12_150 C (m_X12_sayingsOf er_18) (by decide) (Nat.le_of_ble_eq_true rfl) dX12_againstOf_25 ?_
        refine r_if_le (tgt := 66) C dX12_againstOf_28 (by decide) (fun c_19 => ?_) (fun c_19 => ?_)
        · have h := ip h c_19
          refine r_sub [0, 1, 3] rfl ?_
          exact t_X12_againstOf_J66 ih C h
        · have h := iq h c_19
          refine r_aload_n C dX12_againstOf_31 rfl 0 rfl ?_
          refine gfX12_72 C dX12_againstOf_32 ?_
          refine r_iload_n C dX12_againstOf_35 rfl 3 rfl ?_
          obtain ⟨g_20, h⟩ := gdE h
          refine ldM_32 C g_20 dX12_againstOf_36 ?_
          refine r_aload_n C dX12_againstOf_37 rfl 0 rfl ?_
          refine gfX12_32 C dX12_againstOf_38 ?_
          refine r_aload_n C dX12_againstOf_41 rfl 0 rfl ?_
          refine gfX12_47 C dX12_againstOf_42 ?_
          refine r_iload_n C dX12_againstOf_45 rfl 1 rfl ?_
          obtain ⟨g_21, h⟩ := gdE h
          refine ldM_18 C g_21 dX12_againstOf_46 ?_
          obtain ⟨g_22, h⟩ := gdE h
          refine ldM_11 C g_22 dX12_againstOf_47 ?_
          obtain ⟨r_23, er_23, h⟩ := bdE h
          refine kX12_193 C (m_X12_answer er_23) (by decide) (Nat.le_of_ble_eq_true rfl) dX12_againstOf_48 ?_
          refine r_aload_n C dX12_againstOf_51 rfl 0 rfl ?_
          refine gfX12_53 C dX12_againstOf_52 ?_
          refine r_iload_n C dX12_againstOf_55 rfl 1 rfl ?_
          obtain ⟨g_24, h⟩ := gdE h
          refine ldM_20 C g_24 dX12_againstOf_56 ?_
          refine r_em (st := [.int v2_2]) 67 ((if r_23 = (s0.1 20 0 v1_1.toNatClampNeg) then 0 else (1 <<< (v3_3 &&& 31)) : Int32)) (fun hM_26 => ?_) ?_
          · refine r_icmp_eq (tgt := 66) C dX12_againstOf_57 (by decide) (fun c_25 => ?_) (fun c_25 => ?_)
            · refine r_iconst (v := 0) C dX12_againstOf_66 (by decide) ?_
              exact (em_pos c_25 hM_26)
            · refine r_iconst (v := 1) C dX12_againstOf_60 (by decide) ?_
              refine r_iload_n C dX12_againstOf_61 rfl 3 rfl ?_
              refine r_ishl C dX12_againstOf_62 ?_
              refine r_goto (tgt := 67) C dX12_againstOf_63 (by decide) ?_
              exact (em_neg c_25 hM_26)
          refine r_ior C dX12_againstOf_67 ?_
          refine r_istore_n C dX12_againstOf_68 rfl (Nat.le_of_ble_eq_true rfl) (L' := [(2, _), (0, _), (1, _), (3, _)]) rfl ?_
          refine r_iinc (v := v3_3 + 1) C dX12_againstOf_69 (j := 3) rfl rfl (Nat.le_of_ble_eq_true rfl) (L' := [(3, _), (2, _), (0, _), (1, _)]) rfl ?_
          refine r_goto (tgt := 4) C dX12_againstOf_72 (by decide) ?_
          refine r_sub [2, 3, 1, 0] rfl ?_
          exact ih _ _ h
set_option maxHeartbeats 4000000 in
set_option maxRecDepth 100000 in
theorem m_X12_againstOf {l : Launch} {w : Wp} {v1 : Int32}  {s0 : St} {z : Int32} (h : M_againstOf v1 s0 = some z) : Cm l yX12_againstOf (.code yX12_againstOf cX12_againstOf 4 (some .int)) 3 WM w [.ref (wa w 0 0), .int v1] s0 (some (.int z)) s0 := by
  refine Cm.of (own := RX12) (by decide +kernel) rfl (Nat.le_of_ble_eq_true rfl) (L := [(0, .ref (wa w 0 0)), (1, .int v1)]) rfl KoM (fun x hl C => ?_)
  subst hl
  unfold M_againstOf at h
  refine r_iconst (v := 0) C dX12_againstOf_0 (by decide) ?_
  refine r_istore_n C dX12_againstOf_1 rfl (Nat.le_of_ble_eq_true rfl) (L' := [(2, _), (0, _), (1, _)]) rfl ?_
  refine r_iconst (v := 0) C dX12_againstOf_2 (by decide) ?_
  refine r_istore_n C dX12_againstOf_3 rfl (Nat.le_of_ble_eq_true rfl) (L' := [(3, _), (2, _), (0, _), (1, _)]) rfl ?_
  refine r_sub [2, 3, 1, 0] rfl ?_
  exact t_X12_againstOf_L4 C _ _ _ h
def M_against (v1 : Int32) (s0 : St) : Option (Int32 × St) :=
  if (M_isSaying v1 s0) = 0 then (some ((-1), s0)) else (Option.bind (M_setRules s0) (fun r_2 => Option.bind (M_againstOf v1 r_2) (fun r_3 => some (r_3, r_2))))
set_option maxHeartbeats 4000000 in
set_option maxRecDepth 100000 in
theorem m_X12_against {l : Launch} {w : Wp} {v1 : Int32}  {s0 : St} {z : Int32 × St} (h : M_against v1 s0 = some z) : Cm l yX12_against (.code yX12_against cX12_against 2 (some .int)) 8 WM w [.ref (wa w 0 0), .int v1] s0 (some (.int z.1)) z.2 := by
  refine Cm.of (own := RX12) (by decide +kernel) rfl (Nat.le_of_ble_eq_true rfl) (L := [(0, .ref (wa w 0 0)), (1, .int v1)]) rfl KoM (fun x hl C => ?_)
  subst hl
  unfold M_against at h
  refine r_aload_n C dX12_against_0 rfl 0 rfl ?_
  refine r_iload_n C dX12_against_1 rfl 1 rfl ?_
  refine kX12_157 C (m_X12_isSaying rfl) (by decide) (Nat.le_of_ble_eq_true rfl) dX12_against_2 ?_
  refine r_if_ne (tgt := 10) C dX12_against_5 (by decide) (fun c_1 => ?_) (fun c_1 => ?_)
  · have h := iq h c_1
    refine r_aload_n C dX12_against_10 rfl 0 rfl ?_
    obtain ⟨r_2, er_2, h⟩ := bdE h
    refine kX12_237 C (m_X12_setRules er_2) (by decide) (Nat.le_of_ble_eq_true rfl) dX12_against_11 ?_
    refine r_aload_n C dX12_against_14 rfl 0 rfl ?_
    refine r_iload_n C dX12_against_15 rfl 1 rfl ?_
    obtain ⟨r_3, er_3, h⟩ := bdE h
    refine kX12_240 C (m_X12_againstOf er_3) (by decide) (Nat.le_of_ble_eq_true rfl) dX12_against_16 ?_
    cases h
    exact r_iret C dX12_against_19
  · have h := ip h c_1
    refine r_iconst (v := (-1)) C dX12_against_8 (by decide) ?_
    cases h
    exact r_iret C dX12_against_9
def M_nobody_L16 (K65 : Int32 → Int32 → St → Option (Int32 × St))  : Nat → Int32 → Int32 → Int32 → St → Option (Int32 × St)
  | 0, _, _, _, _ => none
  | n + 1, v1_2, v2_3, v3_4, s_5 => if v3_4 < 0 then (K65 v1_2 v2_3 s_5) else (Option.bind (M_againstOf v3_4 s_5) (fun r_7 => (M_nobody_L16 K65 n) (v1_2 + (if (if r_7 = 0 then 1 else 0 : Int32) = 0 then 0 else 1 : Int32)) (if (if r_7 = 0 then 1 else 0 : Int32) = 0 then v2_3 else v3_4 : Int32) (v3_4 + (-1)) s_5))
def M_nobody  (s0 : St) : Option (Int32 × St) :=
  Option.bind (M_setRules s0) (fun r_1 => M_nobody_L16 (fun (v1_17 : Int32) (v2_18 : Int32) (s_19 : St) => Option.bind (M_ask v2_18 v1_17 s_19) (fun r_20 => some (r_20.1, r_20.2))) 1100 0 (-9) ((r_1.1 0 0 16) - 1) r_1)
set_option maxHeartbeats 4000000 in
set_option maxRecDepth 100000 in
theorem t_X12_nobody_L16 {x : Ctx} {w : Wp}  {z : Int32 × St}  {K65 : Int32 → Int32 → St → Option (Int32 × St)} (hK65 : ∀ (u1_14 : Int32) (u2_15 : Int32) (s_16 : St), K65 u1_14 u2_15 s_16 = some z → V x WM w 5 (QM x WM w (some (.int z.1)) z.2) s_16 65 [(0, .ref (wa w 0 0)), (1, .int u1_14), (2, .int u2_15)] []) (C : Cx x WM w cX12_nobody 5 RX12 8 (some .int)) : ∀ (n : Nat) (v1_2 : Int32) (v2_3 : Int32) (v3_4 : Int32) (s_5 : St), M_nobody_L16 K65 n v1_2 v2_3 v3_4 s_5 = some z → V x WM w 5 (QM x WM w (some (.int z.1)) z.2) s_5 16 [(0, .ref (wa w 0 0)), (1, .int v1_2), (2, .int v2_3), (3, .int v3_4)] [] := by
  intro n
  induction n with
  | zero => intro v1_2 v2_3 v3_4 s_5 h; cases h
  | succ n ih =>
    intro v1_2 v2_3 v3_4 s_5 h
    unfold M_nobody_L16 at h
    refine r_iload_n C dX12_nobody_16 rfl 3 rfl ?_
    refine r_if_lt (tgt := 65) C dX12_nobody_17 (by decide) (fun c_6 => ?_) (fun c_6 => ?_)
    · have h := ip h c_6
      refine r_sub [0, 1, 2] rfl ?_
      exact hK65 _ _ _ h
    · have h := iq h c_6
      refine r_aload_n C dX12_nobody_20 rfl 0 rfl ?_
      refine r_iload_n C dX12_nobody_21 rfl 3 rfl ?_
      obtain ⟨r_7, er_7, h⟩ := bdE h
      refine kX12_240 C (m_X12_againstOf er_7) (by decide) (Nat.le_of_ble_eq_true rfl) dX12_nobody_22 ?_
      refine r_em (st := []) 33 ((if r_7 = 0 then 1 else 0 : Int32)) (fun hM_9 => ?_) ?_
      · refine r_if_ne (tgt := 32) C dX12_nobody_25 (by decide) (fun c_8 => ?_) (fun c_8 => ?_)
        · refine r_iconst (v := 0) C dX12_nobody_32 (by decide) ?_
          exact (em_neg c_8 hM_9)
        · refine r_iconst (v := 1) C dX12_nobody_28 (by decide) ?_
          refine r_goto (tgt := 33) C dX12_nobody_29 (by decide) ?_
          exact (em_pos c_8 hM_9)
      refine r_istore C dX12_nobody_33 (Nat.le_of_ble_eq_true rfl) (L' := [(4, _), (0, _), (1, _), (2, _), (3, _)]) rfl ?_
      refine r_iload_n C dX12_nobody_35 rfl 2 rfl ?_
      refine r_iload C dX12_nobody_36 0 rfl ?_
      refine r_em (st := [.int v1_2]) 46 ((if (if r_7 = 0 then 1 else 0 : Int32) = 0 then 0 else 1 : Int32)) (fun hM_11 => ?_) ?_
      · refine r_if_eq (tgt := 45) C dX12_nobody_38 (by decide) (fun c_10 => ?_) (fun c_10 => ?_)
        · refine r_iconst (v := 0) C dX12_nobody_45 (by decide) ?_
          exact (em_pos c_10 hM_11)
        · refine r_iconst (v := 1) C dX12_nobody_41 (by decide) ?_
          refine r_goto (tgt := 46) C dX12_nobody_42 (by decide) ?_
          exact (em_neg c_10 hM_11)
      refine r_iadd C dX12_nobody_46 ?_
      refine r_istore_n C dX12_nobody_47 rfl (Nat.le_of_ble_eq_true rfl) (L' := [(1, _), (4, _), (0, _), (2, _), (3, _)]) rfl ?_
      refine r_iload C dX12_nobody_48 1 rfl ?_
      refine r_em (st := []) 58 ((if (if r_7 = 0 then 1 else 0 : Int32) = 0 then v2_3 else v3_4 : Int32)) (fun hM_13 => ?_) ?_
      · refine r_if_eq (tgt := 57) C dX12_nobody_50 (by decide) (fun c_12 => ?_) (fun c_12 => ?_)
        · refine r_iload_n C dX12_nobody_57 rfl 3 rfl ?_
          exact (em_pos c_12 hM_13)
        · refine r_iload_n C dX12_nobody_53 rfl 4 rfl ?_
          refine r_goto (tgt := 58) C dX12_nobody_54 (by decide) ?_
          exact (em_neg c_12 hM_13)
      refine r_istore_n C dX12_nobody_58 rfl (Nat.le_of_ble_eq_true rfl) (L' := [(2, _), (1, _), (4, _), (0, _), (3, _)]) rfl ?_
      refine r_iinc (v := v3_4 + (-1)) C dX12_nobody_59 (j := 4) rfl rfl (Nat.le_of_ble_eq_true rfl) (L' := [(3, _), (2, _), (1, _), (4, _), (0, _)]) rfl ?_
      refine r_goto (tgt := 16) C dX12_nobody_62 (by decide) ?_
      refine r_sub [4, 2, 1, 0] rfl ?_
      exact ih _ _ _ _ h
set_option maxHeartbeats 4000000 in
set_option maxRecDepth 100000 in
theorem m_X12_nobody {l : Launch} {w : Wp}   {s0 : St} {z : Int32 × St} (h : M_nobody s0 = some z) : Cm l yX12_nobody (.code yX12_nobody cX12_nobody 5 (some .int)) 8 WM w [.ref (wa w 0 0)] s0 (some (.int z.1)) z.2 := by
  refine Cm.of (own := RX12) (by decide +kernel) rfl (Nat.le_of_ble_eq_true rfl) (L := [(0, .ref (wa w 0 0))]) rfl KoM (fun x hl C => ?_)
  subst hl
  unfold M_nobody at h
  refine r_aload_n C dX12_nobody_0 rfl 0 rfl ?_
  obtain ⟨r_1, er_1, h⟩ := bdE h
  refine kX12_237 C (m_X12_setRules er_1) (by decide) (Nat.le_of_ble_eq_true rfl) dX12_nobody_1 ?_
  refine r_iconst (v := 0) C dX12_nobody_4 (by decide) ?_
  refine r_istore_n C dX12_nobody_5 rfl (Nat.le_of_ble_eq_true rfl) (L' := [(1, _), (0, _)]) rfl ?_
  refine r_bipush (v := (-9)) C dX12_nobody_6 (by decide) ?_
  refine r_istore_n C dX12_nobody_8 rfl (Nat.le_of_ble_eq_true rfl) (L' := [(2, _), (1, _), (0, _)]) rfl ?_
  refine r_aload_n C dX12_nobody_9 rfl 2 rfl ?_
  refine gfX12_131 C dX12_nobody_10 ?_
  refine r_iconst (v := 1) C dX12_nobody_13 (by decide) ?_
  refine r_isub C dX12_nobody_14 ?_
  refine r_istore_n C dX12_nobody_15 rfl (Nat.le_of_ble_eq_true rfl) (L' := [(3, _), (2, _), (1, _), (0, _)]) rfl ?_
  refine r_sub [3, 2, 1, 0] rfl ?_
  refine t_X12_nobody_L16 (fun v1_17 v2_18 s_19 h => ?_) C _ _ _ _ _ h
  refine r_aload_n C dX12_nobody_65 rfl 0 rfl ?_
  refine r_iload_n C dX12_nobody_66 rfl 2 rfl ?_
  refine r_iload_n C dX12_nobody_67 rfl 1 rfl ?_
  obtain ⟨r_20, er_20, h⟩ := bdE h
  refine kX12_119 C (m_X12_ask er_20) (by decide) (Nat.le_of_ble_eq_true rfl) dX12_nobody_68 ?_
  cases h
  exact r_iret C dX12_nobody_71
def M_freshNow_J54 (B7 : Int32 → Int32 → Int32 → Option (Int32)) (v1_11 : Int32) (v2_12 : Int32) (v4_13 : Int32) (t_14 : Int32) (t_15 : Int32) (s0 : St) : Option (Int32) :=
  B7 v2_12 (t_15 + t_14) (v4_13 + 1)
def M_freshNow_L7 (K62 : Int32 → Int32 → Option (Int32)) (v1_1 : Int32) (s0 : St) : Nat → Int32 → Int32 → Int32 → Option (Int32)
  | 0, _, _, _ => none
  | n + 1, v2_2, v3_3, v4_4 => if 244 ≤ v4_4 then (K62 v2_2 v3_3) else (if inb v4_4 244 = true then if inb v4_4 244 = true then if (s0.1 31 0 v4_4.toNatClampNeg) = 0 then (M_freshNow_J54 (M_freshNow_L7 K62 v1_1 s0 n) v1_1 (v2_2 + (if (s0.1 31 0 v4_4.toNatClampNeg) = 0 then 0 else 1 : Int32)) v4_4 0 v3_3 s0) else (Option.bind (M_answer v4_4 v1_1) (fun r_19 => M_freshNow_J54 (M_freshNow_L7 K62 v1_1 s0 n) v1_1 (v2_2 + (if (s0.1 31 0 v4_4.toNatClampNeg) = 0 then 0 else 1 : Int32)) v4_4 r_19 v3_3 s0)) else none else none)
def M_freshNow (v1 : Int32) (s0 : St) : Option (Int32) :=
  M_freshNow_L7 (fun (v2_22 : Int32) (v3_23 : Int32) => some (if v3_23 = 0 then 0 else (if v3_23 = v2_22 then 1 else 2) : Int32)) v1 s0 1100 0 0 0
set_option maxHeartbeats 4000000 in
set_option maxRecDepth 100000 in
theorem t_X12_freshNow_J54 {x : Ctx} {w : Wp} {v1_11 : Int32} {v2_12 : Int32} {v4_13 : Int32} {t_14 : Int32} {t_15 : Int32} {s0 : St} {z : Int32}  {B7 : Int32 → Int32 → Int32 → Option (Int32)} (hB7 : ∀ (u2_16 : Int32) (u3_17 : Int32) (u4_18 : Int32), B7 u2_16 u3_17 u4_18 = some z → V x WM w 5 (QM x WM w (some (.int z)) s0) s0 7 [(0, .ref (wa w 0 0)), (1, .int v1_11), (2, .int u2_16), (3, .int u3_17), (4, .int u4_18)] []) (C : Cx x WM w cX12_freshNow 5 RX12 3 (some .int)) (h : M_freshNow_J54 B7 v1_11 v2_12 v4_13 t_14 t_15 s0 = some z) : V x WM w 5 (QM x WM w (some (.int z)) s0) s0 54 [(0, .ref (wa w 0 0)), (1, .int v1_11), (2, .int v2_12), (4, .int v4_13)] [.int t_14, .int t_15] := by
  unfold M_freshNow_J54 at h
  refine r_iadd C dX12_freshNow_54 ?_
  refine r_istore_n C dX12_freshNow_55 rfl (Nat.le_of_ble_eq_true rfl) (L' := [(3, _), (0, _), (1, _), (2, _), (4, _)]) rfl ?_
  refine r_iinc (v := v4_13 + 1) C dX12_freshNow_56 (j := 4) rfl rfl (Nat.le_of_ble_eq_true rfl) (L' := [(4, _), (3, _), (0, _), (1, _), (2, _)]) rfl ?_
  refine r_goto (tgt := 7) C dX12_freshNow_59 (by decide) ?_
  refine r_sub [2, 3, 4, 1, 0] rfl ?_
  exact hB7 _ _ _ h
set_option maxHeartbeats 4000000 in
set_option maxRecDepth 100000 in
theorem t_X12_freshNow_L7 {x : Ctx} {w : Wp} {v1_1 : Int32} {s0 : St} {z : Int32}  {K62 : Int32 → Int32 → Option (Int32)} (hK62 : ∀ (u2_20 : Int32) (u3_21 : Int32), K62 u2_20 u3_21 = some z → V x WM w 5 (QM x WM w (some (.int z)) s0) s0 62 [(2, .int u2_20), (3, .int u3_21)] []) (C : Cx x WM w cX12_freshNow 5 RX12 3 (some .int)) : ∀ (n : Nat) (v2_2 : Int32) (v3_3 : Int32) (v4_4 : Int32), M_freshNow_L7 K62 v1_1 s0 n v2_2 v3_3 v4_4 = some z → V x WM w 5 (QM x WM w (some (.int z)) s0) s0 7 [(0, .ref (wa w 0 0)), (1, .int v1_1), (2, .int v2_2), (3, .int v3_3), (4, .int v4_4)] [] := by
  intro n
  induction n with
  | zero => intro v2_2 v3_3 v4_4 h; cases h
  | succ n ih =>
    intro v2_2 v3_3 v4_4 h
    unfold M_freshNow_L7 at h
    refine r_iload C dX12_freshNow_7 4 rfl ?_
    refine r_sipush (v := 244) C dX12_freshNow_9 (by decide) ?_
    refine r_icmp_ge (tgt := 62) C dX12_freshNow_12 (by decide) (fun c_5 => ?_) (fun c_5 => ?_)
    · have h := ip h c_5
      refine r_sub [2, 3] rfl ?_
      exact hK62 _ _ h
    · have h := iq h c_5
      refine r_iload_n C dX12_freshNow_15 rfl 2 rfl ?_
      refine r_aload_n C dX12_freshNow_16 rfl 0 rfl ?_
      refine gfX12_68 C dX12_freshNow_17 ?_
      refine r_iload C dX12_freshNow_20 4 rfl ?_
      obtain ⟨g_6, h⟩ := gdE h
      refine ldM_31 C g_6 dX12_freshNow_22 ?_
      refine r_em (st := [.int v2_2]) 31 ((if (s0.1 31 0 v4_4.toNatClampNeg) = 0 then 0 else 1 : Int32)) (fun hM_8 => ?_) ?_
      · refine r_if_eq (tgt := 30) C dX12_freshNow_23 (by decide) (fun c_7 => ?_) (fun c_7 => ?_)
        · refine r_iconst (v := 0) C dX12_freshNow_30 (by decide) ?_
          exact (em_pos c_7 hM_8)
        · refine r_iconst (v := 1) C dX12_freshNow_26 (by decide) ?_
          refine r_goto (tgt := 31) C dX12_freshNow_27 (by decide) ?_
          exact (em_neg c_7 hM_8)
      refine r_iadd C dX12_freshNow_31 ?_
      refine r_istore_n C dX12_freshNow_32 rfl (Nat.le_of_ble_eq_true rfl) (L' := [(2, _), (0, _), (1, _), (3, _), (4, _)]) rfl ?_
      refine r_iload_n C dX12_freshNow_33 rfl 3 rfl ?_
      refine r_aload_n C dX12_freshNow_34 rfl 1 rfl ?_
      refine gfX12_68 C dX12_freshNow_35 ?_
      refine r_iload C dX12_freshNow_38 4 rfl ?_
      obtain ⟨g_9, h⟩ := gdE h
      refine ldM_31 C g_9 dX12_freshNow_40 ?_
      refine r_if_eq (tgt := 53) C dX12_freshNow_41 (by decide) (fun c_10 => ?_) (fun c_10 => ?_)
      · have h := ip h c_10
        refine r_iconst (v := 0) C dX12_freshNow_53 (by decide) ?_
        refine r_sub [1, 2, 0, 4] rfl ?_
        exact t_X12_freshNow_J54 ih C h
      · have h := iq h c_10
        refine r_iload C dX12_freshNow_44 4 rfl ?_
        refine r_iload_n C dX12_freshNow_46 rfl 2 rfl ?_
        obtain ⟨r_19, er_19, h⟩ := bdE h
        refine kX12_193 C (m_X12_answer er_19) (by decide) (Nat.le_of_ble_eq_true rfl) dX12_freshNow_47 ?_
        refine r_goto (tgt := 54) C dX12_freshNow_50 (by decide) ?_
        refine r_sub [1, 2, 0, 4] rfl ?_
        exact t_X12_freshNow_J54 ih C h
set_option maxHeartbeats 4000000 in
set_option maxRecDepth 100000 in
theorem m_X12_freshNow {l : Launch} {w : Wp} {v1 : Int32}  {s0 : St} {z : Int32} (h : M_freshNow v1 s0 = some z) : Cm l yX12_freshNow (.code yX12_freshNow cX12_freshNow 5 (some .int)) 3 WM w [.ref (wa w 0 0), .int v1] s0 (some (.int z)) s0 := by
  refine Cm.of (own := RX12) (by decide +kernel) rfl (Nat.le_of_ble_eq_true rfl) (L := [(0, .ref (wa w 0 0)), (1, .int v1)]) rfl KoM (fun x hl C => ?_)
  subst hl
  unfold M_freshNow at h
  refine r_iconst (v := 0) C dX12_freshNow_0 (by decide) ?_
  refine r_istore_n C dX12_freshNow_1 rfl (Nat.le_of_ble_eq_true rfl) (L' := [(2, _), (0, _), (1, _)]) rfl ?_
  refine r_iconst (v := 0) C dX12_freshNow_2 (by decide) ?_
  refine r_istore_n C dX12_freshNow_3 rfl (Nat.le_of_ble_eq_true rfl) (L' := [(3, _), (2, _), (0, _), (1, _)]) rfl ?_
  refine r_iconst (v := 0) C dX12_freshNow_4 (by decide) ?_
  refine r_istore C dX12_freshNow_5 (Nat.le_of_ble_eq_true rfl) (L' := [(4, _), (3, _), (2, _), (0, _), (1, _)]) rfl ?_
  refine r_sub [3, 4, 2, 1, 0] rfl ?_
  refine t_X12_freshNow_L7 (fun v2_22 v3_23 h => ?_) C _ _ _ _ h
  refine r_iload_n C dX12_freshNow_62 rfl 1 rfl ?_
  refine r_em (st := []) 80 ((if v3_23 = 0 then 0 else (if v3_23 = v2_22 then 1 else 2) : Int32)) (fun hM_26 => ?_) ?_
  · refine r_if_ne (tgt := 70) C dX12_freshNow_63 (by decide) (fun c_25 => ?_) (fun c_25 => ?_)
    · refine r_iload_n C dX12_freshNow_70 rfl 1 rfl ?_
      refine r_iload_n C dX12_freshNow_71 rfl 0 rfl ?_
      refine r_icmp_ne (tgt := 79) C dX12_freshNow_72 (by decide) (fun c_24 => ?_) (fun c_24 => ?_)
      · refine r_iconst (v := 2) C dX12_freshNow_79 (by decide) ?_
        exact (em_neg c_24 (em_neg c_25 hM_26))
      · refine r_iconst (v := 1) C dX12_freshNow_75 (by decide) ?_
        refine r_goto (tgt := 80) C dX12_freshNow_76 (by decide) ?_
        exact (em_pos c_24 (em_neg c_25 hM_26))
    · refine r_iconst (v := 0) C dX12_freshNow_66 (by decide) ?_
      refine r_goto (tgt := 80) C dX12_freshNow_67 (by decide) ?_
      exact (em_pos c_25 hM_26)
  cases h
  exact r_iret C dX12_freshNow_80
def M_freshOf (v1 : Int32) (v2 : Int32) (s0 : St) : Option (Int32 × St) :=
  Option.bind (M_setCheap v1 s0) (fun r_1 => Option.bind (M_freshNow v2 r_1) (fun r_2 => some (r_2, r_1)))
set_option maxHeartbeats 4000000 in
set_option maxRecDepth 100000 in
theorem m_X12_freshOf {l : Launch} {w : Wp} {v1 : Int32} {v2 : Int32}  {s0 : St} {z : Int32 × St} (h : M_freshOf v1 v2 s0 = some z) : Cm l yX12_freshOf (.code yX12_freshOf cX12_freshOf 3 (some .int)) 7 WM w [.ref (wa w 0 0), .int v1, .int v2] s0 (some (.int z.1)) z.2 := by
  refine Cm.of (own := RX12) (by decide +kernel) rfl (Nat.le_of_ble_eq_true rfl) (L := [(0, .ref (wa w 0 0)), (1, .int v1), (2, .int v2)]) rfl KoM (fun x hl C => ?_)
  subst hl
  unfold M_freshOf at h
  refine r_aload_n C dX12_freshOf_0 rfl 0 rfl ?_
  refine r_iload_n C dX12_freshOf_1 rfl 1 rfl ?_
  obtain ⟨r_1, er_1, h⟩ := bdE h
  refine kX12_234 C (m_X12_setCheap er_1) (by decide) (Nat.le_of_ble_eq_true rfl) dX12_freshOf_2 ?_
  refine r_aload_n C dX12_freshOf_5 rfl 0 rfl ?_
  refine r_iload_n C dX12_freshOf_6 rfl 2 rfl ?_
  obtain ⟨r_2, er_2, h⟩ := bdE h
  refine kX12_243 C (m_X12_freshNow er_2) (by decide) (Nat.le_of_ble_eq_true rfl) dX12_freshOf_7 ?_
  cases h
  exact r_iret C dX12_freshOf_10
def M_plain_J53 (B14 : Int32 → Int32 → St → Option (Int32 × St)) (v1_9 : Int32) (v3_10 : Int32) (t_11 : Int32) (t_12 : Int32) (s_13 : St) : Option (Int32 × St) :=
  B14 (t_12 ||| t_11) (v3_10 + 1) s_13
def M_plain_L14 (K61 : Int32 → St → Option (Int32 × St)) (v1_2 : Int32) : Nat → Int32 → Int32 → St → Option (Int32 × St)
  | 0, _, _, _ => none
  | n + 1, v2_3, v3_4, s_5 => if (s_5.1 0 0 12) ≤ v3_4 then (K61 v2_3 s_5) else (Option.bind (M_sayingsOf v3_4 s_5) (fun r_7 => if r_7 ≤ 0 then (M_plain_J53 (M_plain_L14 K61 v1_2 n) v1_2 v3_4 0 v2_3 s_5) else (if inb v1_2 24 = true then if inb (s_5.1 18 0 v1_2.toNatClampNeg) 12 = true then Option.bind (M_freshOf v3_4 (s_5.1 11 0 ((s_5.1 18 0 v1_2.toNatClampNeg).toNatClampNeg)) s_5) (fun r_19 => M_plain_J53 (M_plain_L14 K61 v1_2 n) v1_2 v3_4 (1 <<< (r_19.1 &&& 31)) v2_3 r_19.2) else none else none)))
def M_plain (v1 : Int32) (s0 : St) : Option (Int32 × St) :=
  if (M_isSaying v1 s0) = 0 then (some ((-1), s0)) else (M_plain_L14 (fun (v2_22 : Int32) (s_23 : St) => some ((if v2_22 = 1 then 1 else (if v2_22 = 2 then 1 else 0) : Int32), s_23)) v1 1100 0 0 s0)
set_option maxHeartbeats 4000000 in
set_option maxRecDepth 100000 in
theorem t_X12_plain_J53 {x : Ctx} {w : Wp} {v1_9 : Int32} {v3_10 : Int32} {t_11 : Int32} {t_12 : Int32} {s_13 : St} {z : Int32 × St}  {B14 : Int32 → Int32 → St → Option (Int32 × St)} (hB14 : ∀ (u2_14 : Int32) (u3_15 : Int32) (s_16 : St), B14 u2_14 u3_15 s_16 = some z → V x WM w 4 (QM x WM w (some (.int z.1)) z.2) s_16 14 [(0, .ref (wa w 0 0)), (1, .int v1_9), (2, .int u2_14), (3, .int u3_15)] []) (C : Cx x WM w cX12_plain 4 RX12 8 (some .int)) (h : M_plain_J53 B14 v1_9 v3_10 t_11 t_12 s_13 = some z) : V x WM w 4 (QM x WM w (some (.int z.1)) z.2) s_13 53 [(0, .ref (wa w 0 0)), (1, .int v1_9), (3, .int v3_10)] [.int t_11, .int t_12] := by
  unfold M_plain_J53 at h
  refine r_ior C dX12_plain_53 ?_
  refine r_istore_n C dX12_plain_54 rfl (Nat.le_of_ble_eq_true rfl) (L' := [(2, _), (0, _), (1, _), (3, _)]) rfl ?_
  refine r_iinc (v := v3_10 + 1) C dX12_plain_55 (j := 3) rfl rfl (Nat.le_of_ble_eq_true rfl) (L' := [(3, _), (2, _), (0, _), (1, _)]) rfl ?_
  refine r_goto (tgt := 14) C dX12_plain_58 (by decide) ?_
  refine r_sub [2, 3, 1, 0] rfl ?_
  exact hB14 _ _ _ h
set_option maxHeartbeats 4000000 in
set_option maxRecDepth 100000 in
theorem t_X12_plain_L14 {x : Ctx} {w : Wp} {v1_2 : Int32} {z : Int32 × St}  {K61 : Int32 → St → Option (Int32 × St)} (hK61 : ∀ (u2_20 : Int32) (s_21 : St), K61 u2_20 s_21 = some z → V x WM w 4 (QM x WM w (some (.int z.1)) z.2) s_21 61 [(2, .int u2_20)] []) (C : Cx x WM w cX12_plain 4 RX12 8 (some .int)) : ∀ (n : Nat) (v2_3 : Int32) (v3_4 : Int32) (s_5 : St), M_plain_L14 K61 v1_2 n v2_3 v3_4 s_5 = some z → V x WM w 4 (QM x WM w (some (.int z.1)) z.2) s_5 14 [(0, .ref (wa w 0 0)), (1, .int v1_2), (2, .int v2_3), (3, .int v3_4)] [] := by
  intro n
  induction n with
  | zero => intro v2_3 v3_4 s_5 h; cases h
  | succ n ih =>
    intro v2_3 v3_4 s_5 h
    unfold M_plain_L14 at h
    refine r_iload_n C dX12_plain_14 rfl 3 rfl ?_
    refine r_aload_n C dX12_plain_15 rfl 0 rfl ?_
    refine gfX12_128 C dX12_plain_16 ?_
    refine r_icmp_ge (tgt := 61) C dX12_plain_19 (by decide) (fun c_6 => ?_) (fun c_6 => ?_)
    · have h := ip h c_6
      refine r_sub [2] rfl ?_
      exact hK61 _ _ h
    · have h := iq h c_6
      refine r_iload_n C dX12_plain_22 rfl 2 rfl ?_
      refine r_aload_n C dX12_plain_23 rfl 0 rfl ?_
      refine r_iload_n C dX12_plain_24 rfl 3 rfl ?_
      obtain ⟨r_7, er_7, h⟩ := bdE h
      refine kX12_150 C (m_X12_sayingsOf er_7) (by decide) (Nat.le_of_ble_eq_true rfl) dX12_plain_25 ?_
      refine r_if_le (tgt := 52) C dX12_plain_28 (by decide) (fun c_8 => ?_) (fun c_8 => ?_)
      · have h := ip h c_8
        refine r_iconst (v := 0) C dX12_plain_52 (by decide) ?_
        refine r_sub [0, 1, 3] rfl ?_
        exact t_X12_plain_J53 ih C h
      · have h := iq h c_8
        refine r_iconst (v := 1) C dX12_plain_31 (by decide) ?_
        refine r_aload_n C dX12_plain_32 rfl 0 rfl ?_
        refine r_iload_n C dX12_plain_33 rfl 3 rfl ?_
        refine r_aload_n C dX12_plain_34 rfl 0 rfl ?_
        refine gfX12_32 C dX12_plain_35 ?_
        refine r_aload_n C dX12_plain_38 rfl 0 rfl ?_
        refine gfX12_47 C dX12_plain_39 ?_
        refine r_iload_n C dX12_plain_42 rfl 1 rfl ?_
        obtain ⟨g_17, h⟩ := gdE h
        refine ldM_18 C g_17 dX12_plain_43 ?_
        obtain ⟨g_18, h⟩ := gdE h
        refine ldM_11 C g_18 dX12_plain_44 ?_
        obtain ⟨r_19, er_19, h⟩ := bdE h
        refine kX12_246 C (m_X12_freshOf er_19) (by decide) (Nat.le_of_ble_eq_true rfl) dX12_plain_45 ?_
        refine r_ishl C dX12_plain_48 ?_
        refine r_goto (tgt := 53) C dX12_plain_49 (by decide) ?_
        refine r_sub [0, 1, 3] rfl ?_
        exact t_X12_plain_J53 ih C h
set_option maxHeartbeats 4000000 in
set_option maxRecDepth 100000 in
theorem m_X12_plain {l : Launch} {w : Wp} {v1 : Int32}  {s0 : St} {z : Int32 × St} (h : M_plain v1 s0 = some z) : Cm l yX12_plain (.code yX12_plain cX12_plain 4 (some .int)) 8 WM w [.ref (wa w 0 0), .int v1] s0 (some (.int z.1)) z.2 := by
  refine Cm.of (own := RX12) (by decide +kernel) rfl (Nat.le_of_ble_eq_true rfl) (L := [(0, .ref (wa w 0 0)), (1, .int v1)]) rfl KoM (fun x hl C => ?_)
  subst hl
  unfold M_plain at h
  refine r_aload_n C dX12_plain_0 rfl 0 rfl ?_
  refine r_iload_n C dX12_plain_1 rfl 1 rfl ?_
  refine kX12_157 C (m_X12_isSaying rfl) (by decide) (Nat.le_of_ble_eq_true rfl) dX12_plain_2 ?_
  refine r_if_ne (tgt := 10) C dX12_plain_5 (by decide) (fun c_1 => ?_) (fun c_1 => ?_)
  · have h := iq h c_1
    refine r_iconst (v := 0) C dX12_plain_10 (by decide) ?_
    refine r_istore_n C dX12_plain_11 rfl (Nat.le_of_ble_eq_true rfl) (L' := [(2, _), (0, _), (1, _)]) rfl ?_
    refine r_iconst (v := 0) C dX12_plain_12 (by decide) ?_
    refine r_istore_n C dX12_plain_13 rfl (Nat.le_of_ble_eq_true rfl) (L' := [(3, _), (2, _), (0, _), (1, _)]) rfl ?_
    refine r_sub [2, 3, 1, 0] rfl ?_
    refine t_X12_plain_L14 (fun v2_22 s_23 h => ?_) C _ _ _ _ h
    refine r_iload_n C dX12_plain_61 rfl 0 rfl ?_
    refine r_iconst (v := 1) C dX12_plain_62 (by decide) ?_
    refine r_em (st := []) 76 ((if v2_22 = 1 then 1 else (if v2_22 = 2 then 1 else 0) : Int32)) (fun hM_26 => ?_) ?_
    · refine r_icmp_eq (tgt := 71) C dX12_plain_63 (by decide) (fun c_25 => ?_) (fun c_25 => ?_)
      · refine r_iconst (v := 1) C dX12_plain_71 (by decide) ?_
        refine r_goto (tgt := 76) C dX12_plain_72 (by decide) ?_
        exact (em_pos c_25 hM_26)
      · refine r_iload_n C dX12_plain_66 rfl 0 rfl ?_
        refine r_iconst (v := 2) C dX12_plain_67 (by decide) ?_
        refine r_icmp_ne (tgt := 75) C dX12_plain_68 (by decide) (fun c_24 => ?_) (fun c_24 => ?_)
        · refine r_iconst (v := 0) C dX12_plain_75 (by decide) ?_
          exact (em_neg c_24 (em_neg c_25 hM_26))
        · refine r_iconst (v := 1) C dX12_plain_71 (by decide) ?_
          refine r_goto (tgt := 76) C dX12_plain_72 (by decide) ?_
          exact (em_pos c_24 (em_neg c_25 hM_26))
    cases h
    exact r_iret C dX12_plain_76
  · have h := ip h c_1
    refine r_iconst (v := (-1)) C dX12_plain_8 (by decide) ?_
    cases h
    exact r_iret C dX12_plain_9
def M_leastIn_J85 (B24 : Int32 → Int32 → Int32 → Option (Int32)) (v1_18 : Int32) (v2_19 : Int32) (v3_20 : Int32) (v4_21 : Int32) (v5_22 : Int32) (v6_23 : Int32) (v7_24 : Int32) (v8_25 : Int32)  (s0 : St) : Option (Int32) :=
  B24 v6_23 v7_24 (v8_25 + 1)
def M_leastIn_J79 (B24 : Int32 → Int32 → Int32 → Option (Int32)) (v1_31 : Int32) (v2_32 : Int32) (v3_33 : Int32) (v4_34 : Int32) (v5_35 : Int32) (v7_36 : Int32) (v8_37 : Int32) (t_38 : Int32) (t_39 : Int32) (s0 : St) : Option (Int32) :=
  M_leastIn_J85 B24 v1_31 v2_32 v3_33 v4_34 v5_35 (t_39 + t_38) (v7_36 + 1) v8_37 s0
def M_leastIn_L24 (K91 : Int32 → Option (Int32)) (v1_7 : Int32) (v2_8 : Int32) (v3_9 : Int32) (v4_10 : Int32) (v5_11 : Int32) (s0 : St) : Nat → Int32 → Int32 → Int32 → Option (Int32)
  | 0, _, _, _ => none
  | n + 1, v6_12, v7_13, v8_14 => if (s0.1 0 0 16) ≤ v8_14 then (K91 v6_12) else (if inb v8_14 24 = true then if (s0.1 17 0 v8_14.toNatClampNeg) = v1_7 then (if inb v8_14 24 = true then if (M_in (s0.1 19 0 v8_14.toNatClampNeg) v2_8 v3_9) = 0 then (M_leastIn_J79 (M_leastIn_L24 K91 v1_7 v2_8 v3_9 v4_10 v5_11 s0 n) v1_7 v2_8 v3_9 v4_10 v5_11 v7_13 v8_14 0 v6_12 s0) else (if inb ((244 * v7_13) + v5_11) 2196 = true then M_leastIn_J79 (M_leastIn_L24 K91 v1_7 v2_8 v3_9 v4_10 v5_11 s0 n) v1_7 v2_8 v3_9 v4_10 v5_11 v7_13 v8_14 (s0.1 25 0 (((244 * v7_13) + v5_11).toNatClampNeg)) v6_12 s0 else none) else none) else (M_leastIn_J85 (M_leastIn_L24 K91 v1_7 v2_8 v3_9 v4_10 v5_11 s0 n) v1_7 v2_8 v3_9 v4_10 v5_11 v6_12 v7_13 v8_14 s0) else none)
def M_leastIn_L7  (v1_1 : Int32) (v2_2 : Int32) (v3_3 : Int32) (s0 : St) : Nat → Int32 → Int32 → Option (Int32)
  | 0, _, _ => none
  | n + 1, v4_4, v5_5 => if 244 ≤ v5_5 then (some v4_4) else (M_leastIn_L24 (fun (v6_45 : Int32) => (M_leastIn_L7 v1_1 v2_2 v3_3 s0 n) (if v4_4 ≤ v6_45 then v4_4 else v6_45 : Int32) (v5_5 + 1)) v1_1 v2_2 v3_3 v4_4 v5_5 s0 1100 0 0 0)
def M_leastIn (v1 : Int32) (v2 : Int32) (v3 : Int32) (s0 : St) : Option (Int32) :=
  M_leastIn_L7 v1 v2 v3 s0 1100 1000000 0
set_option maxHeartbeats 4000000 in
set_option maxRecDepth 100000 in
theorem t_X12_leastIn_J85 {x : Ctx} {w : Wp} {v1_18 : Int32} {v2_19 : Int32} {v3_20 : Int32} {v4_21 : Int32} {v5_22 : Int32} {v6_23 : Int32} {v7_24 : Int32} {v8_25 : Int32}  {s0 : St} {z : Int32}  {B24 : Int32 → Int32 → Int32 → Option (Int32)} (hB24 : ∀ (u6_26 : Int32) (u7_27 : Int32) (u8_28 : Int32), B24 u6_26 u7_27 u8_28 = some z → V x WM w 9 (QM x WM w (some (.int z)) s0) s0 24 [(0, .ref (wa w 0 0)), (1, .int v1_18), (2, .int v2_19), (3, .int v3_20), (4, .int v4_21), (5, .int v5_22), (6, .int u6_26), (7, .int u7_27), (8, .int u8_28)] []) (C : Cx x WM w cX12_leastIn 9 RX12 1 (some .int)) (h : M_leastIn_J85 B24 v1_18 v2_19 v3_20 v4_21 v5_22 v6_23 v7_24 v8_25 s0 = some z) : V x WM w 9 (QM x WM w (some (.int z)) s0) s0 85 [(0, .ref (wa w 0 0)), (1, .int v1_18), (2, .int v2_19), (3, .int v3_20), (4, .int v4_21), (5, .int v5_22), (6, .int v6_23), (7, .int v7_24), (8, .int v8_25)] [] := by
  unfold M_leastIn_J85 at h
  refine r_iinc (v := v8_25 + 1) C dX12_leastIn_85 (j := 8) rfl rfl (Nat.le_of_ble_eq_true rfl) (L' := [(8, _), (0, _), (1, _), (2, _), (3, _), (4, _), (5, _), (6, _), (7, _)]) rfl ?_
  refine r_goto (tgt := 24) C dX12_leastIn_88 (by decide) ?_
  refine r_sub [1, 2, 3, 4, 5, 6, 7, 8, 0] rfl ?_
  exact hB24 _ _ _ h
set_option maxHeartbeats 4000000 in
set_option maxRecDepth 100000 in
theorem t_X12_leastIn_J79 {x : Ctx} {w : Wp} {v1_31 : Int32} {v2_32 : Int32} {v3_33 : Int32} {v4_34 : Int32} {v5_35 : Int32} {v7_36 : Int32} {v8_37 : Int32} {t_38 : Int32} {t_39 : Int32} {s0 : St} {z : Int32}  {B24 : Int32 → Int32 → Int32 → Option (Int32)} (hB24 : ∀ (u6_40 : Int32) (u7_41 : Int32) (u8_42 : Int32), B24 u6_40 u7_41 u8_42 = some z → V x WM w 9 (QM x WM w (some (.int z)) s0) s0 24 [(0, .ref (wa w 0 0)), (1, .int v1_31), (2, .int v2_32), (3, .int v3_33), (4, .int v4_34), (5, .int v5_35), (6, .int u6_40), (7, .int u7_41), (8, .int u8_42)] []) (C : Cx x WM w cX12_leastIn 9 RX12 1 (some .int)) (h : M_leastIn_J79 B24 v1_31 v2_32 v3_33 v4_34 v5_35 v7_36 v8_37 t_38 t_39 s0 = some z) : V x WM w 9 (QM x WM w (some (.int z)) s0) s0 79 [(0, .ref (wa w 0 0)), (1, .int v1_31), (2, .int v2_32), (3, .int v3_33), (4, .int v4_34), (5, .int v5_35), (7, .int v7_36), (8, .int v8_37)] [.int t_38, .int t_39] := by
  unfold M_leastIn_J79 at h
  refine r_iadd C dX12_leastIn_79 ?_
  refine r_istore C dX12_leastIn_80 (Nat.le_of_ble_eq_true rfl) (L' := [(6, _), (0, _), (1, _), (2, _), (3, _), (4, _), (5, _), (7, _), (8, _)]) rfl ?_
  refine r_iinc (v := v7_36 + 1) C dX12_leastIn_82 (j := 7) rfl rfl (Nat.le_of_ble_eq_true rfl) (L' := [(7, _), (6, _), (0, _), (1, _), (2, _), (3, _), (4, _), (5, _), (8, _)]) rfl ?_
  refine r_sub [2, 3, 4, 5, 6, 7, 1, 0, 8] rfl ?_
  exact t_X12_leastIn_J85 hB24 C h
set_option maxHeartbeats 4000000 in
set_option maxRecDepth 100000 in
theorem t_X12_leastIn_L24 {x : Ctx} {w : Wp} {v1_7 : Int32} {v2_8 : Int32} {v3_9 : Int32} {v4_10 : Int32} {v5_11 : Int32} {s0 : St} {z : Int32}  {K91 : Int32 → Option (Int32)} (hK91 : ∀ (u6_44 : Int32), K91 u6_44 = some z → V x WM w 9 (QM x WM w (some (.int z)) s0) s0 91 [(0, .ref (wa w 0 0)), (1, .int v1_7), (2, .int v2_8), (3, .int v3_9), (4, .int v4_10), (5, .int v5_11), (6, .int u6_44)] []) (C : Cx x WM w cX12_leastIn 9 RX12 1 (some .int)) : ∀ (n : Nat) (v6_12 : Int32) (v7_13 : Int32) (v8_14 : Int32), M_leastIn_L24 K91 v1_7 v2_8 v3_9 v4_10 v5_11 s0 n v6_12 v7_13 v8_14 = some z → V x WM w 9 (QM x WM w (some (.int z)) s0) s0 24 [(0, .ref (wa w 0 0)), (1, .int v1_7), (2, .int v2_8), (3, .int v3_9), (4, .int v4_10), (5, .int v5_11), (6, .int v6_12), (7, .int v7_13), (8, .int v8_14)] [] := by
  intro n
  induction n with
  | zero => intro v6_12 v7_13 v8_14 h; cases h
  | succ n ih =>
    intro v6_12 v7_13 v8_14 h
    unfold M_leastIn_L24 at h
    refine r_iload C dX12_leastIn_24 8 rfl ?_
    refine r_aload_n C dX12_leastIn_26 rfl 0 rfl ?_
    refine gfX12_131 C dX12_leastIn_27 ?_
    refine r_icmp_ge (tgt := 91) C dX12_leastIn_30 (by decide) (fun c_15 => ?_) (fun c_15 => ?_)
    · have h := ip h c_15
      refine r_sub [0, 1, 2, 3, 4, 5, 6] rfl ?_
      exact hK91 _ h
    · have h := iq h c_15
      refine r_aload_n C dX12_leastIn_33 rfl 0 rfl ?_
      refine gfX12_44 C dX12_leastIn_34 ?_
      refine r_iload C dX12_leastIn_37 8 rfl ?_
      obtain ⟨g_16, h⟩ := gdE h
      refine ldM_17 C g_16 dX12_leastIn_39 ?_
      refine r_iload_n C dX12_leastIn_40 rfl 1 rfl ?_
      refine r_icmp_ne (tgt := 85) C dX12_leastIn_41 (by decide) (fun c_17 => ?_) (fun c_17 => ?_)
      · have h := iq h c_17
        refine r_sub [0, 1, 2, 3, 4, 5, 6, 7, 8] rfl ?_
        exact t_X12_leastIn_J85 ih C h
      · have h := ip h c_17
        refine r_iload C dX12_leastIn_44 6 rfl ?_
        refine r_aload_n C dX12_leastIn_46 rfl 0 rfl ?_
        refine gfX12_50 C dX12_leastIn_47 ?_
        refine r_iload C dX12_leastIn_50 8 rfl ?_
        obtain ⟨g_29, h⟩ := gdE h
        refine ldM_19 C g_29 dX12_leastIn_52 ?_
        refine r_iload_n C dX12_leastIn_53 rfl 2 rfl ?_
        refine r_iload_n C dX12_leastIn_54 rfl 3 rfl ?_
        refine kX12_97 C (m_X12_in rfl) (by decide) (Nat.le_of_ble_eq_true rfl) dX12_leastIn_55 ?_
        refine r_if_eq (tgt := 78) C dX12_leastIn_58 (by decide) (fun c_30 => ?_) (fun c_30 => ?_)
        · have h := ip h c_30
          refine r_iconst (v := 0) C dX12_leastIn_78 (by decide) ?_
          refine r_sub [0, 1, 2, 3, 4, 5, 7, 8] rfl ?_
          exact t_X12_leastIn_J79 ih C h
        · have h := iq h c_30
          refine r_aload_n C dX12_leastIn_61 rfl 0 rfl ?_
          refine gfX12_65 C dX12_leastIn_62 ?_
          refine r_sipush (v := 244) C dX12_leastIn_65 (by decide) ?_
          refine r_iload C dX12_leastIn_68 7 rfl ?_
          refine r_imul C dX12_leastIn_70 ?_
          refine r_iload C dX12_leastIn_71 5 rfl ?_
          refine r_iadd C dX12_leastIn_73 ?_
          obtain ⟨g_43, h⟩ := gdE h
          refine ldM_25 C g_43 dX12_leastIn_74 ?_
          refine r_goto (tgt := 79) C dX12_leastIn_75 (by decide) ?_
          refine r_sub [0, 1, 2, 3, 4, 5, 7, 8] rfl ?_
          exact t_X12_leastIn_J79 ih C h
set_option maxHeartbeats 4000000 in
set_option maxRecDepth 100000 in
theorem t_X12_leastIn_L7 {x : Ctx} {w : Wp} {v1_1 : Int32} {v2_2 : Int32} {v3_3 : Int32} {s0 : St} {z : Int32}    (C : Cx x WM w cX12_leastIn 9 RX12 1 (some .int)) : ∀ (n : Nat) (v4_4 : Int32) (v5_5 : Int32), M_leastIn_L7 v1_1 v2_2 v3_3 s0 n v4_4 v5_5 = some z → V x WM w 9 (QM x WM w (some (.int z)) s0) s0 7 [(0, .ref (wa w 0 0)), (1, .int v1_1), (2, .int v2_2), (3, .int v3_3), (4, .int v4_4), (5, .int v5_5)] [] := by
  intro n
  induction n with
  | zero => intro v4_4 v5_5 h; cases h
  | succ n ih =>
    intro v4_4 v5_5 h
    unfold M_leastIn_L7 at h
    refine r_iload C dX12_leastIn_7 5 rfl ?_
    refine r_sipush (v := 244) C dX12_leastIn_9 (by decide) ?_
    refine r_icmp_ge (tgt := 113) C dX12_leastIn_12 (by decide) (fun c_6 => ?_) (fun c_6 => ?_)
    · have h := ip h c_6
      refine r_iload C dX12_leastIn_113 4 rfl ?_
      cases h
      exact r_iret C dX12_leastIn_115
    · have h := iq h c_6
      refine r_iconst (v := 0) C dX12_leastIn_15 (by decide) ?_
      refine r_istore C dX12_leastIn_16 (Nat.le_of_ble_eq_true rfl) (L' := [(6, _), (0, _), (1, _), (2, _), (3, _), (4, _), (5, _)]) rfl ?_
      refine r_iconst (v := 0) C dX12_leastIn_18 (by decide) ?_
      refine r_istore C dX12_leastIn_19 (Nat.le_of_ble_eq_true rfl) (L' := [(7, _), (6, _), (0, _), (1, _), (2, _), (3, _), (4, _), (5, _)]) rfl ?_
      refine r_iconst (v := 0) C dX12_leastIn_21 (by decide) ?_
      refine r_istore C dX12_leastIn_22 (Nat.le_of_ble_eq_true rfl) (L' := [(8, _), (7, _), (6, _), (0, _), (1, _), (2, _), (3, _), (4, _), (5, _)]) rfl ?_
      refine r_sub [3, 4, 5, 6, 7, 8, 2, 1, 0] rfl ?_
      refine t_X12_leastIn_L24 (fun v6_45 h => ?_) C _ _ _ _ h
      refine r_iload C dX12_leastIn_91 6 rfl ?_
      refine r_iload C dX12_leastIn_93 4 rfl ?_
      refine r_em (st := []) 105 ((if v4_4 ≤ v6_45 then v4_4 else v6_45 : Int32)) (fun hM_47 => ?_) ?_
      · refine r_icmp_ge (tgt := 103) C dX12_leastIn_95 (by decide) (fun c_46 => ?_) (fun c_46 => ?_)
        · refine r_iload C dX12_leastIn_103 4 rfl ?_
          exact (em_pos c_46 hM_47)
        · refine r_iload C dX12_leastIn_98 6 rfl ?_
          refine r_goto (tgt := 105) C dX12_leastIn_100 (by decide) ?_
          exact (em_neg c_46 hM_47)
      refine r_istore C dX12_leastIn_105 (Nat.le_of_ble_eq_true rfl) (L' := [(4, _), (0, _), (1, _), (2, _), (3, _), (5, _), (6, _)]) rfl ?_
      refine r_iinc (v := v5_5 + 1) C dX12_leastIn_107 (j := 5) rfl rfl (Nat.le_of_ble_eq_true rfl) (L' := [(5, _), (4, _), (0, _), (1, _), (2, _), (3, _), (6, _)]) rfl ?_
      refine r_goto (tgt := 7) C dX12_leastIn_110 (by decide) ?_
      refine r_sub [2, 3, 4, 5, 1, 0] rfl ?_
      exact ih _ _ h
set_option maxHeartbeats 4000000 in
set_option maxRecDepth 100000 in
theorem m_X12_leastIn {l : Launch} {w : Wp} {v1 : Int32} {v2 : Int32} {v3 : Int32}  {s0 : St} {z : Int32} (h : M_leastIn v1 v2 v3 s0 = some z) : Cm l yX12_leastIn (.code yX12_leastIn cX12_leastIn 9 (some .int)) 1 WM w [.ref (wa w 0 0), .int v1, .int v2, .int v3] s0 (some (.int z)) s0 := by
  refine Cm.of (own := RX12) (by decide +kernel) rfl (Nat.le_of_ble_eq_true rfl) (L := [(0, .ref (wa w 0 0)), (1, .int v1), (2, .int v2), (3, .int v3)]) rfl KoM (fun x hl C => ?_)
  subst hl
  unfold M_leastIn at h
  refine r_ldc C dX12_leastIn_0 q_1293 ?_
  refine r_istore C dX12_leastIn_2 (Nat.le_of_ble_eq_true rfl) (L' := [(4, _), (0, _), (1, _), (2, _), (3, _)]) rfl ?_
  refine r_iconst (v := 0) C dX12_leastIn_4 (by decide) ?_
  refine r_istore C dX12_leastIn_5 (Nat.le_of_ble_eq_true rfl) (L' := [(5, _), (4, _), (0, _), (1, _), (2, _), (3, _)]) rfl ?_
  refine r_sub [2, 3, 4, 5, 1, 0] rfl ?_
  exact t_X12_leastIn_L7 C _ _ _ h
def M_isSaid_J45 (B5 : Int32 → Int32 → Option (Int32)) (v1_8 : Int32) (v2_9 : Int32) (v4_10 : Int32) (t_11 : Int32) (s0 : St) : Option (Int32) :=
  B5 t_11 (v4_10 + 1)
def M_isSaid_L5  (v1_1 : Int32) (v2_2 : Int32) (s0 : St) : Nat → Int32 → Int32 → Option (Int32)
  | 0, _, _ => none
  | n + 1, v3_3, v4_4 => if (s0.1 0 0 16) ≤ v4_4 then (if v3_3 = 0 ∨ v3_3 = 1 then some v3_3 else none) else (if v3_3 = 0 then (if inb v4_4 24 = true then if (s0.1 17 0 v4_4.toNatClampNeg) = v1_1 then (if inb v4_4 24 = true then (M_isSaid_L5 v1_1 v2_2 s0 n) (if (s0.1 19 0 v4_4.toNatClampNeg) = v2_2 then 1 else 0 : Int32) (v4_4 + 1) else none) else (M_isSaid_J45 (M_isSaid_L5 v1_1 v2_2 s0 n) v1_1 v2_2 v4_4 0 s0) else none) else (M_isSaid_J45 (M_isSaid_L5 v1_1 v2_2 s0 n) v1_1 v2_2 v4_4 1 s0))
def M_isSaid (v1 : Int32) (v2 : Int32) (s0 : St) : Option (Int32) :=
  M_isSaid_L5 v1 v2 s0 1100 0 0
set_option maxHeartbeats 4000000 in
set_option maxRecDepth 100000 in
theorem t_X12_isSaid_J45 {x : Ctx} {w : Wp} {v1_8 : Int32} {v2_9 : Int32} {v4_10 : Int32} {t_11 : Int32} {s0 : St} {z : Int32}  {B5 : Int32 → Int32 → Option (Int32)} (hB5 : ∀ (u3_12 : Int32) (u4_13 : Int32), B5 u3_12 u4_13 = some z → V x WM w 5 (QM x WM w (some (.int z)) s0) s0 5 [(0, .ref (wa w 0 0)), (1, .int v1_8), (2, .int v2_9), (3, .int u3_12), (4, .int u4_13)] []) (C : Cx x WM w cX12_isSaid 5 RX12 0 (some .boolean)) (h : M_isSaid_J45 B5 v1_8 v2_9 v4_10 t_11 s0 = some z) : V x WM w 5 (QM x WM w (some (.int z)) s0) s0 45 [(0, .ref (wa w 0 0)), (1, .int v1_8), (2, .int v2_9), (4, .int v4_10)] [.int t_11] := by
  unfold M_isSaid_J45 at h
  refine r_istore_n C dX12_isSaid_45 rfl (Nat.le_of_ble_eq_true rfl) (L' := [(3, _), (0, _), (1, _), (2, _), (4, _)]) rfl ?_
  refine r_iinc (v := v4_10 + 1) C dX12_isSaid_46 (j := 4) rfl rfl (Nat.le_of_ble_eq_true rfl) (L' := [(4, _), (3, _), (0, _), (1, _), (2, _)]) rfl ?_
  refine r_goto (tgt := 5) C dX12_isSaid_49 (by decide) ?_
  refine r_sub [2, 3, 4, 1, 0] rfl ?_
  exact hB5 _ _ h
set_option maxHeartbeats 4000000 in
set_option maxRecDepth 100000 in
theorem t_X12_isSaid_L5 {x : Ctx} {w : Wp} {v1_1 : Int32} {v2_2 : Int32} {s0 : St} {z : Int32}    (C : Cx x WM w cX12_isSaid 5 RX12 0 (some .boolean)) : ∀ (n : Nat) (v3_3 : Int32) (v4_4 : Int32), M_isSaid_L5 v1_1 v2_2 s0 n v3_3 v4_4 = some z → V x WM w 5 (QM x WM w (some (.int z)) s0) s0 5 [(0, .ref (wa w 0 0)), (1, .int v1_1), (2, .int v2_2), (3, .int v3_3), (4, .int v4_4)] [] := by
  intro n
  induction n with
  | zero => intro v3_3 v4_4 h; cases h
  | succ n ih =>
    intro v3_3 v4_4 h
    unfold M_isSaid_L5 at h
    refine r_iload C dX12_isSaid_5 4 rfl ?_
    refine r_aload_n C dX12_isSaid_7 rfl 0 rfl ?_
    refine gfX12_131 C dX12_isSaid_8 ?_
    refine r_icmp_ge (tgt := 52) C dX12_isSaid_11 (by decide) (fun c_5 => ?_) (fun c_5 => ?_)
    · have h := ip h c_5
      refine r_iload_n C dX12_isSaid_52 rfl 3 rfl ?_
      obtain ⟨g_6, h⟩ := gdE h
      cases h
      exact r_zret C (nb_01 g_6) dX12_isSaid_53
    · have h := iq h c_5
      refine r_iload_n C dX12_isSaid_14 rfl 3 rfl ?_
      refine r_if_ne (tgt := 40) C dX12_isSaid_15 (by decide) (fun c_7 => ?_) (fun c_7 => ?_)
      · have h := iq h c_7
        refine r_iconst (v := 1) C dX12_isSaid_40 (by decide) ?_
        refine r_goto (tgt := 45) C dX12_isSaid_41 (by decide) ?_
        refine r_sub [0, 1, 2, 4] rfl ?_
        exact t_X12_isSaid_J45 ih C h
      · have h := ip h c_7
        refine r_aload_n C dX12_isSaid_18 rfl 0 rfl ?_
        refine gfX12_44 C dX12_isSaid_19 ?_
        refine r_iload C dX12_isSaid_22 4 rfl ?_
        obtain ⟨g_14, h⟩ := gdE h
        refine ldM_17 C g_14 dX12_isSaid_24 ?_
        refine r_iload_n C dX12_isSaid_25 rfl 1 rfl ?_
        refine r_icmp_ne (tgt := 44) C dX12_isSaid_26 (by decide) (fun c_15 => ?_) (fun c_15 => ?_)
        · have h := iq h c_15
          refine r_iconst (v := 0) C dX12_isSaid_44 (by decide) ?_
          refine r_sub [0, 1, 2, 4] rfl ?_
          exact t_X12_isSaid_J45 ih C h
        · have h := ip h c_15
          refine r_aload_n C dX12_isSaid_29 rfl 0 rfl ?_
          refine gfX12_50 C dX12_isSaid_30 ?_
          refine r_iload C dX12_isSaid_33 4 rfl ?_
          obtain ⟨g_16, h⟩ := gdE h
          refine ldM_19 C g_16 dX12_isSaid_35 ?_
          refine r_iload_n C dX12_isSaid_36 rfl 2 rfl ?_
          refine r_em (st := []) 45 ((if (s0.1 19 0 v4_4.toNatClampNeg) = v2_2 then 1 else 0 : Int32)) (fun hM_18 => ?_) ?_
          · refine r_icmp_ne (tgt := 44) C dX12_isSaid_37 (by decide) (fun c_17 => ?_) (fun c_17 => ?_)
            · refine r_iconst (v := 0) C dX12_isSaid_44 (by decide) ?_
              exact (em_neg c_17 hM_18)
            · refine r_iconst (v := 1) C dX12_isSaid_40 (by decide) ?_
              refine r_goto (tgt := 45) C dX12_isSaid_41 (by decide) ?_
              exact (em_pos c_17 hM_18)
          refine r_istore_n C dX12_isSaid_45 rfl (Nat.le_of_ble_eq_true rfl) (L' := [(3, _), (0, _), (1, _), (2, _), (4, _)]) rfl ?_
          refine r_iinc (v := v4_4 + 1) C dX12_isSaid_46 (j := 4) rfl rfl (Nat.le_of_ble_eq_true rfl) (L' := [(4, _), (3, _), (0, _), (1, _), (2, _)]) rfl ?_
          refine r_goto (tgt := 5) C dX12_isSaid_49 (by decide) ?_
          refine r_sub [2, 3, 4, 1, 0] rfl ?_
          exact ih _ _ h
set_option maxHeartbeats 4000000 in
set_option maxRecDepth 100000 in
theorem m_X12_isSaid {l : Launch} {w : Wp} {v1 : Int32} {v2 : Int32}  {s0 : St} {z : Int32} (h : M_isSaid v1 v2 s0 = some z) : Cm l yX12_isSaid (.code yX12_isSaid cX12_isSaid 5 (some .boolean)) 0 WM w [.ref (wa w 0 0), .int v1, .int v2] s0 (some (.int z)) s0 := by
  refine Cm.of (own := RX12) (by decide +kernel) rfl (Nat.le_of_ble_eq_true rfl) (L := [(0, .ref (wa w 0 0)), (1, .int v1), (2, .int v2)]) rfl KoM (fun x hl C => ?_)
  subst hl
  unfold M_isSaid at h
  refine r_iconst (v := 0) C dX12_isSaid_0 (by decide) ?_
  refine r_istore_n C dX12_isSaid_1 rfl (Nat.le_of_ble_eq_true rfl) (L' := [(3, _), (0, _), (1, _), (2, _)]) rfl ?_
  refine r_iconst (v := 0) C dX12_isSaid_2 (by decide) ?_
  refine r_istore C dX12_isSaid_3 (Nat.le_of_ble_eq_true rfl) (L' := [(4, _), (3, _), (0, _), (1, _), (2, _)]) rfl ?_
  refine r_sub [2, 3, 4, 1, 0] rfl ?_
  exact t_X12_isSaid_L5 C _ _ _ h
def M_changed_J121 (B45 : Int32 → Int32 → Int32 → St → Option (Int32 × St)) (v1_16 : Int32) (v2_17 : Int32) (v3_18 : Int32) (v4_19 : Int32) (v5_20 : Int32)  (s_21 : St) : Option (Int32 × St) :=
  B45 v3_18 v4_19 (v5_20 + 1) s_21
def M_changed_L45 (K127 : Int32 → Int32 → St → Option (Int32 × St)) (v1_6 : Int32) (v2_7 : Int32) : Nat → Int32 → Int32 → Int32 → St → Option (Int32 × St)
  | 0, _, _, _, _ => none
  | n + 1, v3_8, v4_9, v5_10, s_11 => if inb v1_6 8 = true then if (s_11.1 14 0 v1_6.toNatClampNeg) < v5_10 then (K127 v3_8 v4_9 s_11) else (Option.bind (M_isSaid v1_6 (v5_10 - 1) s_11) (fun r_14 => if r_14 = 0 then (M_changed_J121 (M_changed_L45 K127 v1_6 v2_7 n) v1_6 v2_7 v3_8 v4_9 v5_10 s_11) else (Option.bind (M_leastIn v1_6 0 (v5_10 - 1) s_11) (fun r_26 => Option.bind (M_leastIn v1_6 v5_10 999 s_11) (fun r_27 => M_changed_J121 (M_changed_L45 K127 v1_6 v2_7 n) v1_6 v2_7 (if v4_9 ≤ (r_26 + r_27) then v3_8 else v5_10 : Int32) (if v4_9 ≤ (r_26 + r_27) then v4_9 else (r_26 + r_27) : Int32) v5_10 s_11))))) else none
def M_changed (v1 : Int32) (s0 : St) : Option (Int32 × St) :=
  if (M_isMaster v1 s0) = 0 then (some ((-1), s0)) else (Option.bind (M_setTable v1 s0) (fun r_2 => Option.bind (M_leastIn v1 0 999 r_2) (fun r_3 => if inb v1 8 = true then if inb v1 8 = true then M_changed_L45 (fun (v3_35 : Int32) (v4_36 : Int32) (s_37 : St) => Option.bind (M_ask (r_3 - v4_36) v3_35 s_37) (fun r_38 => some (r_38.1, r_38.2))) v1 r_3 1100 (r_2.1 13 0 v1.toNatClampNeg) r_3 ((r_2.1 13 0 v1.toNatClampNeg) + 1) r_2 else none else none)))
set_option maxHeartbeats 4000000 in
set_option maxRecDepth 100000 in
theorem t_X12_changed_J121 {x : Ctx} {w : Wp} {v1_16 : Int32} {v2_17 : Int32} {v3_18 : Int32} {v4_19 : Int32} {v5_20 : Int32}  {s_21 : St} {z : Int32 × St}  {B45 : Int32 → Int32 → Int32 → St → Option (Int32 × St)} (hB45 : ∀ (u3_22 : Int32) (u4_23 : Int32) (u5_24 : Int32) (s_25 : St), B45 u3_22 u4_23 u5_24 s_25 = some z → V x WM w 7 (QM x WM w (some (.int z.1)) z.2) s_25 45 [(0, .ref (wa w 0 0)), (1, .int v1_16), (2, .int v2_17), (3, .int u3_22), (4, .int u4_23), (5, .int u5_24)] []) (C : Cx x WM w cX12_changed 7 RX12 6 (some .int)) (h : M_changed_J121 B45 v1_16 v2_17 v3_18 v4_19 v5_20 s_21 = some z) : V x WM w 7 (QM x WM w (some (.int z.1)) z.2) s_21 121 [(0, .ref (wa w 0 0)), (1, .int v1_16), (2, .int v2_17), (3, .int v3_18), (4, .int v4_19), (5, .int v5_20)] [] := by
  unfold M_changed_J121 at h
  refine r_iinc (v := v5_20 + 1) C dX12_changed_121 (j := 5) rfl rfl (Nat.le_of_ble_eq_true rfl) (L' := [(5, _), (0, _), (1, _), (2, _), (3, _), (4, _)]) rfl ?_
  refine r_goto (tgt := 45) C dX12_changed_124 (by decide) ?_
  refine r_sub [1, 2, 3, 4, 5, 0] rfl ?_
  exact hB45 _ _ _ _ h
set_option maxHeartbeats 4000000 in
set_option maxRecDepth 100000 in
theorem t_X12_changed_L45 {x : Ctx} {w : Wp} {v1_6 : Int32} {v2_7 : Int32} {z : Int32 × St}  {K127 : Int32 → Int32 → St → Option (Int32 × St)} (hK127 : ∀ (u3_32 : Int32) (u4_33 : Int32) (s_34 : St), K127 u3_32 u4_33 s_34 = some z → V x WM w 7 (QM x WM w (some (.int z.1)) z.2) s_34 127 [(0, .ref (wa w 0 0)), (2, .int v2_7), (3, .int u3_32), (4, .int u4_33)] []) (C : Cx x WM w cX12_changed 7 RX12 6 (some .int)) : ∀ (n : Nat) (v3_8 : Int32) (v4_9 : Int32) (v5_10 : Int32) (s_11 : St), M_changed_L45 K127 v1_6 v2_7 n v3_8 v4_9 v5_10 s_11 = some z → V x WM w 7 (QM x WM w (some (.int z.1)) z.2) s_11 45 [(0, .ref (wa w 0 0)), (1, .int v1_6), (2, .int v2_7), (3, .int v3_8), (4, .int v4_9), (5, .int v5_10)] [] := by
  intro n
  induction n with
  | zero => intro v3_8 v4_9 v5_10 s_11 h; cases h
  | succ n ih =>
    intro v3_8 v4_9 v5_10 s_11 h
    unfold M_changed_L45 at h
    refine r_iload C dX12_changed_45 5 rfl ?_
    refine r_aload_n C dX12_changed_47 rfl 0 rfl ?_
    refine gfX12_38 C dX12_changed_48 ?_
    refine r_iload_n C dX12_changed_51 rfl 1 rfl ?_
    obtain ⟨g_12, h⟩ := gdE h
    refine ldM_14 C g_12 dX12_changed_52 ?_
    refine r_icmp_gt (tgt := 127) C dX12_changed_53 (by decide) (fun c_13 => ?_) (fun c_13 => ?_)
    · have h := ip h c_13
      refine r_sub [0, 2, 3, 4] rfl ?_
      exact hK127 _ _ _ h
    · have h := iq h c_13
      refine r_aload_n C dX12_changed_56 rfl 0 rfl ?_
      refine r_iload_n C dX12_changed_57 rfl 1 rfl ?_
      refine r_iload C dX12_changed_58 5 rfl ?_
      refine r_iconst (v := 1) C dX12_changed_60 (by decide) ?_
      refine r_isub C dX12_changed_61 ?_
      obtain ⟨r_14, er_14, h⟩ := bdE h
      refine kX12_253 C (m_X12_isSaid er_14) (by decide) (Nat.le_of_ble_eq_true rfl) dX12_changed_62 ?_
      refine r_if_eq (tgt := 121) C dX12_changed_65 (by decide) (fun c_15 => ?_) (fun c_15 => ?_)
      · have h := ip h c_15
        refine r_sub [0, 1, 2, 3, 4, 5] rfl ?_
        exact t_X12_changed_J121 ih C h
      · have h := iq h c_15
        refine r_aload_n C dX12_changed_68 rfl 0 rfl ?_
        refine r_iload_n C dX12_changed_69 rfl 1 rfl ?_
        refine r_iconst (v := 0) C dX12_changed_70 (by decide) ?_
        refine r_iload C dX12_changed_71 5 rfl ?_
        refine r_iconst (v := 1) C dX12_changed_73 (by decide) ?_
        refine r_isub C dX12_changed_74 ?_
        obtain ⟨r_26, er_26, h⟩ := bdE h
        refine kX12_249 C (m_X12_leastIn er_26) (by decide) (Nat.le_of_ble_eq_true rfl) dX12_changed_75 ?_
        refine r_aload_n C dX12_changed_78 rfl 0 rfl ?_
        refine r_iload_n C dX12_changed_79 rfl 1 rfl ?_
        refine r_iload C dX12_changed_80 5 rfl ?_
        refine r_sipush (v := 999) C dX12_changed_82 (by decide) ?_
        obtain ⟨r_27, er_27, h⟩ := bdE h
        refine kX12_249 C (m_X12_leastIn er_27) (by decide) (Nat.le_of_ble_eq_true rfl) dX12_changed_85 ?_
        refine r_iadd C dX12_changed_88 ?_
        refine r_istore C dX12_changed_89 (Nat.le_of_ble_eq_true rfl) (L' := [(6, _), (0, _), (1, _), (2, _), (3, _), (4, _), (5, _)]) rfl ?_
        refine r_iload C dX12_changed_91 0 rfl ?_
        refine r_iload C dX12_changed_93 5 rfl ?_
        refine r_em (st := []) 104 ((if v4_9 ≤ (r_26 + r_27) then v3_8 else v5_10 : Int32)) (fun hM_29 => ?_) ?_
        · refine r_icmp_ge (tgt := 103) C dX12_changed_95 (by decide) (fun c_28 => ?_) (fun c_28 => ?_)
          · refine r_iload_n C dX12_changed_103 rfl 4 rfl ?_
            exact (em_pos c_28 hM_29)
          · refine r_iload C dX12_changed_98 6 rfl ?_
            refine r_goto (tgt := 104) C dX12_changed_100 (by decide) ?_
            exact (em_neg c_28 hM_29)
        refine r_istore_n C dX12_changed_104 rfl (Nat.le_of_ble_eq_true rfl) (L' := [(3, _), (6, _), (0, _), (1, _), (2, _), (4, _), (5, _)]) rfl ?_
        refine r_iload C dX12_changed_105 1 rfl ?_
        refine r_iload C dX12_changed_107 5 rfl ?_
        refine r_em (st := []) 119 ((if v4_9 ≤ (r_26 + r_27) then v4_9 else (r_26 + r_27) : Int32)) (fun hM_31 => ?_) ?_
        · refine r_icmp_ge (tgt := 117) C dX12_changed_109 (by decide) (fun c_30 => ?_) (fun c_30 => ?_)
          · refine r_iload C dX12_changed_117 5 rfl ?_
            exact (em_pos c_30 hM_31)
          · refine r_iload C dX12_changed_112 1 rfl ?_
            refine r_goto (tgt := 119) C dX12_changed_114 (by decide) ?_
            exact (em_neg c_30 hM_31)
        refine r_istore C dX12_changed_119 (Nat.le_of_ble_eq_true rfl) (L' := [(4, _), (3, _), (6, _), (0, _), (1, _), (2, _), (5, _)]) rfl ?_
        refine r_sub [3, 4, 5, 1, 0, 6] rfl ?_
        exact t_X12_changed_J121 ih C h
set_option maxHeartbeats 4000000 in
set_option maxRecDepth 100000 in
theorem m_X12_changed {l : Launch} {w : Wp} {v1 : Int32}  {s0 : St} {z : Int32 × St} (h : M_changed v1 s0 = some z) : Cm l yX12_changed (.code yX12_changed cX12_changed 7 (some .int)) 6 WM w [.ref (wa w 0 0), .int v1] s0 (some (.int z.1)) z.2 := by
  refine Cm.of (own := RX12) (by decide +kernel) rfl (Nat.le_of_ble_eq_true rfl) (L := [(0, .ref (wa w 0 0)), (1, .int v1)]) rfl KoM (fun x hl C => ?_)
  subst hl
  unfold M_changed at h
  refine r_aload_n C dX12_changed_0 rfl 0 rfl ?_
  refine r_iload_n C dX12_changed_1 rfl 1 rfl ?_
  refine kX12_137 C (m_X12_isMaster rfl) (by decide) (Nat.le_of_ble_eq_true rfl) dX12_changed_2 ?_
  refine r_if_ne (tgt := 10) C dX12_changed_5 (by decide) (fun c_1 => ?_) (fun c_1 => ?_)
  · have h := iq h c_1
    refine r_aload_n C dX12_changed_10 rfl 0 rfl ?_
    refine r_iload_n C dX12_changed_11 rfl 1 rfl ?_
    obtain ⟨r_2, er_2, h⟩ := bdE h
    refine kX12_208 C (m_X12_setTable er_2) (by decide) (Nat.le_of_ble_eq_true rfl) dX12_changed_12 ?_
    refine r_aload_n C dX12_changed_15 rfl 0 rfl ?_
    refine r_iload_n C dX12_changed_16 rfl 1 rfl ?_
    refine r_iconst (v := 0) C dX12_changed_17 (by decide) ?_
    refine r_sipush (v := 999) C dX12_changed_18 (by decide) ?_
    obtain ⟨r_3, er_3, h⟩ := bdE h
    refine kX12_249 C (m_X12_leastIn er_3) (by decide) (Nat.le_of_ble_eq_true rfl) dX12_changed_21 ?_
    refine r_istore_n C dX12_changed_24 rfl (Nat.le_of_ble_eq_true rfl) (L' := [(2, _), (0, _), (1, _)]) rfl ?_
    refine r_aload_n C dX12_changed_25 rfl 1 rfl ?_
    refine gfX12_35 C dX12_changed_26 ?_
    refine r_iload_n C dX12_changed_29 rfl 2 rfl ?_
    obtain ⟨g_4, h⟩ := gdE h
    refine ldM_13 C g_4 dX12_changed_30 ?_
    refine r_istore_n C dX12_changed_31 rfl (Nat.le_of_ble_eq_true rfl) (L' := [(3, _), (2, _), (0, _), (1, _)]) rfl ?_
    refine r_iload_n C dX12_changed_32 rfl 1 rfl ?_
    refine r_istore C dX12_changed_33 (Nat.le_of_ble_eq_true rfl) (L' := [(4, _), (3, _), (2, _), (0, _), (1, _)]) rfl ?_
    refine r_aload_n C dX12_changed_35 rfl 3 rfl ?_
    refine gfX12_35 C dX12_changed_36 ?_
    refine r_iload_n C dX12_changed_39 rfl 4 rfl ?_
    obtain ⟨g_5, h⟩ := gdE h
    refine ldM_13 C g_5 dX12_changed_40 ?_
    refine r_iconst (v := 1) C dX12_changed_41 (by decide) ?_
    refine r_iadd C dX12_changed_42 ?_
    refine r_istore C dX12_changed_43 (Nat.le_of_ble_eq_true rfl) (L' := [(5, _), (4, _), (3, _), (2, _), (0, _), (1, _)]) rfl ?_
    refine r_sub [4, 5, 3, 2, 1, 0] rfl ?_
    refine t_X12_changed_L45 (fun v3_35 v4_36 s_37 h => ?_) C _ _ _ _ _ h
    refine r_aload_n C dX12_changed_127 rfl 0 rfl ?_
    refine r_iload_n C dX12_changed_128 rfl 1 rfl ?_
    refine r_iload C dX12_changed_129 3 rfl ?_
    refine r_isub C dX12_changed_131 ?_
    refine r_iload_n C dX12_changed_132 rfl 2 rfl ?_
    obtain ⟨r_38, er_38, h⟩ := bdE h
    refine kX12_119 C (m_X12_ask er_38) (by decide) (Nat.le_of_ble_eq_true rfl) dX12_changed_133 ?_
    cases h
    exact r_iret C dX12_changed_136
  · have h := ip h c_1
    refine r_iconst (v := (-1)) C dX12_changed_8 (by decide) ?_
    cases h
    exact r_iret C dX12_changed_9
