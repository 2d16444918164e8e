def M_costOf_J61 (B30 : Int32 → Int32 → Option (Int32)) (v1_12 : Int32) (v2_13 : Int32) (v3_14 : Int32) (v5_15 : Int32) (t_16 : Int32) (s0 : St) : Option (Int32) :=
  B30 t_16 (v5_15 + 1)
def M_costOf_L30 (K69 : Int32 → Option (Int32)) (v1_5 : Int32) (v2_6 : Int32) (v3_7 : Int32) (s0 : St) : Nat → Int32 → Int32 → Option (Int32)
  | 0, _, _ => none
  | n + 1, v4_8, v5_9 => if 5 ≤ v5_9 then (K69 v4_8) else (if v4_8 = 0 then (Option.bind (M_doesFit v1_5 (v3_7 ^^^ (1 <<< (v5_9 &&& 31))) v2_6 s0) (fun r_19 => (M_costOf_L30 K69 v1_5 v2_6 v3_7 s0 n) (if r_19 = 0 then 0 else 1 : Int32) (v5_9 + 1))) else (M_costOf_J61 (M_costOf_L30 K69 v1_5 v2_6 v3_7 s0 n) v1_5 v2_6 v3_7 v5_9 1 s0))
def M_costOf (v1 : Int32) (v2 : Int32) (s0 : St) : Option (Int32) :=
  if inb v1 24 = true then if inb (s0.1 18 0 v1.toNatClampNeg) 12 = true then Option.bind (M_doesFit v1 (s0.1 11 0 ((s0.1 18 0 v1.toNatClampNeg).toNatClampNeg)) v2 s0) (fun r_3 => if r_3 = 0 then (M_costOf_L30 (fun (v4_23 : Int32) => some (if v4_23 = 0 then (s0.1 24 0 1) else (if (s0.1 24 0 1) ≤ (s0.1 24 0 0) then (s0.1 24 0 1) else (s0.1 24 0 0)) : Int32)) v1 v2 (s0.1 11 0 ((s0.1 18 0 v1.toNatClampNeg).toNatClampNeg)) s0 1100 0 0) else (some 0)) else none else none
set_option maxHeartbeats 4000000 in
set_option maxRecDepth 100000 in
theorem t_X12_costOf_J61 {x : Ctx} {w : Wp} {v1_12 : Int32} {v2_13 : Int32} {v3_14 : Int32} {v5_15 : Int32} {t_16 : Int32} {s0 : St} {z : Int32}  {B30 : Int32 → Int32 → Option (Int32)} (hB30 : ∀ (u4_17 : Int32) (u5_18 : Int32), B30 u4_17 u5_18 = some z → V x WM w 6 (QM x WM w (some (.int z)) s0) s0 30 [(0, .ref (wa w 0 0)), (1, .int v1_12), (2, .int v2_13), (3, .int v3_14), (4, .int u4_17), (5, .int u5_18)] []) (C : Cx x WM w cX12_costOf 6 RX12 4 (some .int)) (h : M_costOf_J61 B30 v1_12 v2_13 v3_14 v5_15 t_16 s0 = some z) : V x WM w 6 (QM x WM w (some (.int z)) s0) s0 61 [(0, .ref (wa w 0 0)), (1, .int v1_12), (2, .int v2_13), (3, .int v3_14), (5, .int v5_15)] [.int t_16] := by
  unfold M_costOf_J61 at h
  refine r_istore C dX12_costOf_61 (Nat.le_of_ble_eq_true rfl) (L' := [(4, _), (0, _), (1, _), (2, _), (3, _), (5, _)]) rfl ?_
  refine r_iinc (v := v5_15 + 1) C dX12_costOf_63 (j := 5) rfl rfl (Nat.le_of_ble_eq_true rfl) (L' := [(5, _), (4, _), (0, _), (1, _), (2, _), (3, _)]) rfl ?_
  refine r_goto (tgt := 30) C dX12_costOf_66 (by decide) ?_
  refine r_sub [2, 3, 4, 5, 1, 0] rfl ?_
  exact hB30 _ _ h
set_option maxHeartbeats 4000000 in
set_option maxRecDepth 100000 in
theorem t_X12_costOf_L30 {x : Ctx} {w : Wp} {v1_5 : Int32} {v2_6 : Int32} {v3_7 : Int32} {s0 : St} {z : Int32}  {K69 : Int32 → Option (Int32)} (hK69 : ∀ (u4_22 : Int32), K69 u4_22 = some z → V x WM w 6 (QM x WM w (some (.int z)) s0) s0 69 [(0, .ref (wa w 0 0)), (4, .int u4_22)] []) (C : Cx x WM w cX12_costOf 6 RX12 4 (some .int)) : ∀ (n : Nat) (v4_8 : Int32) (v5_9 : Int32), M_costOf_L30 K69 v1_5 v2_6 v3_7 s0 n v4_8 v5_9 = some z → V x WM w 6 (QM x WM w (some (.int z)) s0) s0 30 [(0, .ref (wa w 0 0)), (1, .int v1_5), (2, .int v2_6), (3, .int v3_7), (4, .int v4_8), (5, .int v5_9)] [] := by
  intro n
  induction n with
  | zero => intro v4_8 v5_9 h; cases h
  | succ n ih =>
    intro v4_8 v5_9 h
    unfold M_costOf_L30 at h
    refine r_iload C dX12_costOf_30 5 rfl ?_
    refine r_iconst (v := 5) C dX12_costOf_32 (by decide) ?_
    refine r_icmp_ge (tgt := 69) C dX12_costOf_33 (by decide) (fun c_10 => ?_) (fun c_10 => ?_)
    · have h := ip h c_10
      refine r_sub [0, 4] rfl ?_
      exact hK69 _ h
    · have h := iq h c_10
      refine r_iload C dX12_costOf_36 4 rfl ?_
      refine r_if_ne (tgt := 56) C dX12_costOf_38 (by decide) (fun c_11 => ?_) (fun c_11 => ?_)
      · have h := iq h c_11
        refine r_iconst (v := 1) C dX12_costOf_56 (by decide) ?_
        refine r_goto (tgt := 61) C dX12_costOf_57 (by decide) ?_
        refine r_sub [0, 1, 2, 3, 5] rfl ?_
        exact t_X12_costOf_J61 ih C h
      · have h := ip h c_11
        refine r_aload_n C dX12_costOf_41 rfl 0 rfl ?_
        refine r_iload_n C dX12_costOf_42 rfl 1 rfl ?_
        refine r_iload_n C dX12_costOf_43 rfl 3 rfl ?_
        refine r_iconst (v := 1) C dX12_costOf_44 (by decide) ?_
        refine r_iload C dX12_costOf_45 5 rfl ?_
        refine r_ishl C dX12_costOf_47 ?_
        refine r_ixor C dX12_costOf_48 ?_
        refine r_iload_n C dX12_costOf_49 rfl 2 rfl ?_
        obtain ⟨r_19, er_19, h⟩ := bdE h
        refine kX12_196 C (m_X12_doesFit er_19) (by decide) (Nat.le_of_ble_eq_true rfl) dX12_costOf_50 ?_
        refine r_em (st := []) 61 ((if r_19 = 0 then 0 else 1 : Int32)) (fun hM_21 => ?_) ?_
        · refine r_if_eq (tgt := 60) C dX12_costOf_53 (by decide) (fun c_20 => ?_) (fun c_20 => ?_)
          · refine r_iconst (v := 0) C dX12_costOf_60 (by decide) ?_
            exact (em_pos c_20 hM_21)
          · refine r_iconst (v := 1) C dX12_costOf_56 (by decide) ?_
            refine r_goto (tgt := 61) C dX12_costOf_57 (by decide) ?_
            exact (em_neg c_20 hM_21)
        refine r_istore C dX12_costOf_61 (Nat.le_of_ble_eq_true rfl) (L' := [(4, _), (0, _), (1, _), (2, _), (3, _), (5, _)]) rfl ?_
        refine r_iinc (v := v5_9 + 1) C dX12_costOf_63 (j := 5) rfl rfl (Nat.le_of_ble_eq_true rfl) (L' := [(5, _), (4, _), (0, _), (1, _), (2, _), (3, _)]) rfl ?_
        refine r_goto (tgt := 30) C dX12_costOf_66 (by decide) ?_
        refine r_sub [2, 3, 4, 5, 1, 0] rfl ?_
        exact ih _ _ h
set_option maxHeartbeats 4000000 in
set_option maxRecDepth 100000 in
theorem m_X12_costOf {l : Launch} {w : Wp} {v1 : Int32} {v2 : Int32}  {s0 : St} {z : Int32} (h : M_costOf v1 v2 s0 = some z) : Cm l yX12_costOf (.code yX12_costOf cX12_costOf 6 (some .int)) 4 WM w [.ref (wa w 0 0), .int v1, .int v2] s0 (some (.int z)) s0 := by
  refine Cm.of (own := RX12) (by decide +kernel) rfl (Nat.le_of_ble_eq_true rfl) (L := [(0, .ref (wa w 0 0)), (1, .int v1), (2, .int v2)]) rfl KoM (fun x hl C => ?_)
  subst hl
  unfold M_costOf at h
  refine r_aload_n C dX12_costOf_0 rfl 0 rfl ?_
  refine gfX12_32 C dX12_costOf_1 ?_
  refine r_aload_n C dX12_costOf_4 rfl 0 rfl ?_
  refine gfX12_47 C dX12_costOf_5 ?_
  refine r_iload_n C dX12_costOf_8 rfl 1 rfl ?_
  obtain ⟨g_1, h⟩ := gdE h
  refine ldM_18 C g_1 dX12_costOf_9 ?_
  obtain ⟨g_2, h⟩ := gdE h
  refine ldM_11 C g_2 dX12_costOf_10 ?_
  refine r_istore_n C dX12_costOf_11 rfl (Nat.le_of_ble_eq_true rfl) (L' := [(3, _), (0, _), (1, _), (2, _)]) rfl ?_
  refine r_aload_n C dX12_costOf_12 rfl 1 rfl ?_
  refine r_iload_n C dX12_costOf_13 rfl 2 rfl ?_
  refine r_iload_n C dX12_costOf_14 rfl 0 rfl ?_
  refine r_iload_n C dX12_costOf_15 rfl 3 rfl ?_
  obtain ⟨r_3, er_3, h⟩ := bdE h
  refine kX12_196 C (m_X12_doesFit er_3) (by decide) (Nat.le_of_ble_eq_true rfl) dX12_costOf_16 ?_
  refine r_if_eq (tgt := 24) C dX12_costOf_19 (by decide) (fun c_4 => ?_) (fun c_4 => ?_)
  · have h := ip h c_4
    refine r_iconst (v := 0) C dX12_costOf_24 (by decide) ?_
    refine r_istore C dX12_costOf_25 (Nat.le_of_ble_eq_true rfl) (L' := [(4, _), (3, _), (0, _), (1, _), (2, _)]) rfl ?_
    refine r_iconst (v := 0) C dX12_costOf_27 (by decide) ?_
    refine r_istore C dX12_costOf_28 (Nat.le_of_ble_eq_true rfl) (L' := [(5, _), (4, _), (3, _), (0, _), (1, _), (2, _)]) rfl ?_
    refine r_sub [3, 4, 5, 2, 1, 0] rfl ?_
    refine t_X12_costOf_L30 (fun v4_23 h => ?_) C _ _ _ h
    refine r_iload C dX12_costOf_69 1 rfl ?_
    refine r_em (st := []) 104 ((if v4_23 = 0 then (s0.1 24 0 1) else (if (s0.1 24 0 1) ≤ (s0.1 24 0 0) then (s0.1 24 0 1) else (s0.1 24 0 0)) : Int32)) (fun hM_26 => ?_) ?_
    · refine r_if_eq (tgt := 98) C dX12_costOf_71 (by decide) (fun c_25 => ?_) (fun c_25 => ?_)
      · refine r_aload_n C dX12_costOf_98 rfl 0 rfl ?_
        refine gfX12_62 C dX12_costOf_99 ?_
        refine r_iconst (v := 1) C dX12_costOf_102 (by decide) ?_
        refine ldM_24 C (by decide) dX12_costOf_103 ?_
        exact (em_pos c_25 hM_26)
      · refine r_aload_n C dX12_costOf_74 rfl 0 rfl ?_
        refine gfX12_62 C dX12_costOf_75 ?_
        refine r_iconst (v := 0) C dX12_costOf_78 (by decide) ?_
        refine ldM_24 C (by decide) dX12_costOf_79 ?_
        refine r_aload_n C dX12_costOf_80 rfl 0 rfl ?_
        refine gfX12_62 C dX12_costOf_81 ?_
        refine r_iconst (v := 1) C dX12_costOf_84 (by decide) ?_
        refine ldM_24 C (by decide) dX12_costOf_85 ?_
        refine r_icmp_ge (tgt := 98) C dX12_costOf_86 (by decide) (fun c_24 => ?_) (fun c_24 => ?_)
        · refine r_aload_n C dX12_costOf_98 rfl 0 rfl ?_
          refine gfX12_62 C dX12_costOf_99 ?_
          refine r_iconst (v := 1) C dX12_costOf_102 (by decide) ?_
          refine ldM_24 C (by decide) dX12_costOf_103 ?_
          exact (em_pos c_24 (em_neg c_25 hM_26))
        · refine r_aload_n C dX12_costOf_89 rfl 0 rfl ?_
          refine gfX12_62 C dX12_costOf_90 ?_
          refine r_iconst (v := 0) C dX12_costOf_93 (by decide) ?_
          refine ldM_24 C (by decide) dX12_costOf_94 ?_
          refine r_goto (tgt := 104) C dX12_costOf_95 (by decide) ?_
          exact (em_neg c_24 (em_neg c_25 hM_26))
    cases h
    exact r_iret C dX12_costOf_104
  · have h := iq h c_4
    refine r_iconst (v := 0) C dX12_costOf_22 (by decide) ?_
    cases h
    exact r_iret C dX12_costOf_23
def M_costs (v1 : Int32) (v2 : Int32) (s0 : St) : Option (Int32) :=
  if (M_isSaying v1 s0) = 0 then (some (-1)) else (if (M_isRule v2) = 0 then (some (-1)) else (Option.bind (M_costOf v1 v2 s0) (fun r_3 => some r_3)))
set_option maxHeartbeats 4000000 in
set_option maxRecDepth 100000 in
theorem m_X12_costs {l : Launch} {w : Wp} {v1 : Int32} {v2 : Int32}  {s0 : St} {z : Int32} (h : M_costs v1 v2 s0 = some z) : Cm l yX12_costs (.code yX12_costs cX12_costs 3 (some .int)) 5 WM w [.ref (wa w 0 0), .int v1, .int v2] s0 (some (.int z)) s0 := by
  refine Cm.of (own := RX12) (by decide +kernel) rfl (Nat.le_of_ble_eq_true rfl) (L := [(0, .ref (wa w 0 0)), (1, .int v1), (2, .int v2)]) rfl KoM (fun x hl C => ?_)
  subst hl
  unfold M_costs at h
  refine r_aload_n C dX12_costs_0 rfl 0 rfl ?_
  refine r_iload_n C dX12_costs_1 rfl 1 rfl ?_
  refine kX12_157 C (m_X12_isSaying rfl) (by decide) (Nat.le_of_ble_eq_true rfl) dX12_costs_2 ?_
  refine r_if_eq (tgt := 24) C dX12_costs_5 (by decide) (fun c_1 => ?_) (fun c_1 => ?_)
  · have h := ip h c_1
    refine r_iconst (v := (-1)) C dX12_costs_24 (by decide) ?_
    cases h
    exact r_iret C dX12_costs_25
  · have h := iq h c_1
    refine r_iload_n C dX12_costs_8 rfl 2 rfl ?_
    refine kX12_190 C (m_X12_isRule rfl) (by decide) (Nat.le_of_ble_eq_true rfl) dX12_costs_9 ?_
    refine r_if_eq (tgt := 24) C dX12_costs_12 (by decide) (fun c_2 => ?_) (fun c_2 => ?_)
    · have h := ip h c_2
      refine r_iconst (v := (-1)) C dX12_costs_24 (by decide) ?_
      cases h
      exact r_iret C dX12_costs_25
    · have h := iq h c_2
      refine r_aload_n C dX12_costs_15 rfl 0 rfl ?_
      refine r_iload_n C dX12_costs_16 rfl 1 rfl ?_
      refine r_iload_n C dX12_costs_17 rfl 2 rfl ?_
      obtain ⟨r_3, er_3, h⟩ := bdE h
      refine kX12_202 C (m_X12_costOf er_3) (by decide) (Nat.le_of_ble_eq_true rfl) dX12_costs_18 ?_
      refine r_goto (tgt := 25) C dX12_costs_21 (by decide) ?_
      cases h
      exact r_iret C dX12_costs_25
def M_setTable_J71 (B7 : Int32 → St → Option (St)) (v1_7 : Int32) (v2_8 : Int32)  (s_9 : St) : Option (St) :=
  B7 (v2_8 + 1) s_9
def M_setTable_L27 (K61 : St → Option (St)) (v1_12 : Int32) (v2_13 : Int32) : Nat → Int32 → St → Option (St)
  | 0, _, _ => none
  | n + 1, v3_14, s_15 => if 244 ≤ v3_14 then (K61 s_15) else (Option.bind (M_costOf v2_13 v3_14 s_15) (fun r_17 => if inb ((244 * (s_15.1 0 0 26)) + v3_14) 2196 = true then (M_setTable_L27 K61 v1_12 v2_13 n) (v3_14 + 1) (sX s_15 25 0 (((244 * (s_15.1 0 0 26)) + v3_14).toNatClampNeg) r_17) else none))
def M_setTable_L7  (v1_1 : Int32) : Nat → Int32 → St → Option (St)
  | 0, _, _ => none
  | n + 1, v2_2, s_3 => if (s_3.1 0 0 16) ≤ v2_2 then (some s_3) else (if inb v2_2 24 = true then if (s_3.1 17 0 v2_2.toNatClampNeg) = v1_1 then (M_setTable_L27 (fun (s_20 : St) => M_setTable_J71 (M_setTable_L7 v1_1 n) v1_1 v2_2 (sX s_20 0 0 26 ((s_20.1 0 0 26) + 1))) v1_1 v2_2 1100 0 s_3) else (M_setTable_J71 (M_setTable_L7 v1_1 n) v1_1 v2_2 s_3) else none)
def M_setTable (v1 : Int32) (s0 : St) : Option (St) :=
  M_setTable_L7 v1 1100 0 (sX s0 0 0 26 0)
set_option maxHeartbeats 4000000 in
set_option maxRecDepth 100000 in
theorem t_X12_setTable_J71 {x : Ctx} {w : Wp} {v1_7 : Int32} {v2_8 : Int32}  {s_9 : St} {z : St}  {B7 : Int32 → St → Option (St)} (hB7 : ∀ (u2_10 : Int32) (s_11 : St), B7 u2_10 s_11 = some z → V x WM w 4 (QM x WM w none z) s_11 7 [(0, .ref (wa w 0 0)), (1, .int v1_7), (2, .int u2_10)] []) (C : Cx x WM w cX12_setTable 4 RX12 5 none) (h : M_setTable_J71 B7 v1_7 v2_8 s_9 = some z) : V x WM w 4 (QM x WM w none z) s_9 71 [(0, .ref (wa w 0 0)), (1, .int v1_7), (2, .int v2_8)] [] := by
  unfold M_setTable_J71 at h
  refine r_iinc (v := v2_8 + 1) C dX12_setTable_71 (j := 2) rfl rfl (Nat.le_of_ble_eq_true rfl) (L' := [(2, _), (0, _), (1, _)]) rfl ?_
  refine r_goto (tgt := 7) C dX12_setTable_74 (by decide) ?_
  refine r_sub [1, 2, 0] rfl ?_
  exact hB7 _ _ h
set_option maxHeartbeats 4000000 in
set_option maxRecDepth 100000 in
theorem t_X12_setTable_L27 {x : Ctx} {w : Wp} {v1_12 : Int32} {v2_13 : Int32} {z : St}  {K61 : St → Option (St)} (hK61 : ∀ (s_19 : St), K61 s_19 = some z → V x WM w 4 (QM x WM w none z) s_19 61 [(0, .ref (wa w 0 0)), (1, .int v1_12), (2, .int v2_13)] []) (C : Cx x WM w cX12_setTable 4 RX12 5 none) : ∀ (n : Nat) (v3_14 : Int32) (s_15 : St), M_setTable_L27 K61 v1_12 v2_13 n v3_14 s_15 = some z → V x WM w 4 (QM x WM w none z) s_15 27 [(0, .ref (wa w 0 0)), (1, .int v1_12), (2, .int v2_13), (3, .int v3_14)] [] := by
  intro n
  induction n with
  | zero => intro v3_14 s_15 h; cases h
  | succ n ih =>
    intro v3_14 s_15 h
    unfold M_setTable_L27 at h
    refine r_iload_n C dX12_setTable_27 rfl 3 rfl ?_
    refine r_sipush (v := 244) C dX12_setTable_28 (by decide) ?_
    refine r_icmp_ge (tgt := 61) C dX12_setTable_31 (by decide) (fun c_16 => ?_) (fun c_16 => ?_)
    · have h := ip h c_16
      refine r_sub [0, 1, 2] rfl ?_
      exact hK61 _ h
    · have h := iq h c_16
      refine r_aload_n C dX12_setTable_34 rfl 0 rfl ?_
      refine gfX12_65 C dX12_setTable_35 ?_
      refine r_sipush (v := 244) C dX12_setTable_38 (by decide) ?_
      refine r_aload_n C dX12_setTable_41 rfl 0 rfl ?_
      refine gfX12_205 C dX12_setTable_42 ?_
      refine r_imul C dX12_setTable_45 ?_
      refine r_iload_n C dX12_setTable_46 rfl 3 rfl ?_
      refine r_iadd C dX12_setTable_47 ?_
      refine r_aload_n C dX12_setTable_48 rfl 0 rfl ?_
      refine r_iload_n C dX12_setTable_49 rfl 2 rfl ?_
      refine r_iload_n C dX12_setTable_50 rfl 3 rfl ?_
      obtain ⟨r_17, er_17, h⟩ := bdE h
      refine kX12_202 C (m_X12_costOf er_17) (by decide) (Nat.le_of_ble_eq_true rfl) dX12_setTable_51 ?_
      obtain ⟨g_18, h⟩ := gdE h
      refine stM_25 C g_18 dX12_setTable_54 ?_
      refine r_iinc (v := v3_14 + 1) C dX12_setTable_55 (j := 3) rfl rfl (Nat.le_of_ble_eq_true rfl) (L' := [(3, _), (0, _), (1, _), (2, _)]) rfl ?_
      refine r_goto (tgt := 27) C dX12_setTable_58 (by decide) ?_
      refine r_sub [1, 2, 3, 0] rfl ?_
      exact ih _ _ h
set_option maxHeartbeats 4000000 in
set_option maxRecDepth 100000 in
theorem t_X12_setTable_L7 {x : Ctx} {w : Wp} {v1_1 : Int32} {z : St}    (C : Cx x WM w cX12_setTable 4 RX12 5 none) : ∀ (n : Nat) (v2_2 : Int32) (s_3 : St), M_setTable_L7 v1_1 n v2_2 s_3 = some z → V x WM w 4 (QM x WM w none z) s_3 7 [(0, .ref (wa w 0 0)), (1, .int v1_1), (2, .int v2_2)] [] := by
  intro n
  induction n with
  | zero => intro v2_2 s_3 h; cases h
  | succ n ih =>
    intro v2_2 s_3 h
    unfold M_setTable_L7 at h
    refine r_iload_n C dX12_setTable_7 rfl 2 rfl ?_
    refine r_aload_n C dX12_setTable_8 rfl 0 rfl ?_
    refine gfX12_131 C dX12_setTable_9 ?_
    refine r_icmp_ge (tgt := 77) C dX12_setTable_12 (by decide) (fun c_4 => ?_) (fun c_4 => ?_)
    · have h := ip h c_4
      cases h
      exact r_vret C dX12_setTable_77
    · have h := iq h c_4
      refine r_aload_n C dX12_setTable_15 rfl 0 rfl ?_
      refine gfX12_44 C dX12_setTable_16 ?_
      refine r_iload_n C dX12_setTable_19 rfl 2 rfl ?_
      obtain ⟨g_5, h⟩ := gdE h
      refine ldM_17 C g_5 dX12_setTable_20 ?_
      refine r_iload_n C dX12_setTable_21 rfl 1 rfl ?_
      refine r_icmp_ne (tgt := 71) C dX12_setTable_22 (by decide) (fun c_6 => ?_) (fun c_6 => ?_)
      · have h := iq h c_6
        refine r_sub [0, 1, 2] rfl ?_
        exact t_X12_setTable_J71 ih C h
      · have h := ip h c_6
        refine r_iconst (v := 0) C dX12_setTable_25 (by decide) ?_
        refine r_istore_n C dX12_setTable_26 rfl (Nat.le_of_ble_eq_true rfl) (L' := [(3, _), (0, _), (1, _), (2, _)]) rfl ?_
        refine r_sub [1, 2, 3, 0] rfl ?_
        refine t_X12_setTable_L27 (fun s_20 h => ?_) C _ _ _ h
        refine r_aload_n C dX12_setTable_61 rfl 0 rfl ?_
        refine r_dup C dX12_setTable_62 rfl ?_
        refine gfX12_205 C dX12_setTable_63 ?_
        refine r_iconst (v := 1) C dX12_setTable_66 (by decide) ?_
        refine r_iadd C dX12_setTable_67 ?_
        refine pfX12_205 C dX12_setTable_68 ?_
        refine r_sub [0, 1, 2] rfl ?_
        exact t_X12_setTable_J71 ih C h
set_option maxHeartbeats 4000000 in
set_option maxRecDepth 100000 in
theorem m_X12_setTable {l : Launch} {w : Wp} {v1 : Int32}  {s0 : St} {z : St} (h : M_setTable v1 s0 = some z) : Cm l yX12_setTable (.code yX12_setTable cX12_setTable 4 none) 5 WM w [.ref (wa w 0 0), .int v1] s0 none z := by
  refine Cm.of (own := RX12) (by decide +kernel) rfl (Nat.le_of_ble_eq_true rfl) (L := [(0, .ref (wa w 0 0)), (1, .int v1)]) rfl KoM (fun x hl C => ?_)
  subst hl
  unfold M_setTable at h
  refine r_aload_n C dX12_setTable_0 rfl 0 rfl ?_
  refine r_iconst (v := 0) C dX12_setTable_1 (by decide) ?_
  refine pfX12_205 C dX12_setTable_2 ?_
  refine r_iconst (v := 0) C dX12_setTable_5 (by decide) ?_
  refine r_istore_n C dX12_setTable_6 rfl (Nat.le_of_ble_eq_true rfl) (L' := [(2, _), (0, _), (1, _)]) rfl ?_
  refine r_sub [1, 2, 0] rfl ?_
  exact t_X12_setTable_L7 C _ _ _ h
def M_sumBy_L4  (v1_1 : Int32) (s0 : St) : Nat → Int32 → Int32 → Option (Int32)
  | 0, _, _ => none
  | n + 1, v2_2, v3_3 => if (s0.1 0 0 26) ≤ v3_3 then (some v2_2) else (if inb ((244 * v3_3) + v1_1) 2196 = true then (M_sumBy_L4 v1_1 s0 n) (v2_2 + (s0.1 25 0 (((244 * v3_3) + v1_1).toNatClampNeg))) (v3_3 + 1) else none)
def M_sumBy (v1 : Int32) (s0 : St) : Option (Int32) :=
  M_sumBy_L4 v1 s0 1100 0 0
set_option maxHeartbeats 4000000 in
set_option maxRecDepth 100000 in
theorem t_X12_sumBy_L4 {x : Ctx} {w : Wp} {v1_1 : Int32} {s0 : St} {z : Int32}    (C : Cx x WM w cX12_sumBy 4 RX12 0 (some .int)) : ∀ (n : Nat) (v2_2 : Int32) (v3_3 : Int32), M_sumBy_L4 v1_1 s0 n v2_2 v3_3 = some z → V x WM w 4 (QM x WM w (some (.int z)) s0) s0 4 [(0, .ref (wa w 0 0)), (1, .int v1_1), (2, .int v2_2), (3, .int v3_3)] [] := by
  intro n
  induction n with
  | zero => intro v2_2 v3_3 h; cases h
  | succ n ih =>
    intro v2_2 v3_3 h
    unfold M_sumBy_L4 at h
    refine r_iload_n C dX12_sumBy_4 rfl 3 rfl ?_
    refine r_aload_n C dX12_sumBy_5 rfl 0 rfl ?_
    refine gfX12_205 C dX12_sumBy_6 ?_
    refine r_icmp_ge (tgt := 33) C dX12_sumBy_9 (by decide) (fun c_4 => ?_) (fun c_4 => ?_)
    · have h := ip h c_4
      refine r_iload_n C dX12_sumBy_33 rfl 2 rfl ?_
      cases h
      exact r_iret C dX12_sumBy_34
    · have h := iq h c_4
      refine r_iload_n C dX12_sumBy_12 rfl 2 rfl ?_
      refine r_aload_n C dX12_sumBy_13 rfl 0 rfl ?_
      refine gfX12_65 C dX12_sumBy_14 ?_
      refine r_sipush (v := 244) C dX12_sumBy_17 (by decide) ?_
      refine r_iload_n C dX12_sumBy_20 rfl 3 rfl ?_
      refine r_imul C dX12_sumBy_21 ?_
      refine r_iload_n C dX12_sumBy_22 rfl 1 rfl ?_
      refine r_iadd C dX12_sumBy_23 ?_
      obtain ⟨g_5, h⟩ := gdE h
      refine ldM_25 C g_5 dX12_sumBy_24 ?_
      refine r_iadd C dX12_sumBy_25 ?_
      refine r_istore_n C dX12_sumBy_26 rfl (Nat.le_of_ble_eq_true rfl) (L' := [(2, _), (0, _), (1, _), (3, _)]) rfl ?_
      refine r_iinc (v := v3_3 + 1) C dX12_sumBy_27 (j := 3) rfl rfl (Nat.le_of_ble_eq_true rfl) (L' := [(3, _), (2, _), (0, _), (1, _)]) rfl ?_
      refine r_goto (tgt := 4) C dX12_sumBy_30 (by decide) ?_
      refine r_sub [2, 3, 1, 0] rfl ?_
      exact ih _ _ h
set_option maxHeartbeats 4000000 in
set_option maxRecDepth 100000 in
theorem m_X12_sumBy {l : Launch} {w : Wp} {v1 : Int32}  {s0 : St} {z : Int32} (h : M_sumBy v1 s0 = some z) : Cm l yX12_sumBy (.code yX12_sumBy cX12_sumBy 4 (some .int)) 0 WM w [.ref (wa w 0 0), .int v1] s0 (some (.int z)) s0 := by
  refine Cm.of (own := RX12) (by decide +kernel) rfl (Nat.le_of_ble_eq_true rfl) (L := [(0, .ref (wa w 0 0)), (1, .int v1)]) rfl KoM (fun x hl C => ?_)
  subst hl
  unfold M_sumBy at h
  refine r_iconst (v := 0) C dX12_sumBy_0 (by decide) ?_
  refine r_istore_n C dX12_sumBy_1 rfl (Nat.le_of_ble_eq_true rfl) (L' := [(2, _), (0, _), (1, _)]) rfl ?_
  refine r_iconst (v := 0) C dX12_sumBy_2 (by decide) ?_
  refine r_istore_n C dX12_sumBy_3 rfl (Nat.le_of_ble_eq_true rfl) (L' := [(3, _), (2, _), (0, _), (1, _)]) rfl ?_
  refine r_sub [2, 3, 1, 0] rfl ?_
  exact t_X12_sumBy_L4 C _ _ _ h
def M_sumByTwo_L10  (v1_1 : Int32) (v2_2 : Int32) (s0 : St) : Nat → Int32 → Int32 → Option (Int32)
  | 0, _, _ => none
  | n + 1, v3_3, v4_4 => if (s0.1 0 0 26) ≤ v4_4 then (some v3_3) else (if inb ((244 * v4_4) + v1_1) 2196 = true then if inb ((244 * v4_4) + v2_2) 2196 = true then (M_sumByTwo_L10 v1_1 v2_2 s0 n) (v3_3 + (if (s0.1 25 0 (((244 * v4_4) + v2_2).toNatClampNeg)) ≤ (s0.1 25 0 (((244 * v4_4) + v1_1).toNatClampNeg)) then (s0.1 25 0 (((244 * v4_4) + v2_2).toNatClampNeg)) else (s0.1 25 0 (((244 * v4_4) + v1_1).toNatClampNeg)) : Int32)) (v4_4 + 1) else none else none)
def M_sumByTwo (v1 : Int32) (v2 : Int32) (s0 : St) : Option (Int32) :=
  M_sumByTwo_L10 v1 v2 s0 1100 (s0.1 24 0 2) 0
set_option maxHeartbeats 4000000 in
set_option maxRecDepth 100000 in
theorem t_X12_sumByTwo_L10 {x : Ctx} {w : Wp} {v1_1 : Int32} {v2_2 : Int32} {s0 : St} {z : Int32}    (C : Cx x WM w cX12_sumByTwo 7 RX12 0 (some .int)) : ∀ (n : Nat) (v3_3 : Int32) (v4_4 : Int32), M_sumByTwo_L10 v1_1 v2_2 s0 n v3_3 v4_4 = some z → V x WM w 7 (QM x WM w (some (.int z)) s0) s0 10 [(0, .ref (wa w 0 0)), (1, .int v1_1), (2, .int v2_2), (3, .int v3_3), (4, .int v4_4)] [] := by
  intro n
  induction n with
  | zero => intro v3_3 v4_4 h; cases h
  | succ n ih =>
    intro v3_3 v4_4 h
    unfold M_sumByTwo_L10 at h
    refine r_iload C dX12_sumByTwo_10 4 rfl ?_
    refine r_aload_n C dX12_sumByTwo_12 rfl 0 rfl ?_
    refine gfX12_205 C dX12_sumByTwo_13 ?_
    refine r_icmp_ge (tgt := 72) C dX12_sumByTwo_16 (by decide) (fun c_5 => ?_) (fun c_5 => ?_)
    · have h := ip h c_5
      refine r_iload_n C dX12_sumByTwo_72 rfl 3 rfl ?_
      cases h
      exact r_iret C dX12_sumByTwo_73
    · have h := iq h c_5
      refine r_aload_n C dX12_sumByTwo_19 rfl 0 rfl ?_
      refine gfX12_65 C dX12_sumByTwo_20 ?_
      refine r_sipush (v := 244) C dX12_sumByTwo_23 (by decide) ?_
      refine r_iload C dX12_sumByTwo_26 4 rfl ?_
      refine r_imul C dX12_sumByTwo_28 ?_
      refine r_iload_n C dX12_sumByTwo_29 rfl 1 rfl ?_
      refine r_iadd C dX12_sumByTwo_30 ?_
      obtain ⟨g_6, h⟩ := gdE h
      refine ldM_25 C g_6 dX12_sumByTwo_31 ?_
      refine r_istore C dX12_sumByTwo_32 (Nat.le_of_ble_eq_true rfl) (L' := [(5, _), (0, _), (1, _), (2, _), (3, _), (4, _)]) rfl ?_
      refine r_aload_n C dX12_sumByTwo_34 rfl 1 rfl ?_
      refine gfX12_65 C dX12_sumByTwo_35 ?_
      refine r_sipush (v := 244) C dX12_sumByTwo_38 (by decide) ?_
      refine r_iload C dX12_sumByTwo_41 5 rfl ?_
      refine r_imul C dX12_sumByTwo_43 ?_
      refine r_iload_n C dX12_sumByTwo_44 rfl 3 rfl ?_
      refine r_iadd C dX12_sumByTwo_45 ?_
      obtain ⟨g_7, h⟩ := gdE h
      refine ldM_25 C g_7 dX12_sumByTwo_46 ?_
      refine r_istore C dX12_sumByTwo_47 (Nat.le_of_ble_eq_true rfl) (L' := [(6, _), (5, _), (0, _), (1, _), (2, _), (3, _), (4, _)]) rfl ?_
      refine r_iload_n C dX12_sumByTwo_49 rfl 5 rfl ?_
      refine r_iload C dX12_sumByTwo_50 1 rfl ?_
      refine r_iload C dX12_sumByTwo_52 0 rfl ?_
      refine r_em (st := [.int v3_3]) 64 ((if (s0.1 25 0 (((244 * v4_4) + v2_2).toNatClampNeg)) ≤ (s0.1 25 0 (((244 * v4_4) + v1_1).toNatClampNeg)) then (s0.1 25 0 (((244 * v4_4) + v2_2).toNatClampNeg)) else (s0.1 25 0 (((244 * v4_4) + v1_1).toNatClampNeg)) : Int32)) (fun hM_9 => ?_) ?_
      · refine r_icmp_ge (tgt := 62) C dX12_sumByTwo_54 (by decide) (fun c_8 => ?_) (fun c_8 => ?_)
        · refine r_iload C dX12_sumByTwo_62 0 rfl ?_
          exact (em_pos c_8 hM_9)
        · refine r_iload C dX12_sumByTwo_57 1 rfl ?_
          refine r_goto (tgt := 64) C dX12_sumByTwo_59 (by decide) ?_
          exact (em_neg c_8 hM_9)
      refine r_iadd C dX12_sumByTwo_64 ?_
      refine r_istore_n C dX12_sumByTwo_65 rfl (Nat.le_of_ble_eq_true rfl) (L' := [(3, _), (6, _), (5, _), (0, _), (1, _), (2, _), (4, _)]) rfl ?_
      refine r_iinc (v := v4_4 + 1) C dX12_sumByTwo_66 (j := 6) rfl rfl (Nat.le_of_ble_eq_true rfl) (L' := [(4, _), (3, _), (6, _), (5, _), (0, _), (1, _), (2, _)]) rfl ?_
      refine r_goto (tgt := 10) C dX12_sumByTwo_69 (by decide) ?_
      refine r_sub [4, 5, 6, 1, 0] rfl ?_
      exact ih _ _ h
set_option maxHeartbeats 4000000 in
set_option maxRecDepth 100000 in
theorem m_X12_sumByTwo {l : Launch} {w : Wp} {v1 : Int32} {v2 : Int32}  {s0 : St} {z : Int32} (h : M_sumByTwo v1 v2 s0 = some z) : Cm l yX12_sumByTwo (.code yX12_sumByTwo cX12_sumByTwo 7 (some .int)) 0 WM w [.ref (wa w 0 0), .int v1, .int v2] s0 (some (.int z)) s0 := by
  refine Cm.of (own := RX12) (by decide +kernel) rfl (Nat.le_of_ble_eq_true rfl) (L := [(0, .ref (wa w 0 0)), (1, .int v1), (2, .int v2)]) rfl KoM (fun x hl C => ?_)
  subst hl
  unfold M_sumByTwo at h
  refine r_aload_n C dX12_sumByTwo_0 rfl 0 rfl ?_
  refine gfX12_62 C dX12_sumByTwo_1 ?_
  refine r_iconst (v := 2) C dX12_sumByTwo_4 (by decide) ?_
  refine ldM_24 C (by decide) dX12_sumByTwo_5 ?_
  refine r_istore_n C dX12_sumByTwo_6 rfl (Nat.le_of_ble_eq_true rfl) (L' := [(3, _), (0, _), (1, _), (2, _)]) rfl ?_
  refine r_iconst (v := 0) C dX12_sumByTwo_7 (by decide) ?_
  refine r_istore C dX12_sumByTwo_8 (Nat.le_of_ble_eq_true rfl) (L' := [(4, _), (3, _), (0, _), (1, _), (2, _)]) rfl ?_
  refine r_sub [2, 3, 4, 1, 0] rfl ?_
  exact t_X12_sumByTwo_L10 C _ _ _ h
def M_settles_L24 (K83 : St → Option (St))  : Nat → Int32 → St → Option (St)
  | 0, _, _ => none
  | n + 1, v2_2, s_3 => if 244 ≤ v2_2 then (K83 s_3) else (Option.bind (M_sumBy v2_2 s_3) (fun r_5 => (M_settles_L24 K83 n) (v2_2 + 1) (sX (sX s_3 0 0 28 (if (s_3.1 0 0 30) ≤ r_5 then (s_3.1 0 0 28) else v2_2 : Int32)) 0 0 30 (if ((sX s_3 0 0 28 (if (s_3.1 0 0 30) ≤ r_5 then (s_3.1 0 0 28) else v2_2 : Int32)).1 0 0 30) ≤ r_5 then ((sX s_3 0 0 28 (if (s_3.1 0 0 30) ≤ r_5 then (s_3.1 0 0 28) else v2_2 : Int32)).1 0 0 30) else r_5 : Int32))))
def M_settles_J157 (B117 : Int32 → St → Option (St)) (v2_22 : Int32) (v3_23 : Int32)  (s_24 : St) : Option (St) :=
  B117 (v3_23 + 1) s_24
def M_settles_L117 (K163 : St → Option (St)) (v2_16 : Int32) : Nat → Int32 → St → Option (St)
  | 0, _, _ => none
  | n + 1, v3_17, s_18 => if 244 ≤ v3_17 then (K163 s_18) else (Option.bind (M_sumByTwo v2_16 v3_17 s_18) (fun r_20 => if (s_18.1 0 0 27) ≤ r_20 then (M_settles_J157 (M_settles_L117 K163 v2_16 n) v2_16 v3_17 s_18) else (M_settles_J157 (M_settles_L117 K163 v2_16 n) v2_16 v3_17 (sX (sX (sX s_18 0 0 27 r_20) 0 0 28 v2_16) 0 0 29 v3_17))))
def M_settles_L93   : Nat → Int32 → St → Option (St)
  | 0, _, _ => none
  | n + 1, v2_12, s_13 => if 244 ≤ v2_12 then (some s_13) else (if (s_13.1 0 0 27) ≤ (s_13.1 24 0 2) then (some s_13) else (M_settles_L117 (fun (s_28 : St) => (M_settles_L93 n) (v2_12 + 1) s_28) v2_12 1100 (v2_12 + 1) s_13))
def M_settles (v1 : Int32) (s0 : St) : Option (St) :=
  Option.bind (M_setTable v1 s0) (fun r_1 => M_settles_L24 (fun (s_11 : St) => M_settles_L93 1100 0 (sX s_11 0 0 27 (s_11.1 0 0 30))) 1100 0 (sX (sX (sX r_1 0 0 28 0) 0 0 29 (-9)) 0 0 30 1000000))
set_option maxHeartbeats 4000000 in
set_option maxRecDepth 100000 in
theorem t_X12_settles_L24 {x : Ctx} {w : Wp}  {z : St}  {K83 : St → Option (St)} (hK83 : ∀ (s_10 : St), K83 s_10 = some z → V x WM w 5 (QM x WM w none z) s_10 83 [(0, .ref (wa w 0 0))] []) (C : Cx x WM w cX12_settles 5 RX12 6 none) : ∀ (n : Nat) (v2_2 : Int32) (s_3 : St), M_settles_L24 K83 n v2_2 s_3 = some z → V x WM w 5 (QM x WM w none z) s_3 24 [(0, .ref (wa w 0 0)), (2, .int v2_2)] [] := by
  intro n
  induction n with
  | zero => intro v2_2 s_3 h; cases h
  | succ n ih =>
    intro v2_2 s_3 h
    unfold M_settles_L24 at h
    refine r_iload_n C dX12_settles_24 rfl 1 rfl ?_
    refine r_sipush (v := 244) C dX12_settles_25 (by decide) ?_
    refine r_icmp_ge (tgt := 83) C dX12_settles_28 (by decide) (fun c_4 => ?_) (fun c_4 => ?_)
    · have h := ip h c_4
      refine r_sub [0] rfl ?_
      exact hK83 _ h
    · have h := iq h c_4
      refine r_aload_n C dX12_settles_31 rfl 0 rfl ?_
      refine r_iload_n C dX12_settles_32 rfl 1 rfl ?_
      obtain ⟨r_5, er_5, h⟩ := bdE h
      refine kX12_222 C (m_X12_sumBy er_5) (by decide) (Nat.le_of_ble_eq_true rfl) dX12_settles_33 ?_
      refine r_istore_n C dX12_settles_36 rfl (Nat.le_of_ble_eq_true rfl) (L' := [(3, _), (0, _), (2, _)]) rfl ?_
      refine r_aload_n C dX12_settles_37 rfl 1 rfl ?_
      refine r_iload_n C dX12_settles_38 rfl 0 rfl ?_
      refine r_aload_n C dX12_settles_39 rfl 1 rfl ?_
      refine gfX12_219 C dX12_settles_40 ?_
      refine r_em (st := [.ref (wa w 0 0)]) 54 ((if (s_3.1 0 0 30) ≤ r_5 then (s_3.1 0 0 28) else v2_2 : Int32)) (fun hM_7 => ?_) ?_
      · refine r_icmp_ge (tgt := 50) C dX12_settles_43 (by decide) (fun c_6 => ?_) (fun c_6 => ?_)
        · refine r_aload_n C dX12_settles_50 rfl 1 rfl ?_
          refine gfX12_212 C dX12_settles_51 ?_
          exact (em_pos c_6 hM_7)
        · refine r_iload_n C dX12_settles_46 rfl 2 rfl ?_
          refine r_goto (tgt := 54) C dX12_settles_47 (by decide) ?_
          exact (em_neg c_6 hM_7)
      refine pfX12_212 C dX12_settles_54 ?_
      refine r_aload_n C dX12_settles_57 rfl 1 rfl ?_
      refine r_iload_n C dX12_settles_58 rfl 0 rfl ?_
      refine r_aload_n C dX12_settles_59 rfl 1 rfl ?_
      refine gfX12_219 C dX12_settles_60 ?_
      refine r_em (st := [.ref (wa w 0 0)]) 74 ((if ((sX s_3 0 0 28 (if (s_3.1 0 0 30) ≤ r_5 then (s_3.1 0 0 28) else v2_2 : Int32)).1 0 0 30) ≤ r_5 then ((sX s_3 0 0 28 (if (s_3.1 0 0 30) ≤ r_5 then (s_3.1 0 0 28) else v2_2 : Int32)).1 0 0 30) else r_5 : Int32)) (fun hM_9 => ?_) ?_
      · refine r_icmp_ge (tgt := 70) C dX12_settles_63 (by decide) (fun c_8 => ?_) (fun c_8 => ?_)
        · refine r_aload_n C dX12_settles_70 rfl 1 rfl ?_
          refine gfX12_219 C dX12_settles_71 ?_
          exact (em_pos c_8 hM_9)
        · refine r_iload_n C dX12_settles_66 rfl 0 rfl ?_
          refine r_goto (tgt := 74) C dX12_settles_67 (by decide) ?_
          exact (em_neg c_8 hM_9)
      refine pfX12_219 C dX12_settles_74 ?_
      refine r_iinc (v := v2_2 + 1) C dX12_settles_77 (j := 2) rfl rfl (Nat.le_of_ble_eq_true rfl) (L' := [(2, _), (3, _), (0, _)]) rfl ?_
      refine r_goto (tgt := 24) C dX12_settles_80 (by decide) ?_
      refine r_sub [2, 0] rfl ?_
      exact ih _ _ h
set_option maxHeartbeats 4000000 in
set_option maxRecDepth 100000 in
theorem t_X12_settles_J157 {x : Ctx} {w : Wp} {v2_22 : Int32} {v3_23 : Int32}  {s_24 : St} {z : St}  {B117 : Int32 → St → Option (St)} (hB117 : ∀ (u3_25 : Int32) (s_26 : St), B117 u3_25 s_26 = some z → V x WM w 5 (QM x WM w none z) s_26 117 [(0, .ref (wa w 0 0)), (2, .int v2_22), (3, .int u3_25)] []) (C : Cx x WM w cX12_settles 5 RX12 6 none) (h : M_settles_J157 B117 v2_22 v3_23 s_24 = some z) : V x WM w 5 (QM x WM w none z) s_24 157 [(0, .ref (wa w 0 0)), (2, .int v2_22), (3, .int v3_23)] [] := by
  unfold M_settles_J157 at h
  refine r_iinc (v := v3_23 + 1) C dX12_settles_157 (j := 2) rfl rfl (Nat.le_of_ble_eq_true rfl) (L' := [(3, _), (0, _), (2, _)]) rfl ?_
  refine r_goto (tgt := 117) C dX12_settles_160 (by decide) ?_
  refine r_sub [1, 2, 0] rfl ?_
  exact hB117 _ _ h
set_option maxHeartbeats 4000000 in
set_option maxRecDepth 100000 in
theorem t_X12_settles_L117 {x : Ctx} {w : Wp} {v2_16 : Int32} {z : St}  {K163 : St → Option (St)} (hK163 : ∀ (s_27 : St), K163 s_27 = some z → V x WM w 5 (QM x WM w none z) s_27 163 [(0, .ref (wa w 0 0)), (2, .int v2_16)] []) (C : Cx x WM w cX12_settles 5 RX12 6 none) : ∀ (n : Nat) (v3_17 : Int32) (s_18 : St), M_settles_L117 K163 v2_16 n v3_17 s_18 = some z → V x WM w 5 (QM x WM w none z) s_18 117 [(0, .ref (wa w 0 0)), (2, .int v2_16), (3, .int v3_17)] [] := by
  intro n
  induction n with
  | zero => intro v3_17 s_18 h; cases h
  | succ n ih =>
    intro v3_17 s_18 h
    unfold M_settles_L117 at h
    refine r_iload_n C dX12_settles_117 rfl 2 rfl ?_
    refine r_sipush (v := 244) C dX12_settles_118 (by decide) ?_
    refine r_icmp_ge (tgt := 163) C dX12_settles_121 (by decide) (fun c_19 => ?_) (fun c_19 => ?_)
    · have h := ip h c_19
      refine r_sub [0, 1] rfl ?_
      exact hK163 _ h
    · have h := iq h c_19
      refine r_aload_n C dX12_settles_124 rfl 0 rfl ?_
      refine r_iload_n C dX12_settles_125 rfl 1 rfl ?_
      refine r_iload_n C dX12_settles_126 rfl 2 rfl ?_
      obtain ⟨r_20, er_20, h⟩ := bdE h
      refine kX12_228 C (m_X12_sumByTwo er_20) (by decide) (Nat.le_of_ble_eq_true rfl) dX12_settles_127 ?_
      refine r_istore C dX12_settles_130 (Nat.le_of_ble_eq_true rfl) (L' := [(4, _), (0, _), (2, _), (3, _)]) rfl ?_
      refine r_iload C dX12_settles_132 0 rfl ?_
      refine r_aload_n C dX12_settles_134 rfl 1 rfl ?_
      refine gfX12_225 C dX12_settles_135 ?_
      refine r_icmp_ge (tgt := 157) C dX12_settles_138 (by decide) (fun c_21 => ?_) (fun c_21 => ?_)
      · have h := ip h c_21
        refine r_sub [1, 2, 3] rfl ?_
        exact t_X12_settles_J157 ih C h
      · have h := iq h c_21
        refine r_aload_n C dX12_settles_141 rfl 1 rfl ?_
        refine r_iload C dX12_settles_142 0 rfl ?_
        refine pfX12_225 C dX12_settles_144 ?_
        refine r_aload_n C dX12_settles_147 rfl 1 rfl ?_
        refine r_iload_n C dX12_settles_148 rfl 2 rfl ?_
        refine pfX12_212 C dX12_settles_149 ?_
        refine r_aload_n C dX12_settles_152 rfl 1 rfl ?_
        refine r_iload_n C dX12_settles_153 rfl 3 rfl ?_
        refine pfX12_215 C dX12_settles_154 ?_
        refine r_sub [1, 2, 3] rfl ?_
        exact t_X12_settles_J157 ih C h
set_option maxHeartbeats 4000000 in
set_option maxRecDepth 100000 in
theorem t_X12_settles_L93 {x : Ctx} {w : Wp}  {z : St}    (C : Cx x WM w cX12_settles 5 RX12 6 none) : ∀ (n : Nat) (v2_12 : Int32) (s_13 : St), M_settles_L93 n v2_12 s_13 = some z → V x WM w 5 (QM x WM w none z) s_13 93 [(0, .ref (wa w 0 0)), (2, .int v2_12)] [] := by
  intro n
  induction n with
  | zero => intro v2_12 s_13 h; cases h
  | succ n ih =>
    intro v2_12 s_13 h
    unfold M_settles_L93 at h
    refine r_iload_n C dX12_settles_93 rfl 1 rfl ?_
    refine r_sipush (v := 244) C dX12_settles_94 (by decide) ?_
    refine r_icmp_ge (tgt := 169) C dX12_settles_97 (by decide) (fun c_14 => ?_) (fun c_14 => ?_)
    · have h := ip h c_14
      cases h
      exact r_vret C dX12_settles_169
    · have h := iq h c_14
      refine r_aload_n C dX12_settles_100 rfl 0 rfl ?_
      refine gfX12_225 C dX12_settles_101 ?_
      refine r_aload_n C dX12_settles_104 rfl 0 rfl ?_
      refine gfX12_62 C dX12_settles_105 ?_
      refine r_iconst (v := 2) C dX12_settles_108 (by decide) ?_
      refine ldM_24 C (by decide) dX12_settles_109 ?_
      refine r_icmp_le (tgt := 169) C dX12_settles_110 (by decide) (fun c_15 => ?_) (fun c_15 => ?_)
      · have h := ip h c_15
        cases h
        exact r_vret C dX12_settles_169
      · have h := iq h c_15
        refine r_iload_n C dX12_settles_113 rfl 1 rfl ?_
        refine r_iconst (v := 1) C dX12_settles_114 (by decide) ?_
        refine r_iadd C dX12_settles_115 ?_
        refine r_istore_n C dX12_settles_116 rfl (Nat.le_of_ble_eq_true rfl) (L' := [(3, _), (0, _), (2, _)]) rfl ?_
        refine r_sub [1, 2, 0] rfl ?_
        refine t_X12_settles_L117 (fun s_28 h => ?_) C _ _ _ h
        refine r_iinc (v := v2_12 + 1) C dX12_settles_163 (j := 1) rfl rfl (Nat.le_of_ble_eq_true rfl) (L' := [(2, _), (0, _)]) rfl ?_
        refine r_goto (tgt := 93) C dX12_settles_166 (by decide) ?_
        refine r_sub [1, 0] rfl ?_
        exact ih _ _ h
set_option maxHeartbeats 4000000 in
set_option maxRecDepth 100000 in
theorem m_X12_settles {l : Launch} {w : Wp} {v1 : Int32}  {s0 : St} {z : St} (h : M_settles v1 s0 = some z) : Cm l yX12_settles (.code yX12_settles cX12_settles 5 none) 6 WM w [.ref (wa w 0 0), .int v1] s0 none z := by
  refine Cm.of (own := RX12) (by decide +kernel) rfl (Nat.le_of_ble_eq_true rfl) (L := [(0, .ref (wa w 0 0)), (1, .int v1)]) rfl KoM (fun x hl C => ?_)
  subst hl
  unfold M_settles at h
  refine r_aload_n C dX12_settles_0 rfl 0 rfl ?_
  refine r_iload_n C dX12_settles_1 rfl 1 rfl ?_
  obtain ⟨r_1, er_1, h⟩ := bdE h
  refine kX12_208 C (m_X12_setTable er_1) (by decide) (Nat.le_of_ble_eq_true rfl) dX12_settles_2 ?_
  refine r_aload_n C dX12_settles_5 rfl 0 rfl ?_
  refine r_iconst (v := 0) C dX12_settles_6 (by decide) ?_
  refine pfX12_212 C dX12_settles_7 ?_
  refine r_aload_n C dX12_settles_10 rfl 0 rfl ?_
  refine r_bipush (v := (-9)) C dX12_settles_11 (by decide) ?_
  refine pfX12_215 C dX12_settles_13 ?_
  refine r_aload_n C dX12_settles_16 rfl 0 rfl ?_
  refine r_ldc C dX12_settles_17 q_1293 ?_
  refine pfX12_219 C dX12_settles_19 ?_
  refine r_iconst (v := 0) C dX12_settles_22 (by decide) ?_
  refine r_istore_n C dX12_settles_23 rfl (Nat.le_of_ble_eq_true rfl) (L' := [(2, _), (0, _), (1, _)]) rfl ?_
  refine r_sub [1, 0] rfl ?_
  refine t_X12_settles_L24 (fun s_11 h => ?_) C _ _ _ h
  refine r_aload_n C dX12_settles_83 rfl 0 rfl ?_
  refine r_aload_n C dX12_settles_84 rfl 0 rfl ?_
  refine gfX12_219 C dX12_settles_85 ?_
  refine pfX12_225 C dX12_settles_88 ?_
  refine r_iconst (v := 0) C dX12_settles_91 (by decide) ?_
  refine r_istore_n C dX12_settles_92 rfl (Nat.le_of_ble_eq_true rfl) (L' := [(2, _), (0, _)]) rfl ?_
  refine r_sub [1, 0] rfl ?_
  exact t_X12_settles_L93 C _ _ _ h
def M_settle (v1 : Int32) (s0 : St) : Option (Int32 × St) :=
  if (M_isMaster v1 s0) = 0 then (some ((-1), s0)) else (Option.bind (M_settles v1 s0) (fun r_2 => Option.bind (M_ask (r_2.1 0 0 28) (r_2.1 0 0 27) r_2) (fun r_3 => some (r_3.1, r_3.2))))
set_option maxHeartbeats 4000000 in
set_option maxRecDepth 100000 in
theorem m_X12_settle {l : Launch} {w : Wp} {v1 : Int32}  {s0 : St} {z : Int32 × St} (h : M_settle v1 s0 = some z) : Cm l yX12_settle (.code yX12_settle cX12_settle 2 (some .int)) 7 WM w [.ref (wa w 0 0), .int v1] s0 (some (.int z.1)) z.2 := by
  refine Cm.of (own := RX12) (by decide +kernel) rfl (Nat.le_of_ble_eq_true rfl) (L := [(0, .ref (wa w 0 0)), (1, .int v1)]) rfl KoM (fun x hl C => ?_)
  subst hl
  unfold M_settle at h
  refine r_aload_n C dX12_settle_0 rfl 0 rfl ?_
  refine r_iload_n C dX12_settle_1 rfl 1 rfl ?_
  refine kX12_137 C (m_X12_isMaster rfl) (by decide) (Nat.le_of_ble_eq_true rfl) dX12_settle_2 ?_
  refine r_if_ne (tgt := 10) C dX12_settle_5 (by decide) (fun c_1 => ?_) (fun c_1 => ?_)
  · have h := iq h c_1
    refine r_aload_n C dX12_settle_10 rfl 0 rfl ?_
    refine r_iload_n C dX12_settle_11 rfl 1 rfl ?_
    obtain ⟨r_2, er_2, h⟩ := bdE h
    refine kX12_231 C (m_X12_settles er_2) (by decide) (Nat.le_of_ble_eq_true rfl) dX12_settle_12 ?_
    refine r_aload_n C dX12_settle_15 rfl 0 rfl ?_
    refine r_aload_n C dX12_settle_16 rfl 0 rfl ?_
    refine gfX12_212 C dX12_settle_17 ?_
    refine r_aload_n C dX12_settle_20 rfl 0 rfl ?_
    refine gfX12_225 C dX12_settle_21 ?_
    obtain ⟨r_3, er_3, h⟩ := bdE h
    refine kX12_119 C (m_X12_ask er_3) (by decide) (Nat.le_of_ble_eq_true rfl) dX12_settle_24 ?_
    cases h
    exact r_iret C dX12_settle_27
  · have h := ip h c_1
    refine r_iconst (v := (-1)) C dX12_settle_8 (by decide) ?_
    cases h
    exact r_iret C dX12_settle_9
def M_second (v1 : Int32) (s0 : St) : Option (Int32 × St) :=
  if (M_isMaster v1 s0) = 0 then (some ((-1), s0)) else (Option.bind (M_settles v1 s0) (fun r_2 => some (r_2.1 0 0 29, r_2)))
set_option maxHeartbeats 4000000 in
set_option maxRecDepth 100000 in
theorem m_X12_second {l : Launch} {w : Wp} {v1 : Int32}  {s0 : St} {z : Int32 × St} (h : M_second v1 s0 = some z) : Cm l yX12_second (.code yX12_second cX12_second 2 (some .int)) 7 WM w [.ref (wa w 0 0), .int v1] s0 (some (.int z.1)) z.2 := by
  refine Cm.of (own := RX12) (by decide +kernel) rfl (Nat.le_of_ble_eq_true rfl) (L := [(0, .ref (wa w 0 0)), (1, .int v1)]) rfl KoM (fun x hl C => ?_)
  subst hl
  unfold M_second at h
  refine r_aload_n C dX12_second_0 rfl 0 rfl ?_
  refine r_iload_n C dX12_second_1 rfl 1 rfl ?_
  refine kX12_137 C (m_X12_isMaster rfl) (by decide) (Nat.le_of_ble_eq_true rfl) dX12_second_2 ?_
  refine r_if_ne (tgt := 10) C dX12_second_5 (by decide) (fun c_1 => ?_) (fun c_1 => ?_)
  · have h := iq h c_1
    refine r_aload_n C dX12_second_10 rfl 0 rfl ?_
    refine r_iload_n C dX12_second_11 rfl 1 rfl ?_
    obtain ⟨r_2, er_2, h⟩ := bdE h
    refine kX12_231 C (m_X12_settles er_2) (by decide) (Nat.le_of_ble_eq_true rfl) dX12_second_12 ?_
    refine r_aload_n C dX12_second_15 rfl 0 rfl ?_
    refine gfX12_215 C dX12_second_16 ?_
    cases h
    exact r_iret C dX12_second_19
  · have h := ip h c_1
    refine r_iconst (v := (-1)) C dX12_second_8 (by decide) ?_
    cases h
    exact r_iret C dX12_second_9
def M_setCheap_L10 (K43 : Int32 → St → Option (St))  : Nat → Int32 → Int32 → St → Option (St)
  | 0, _, _, _ => none
  | n + 1, v2_2, v3_3, s_4 => if 244 ≤ v3_3 then (K43 v2_2 s_4) else (Option.bind (M_sumBy v3_3 s_4) (fun r_6 => (M_setCheap_L10 K43 n) (if v2_2 ≤ r_6 then v2_2 else r_6 : Int32) (v3_3 + 1) s_4))
def M_setCheap_L45  (v2_13 : Int32) : Nat → Int32 → St → Option (St)
  | 0, _, _ => none
  | n + 1, v3_14, s_15 => if 244 ≤ v3_14 then (some s_15) else (Option.bind (M_sumBy v3_14 s_15) (fun r_17 => if inb v3_14 244 = true then (M_setCheap_L45 v2_13 n) (v3_14 + 1) (sX s_15 31 0 v3_14.toNatClampNeg (vp_nar .boolean (if r_17 = v2_13 then 1 else 0 : Int32))) else none))
def M_setCheap (v1 : Int32) (s0 : St) : Option (St) :=
  Option.bind (M_setTable v1 s0) (fun r_1 => M_setCheap_L10 (fun (v2_11 : Int32) (s_12 : St) => M_setCheap_L45 v2_11 1100 0 s_12) 1100 1000000 0 r_1)
set_option maxHeartbeats 4000000 in
set_option maxRecDepth 100000 in
theorem t_X12_setCheap_L10 {x : Ctx} {w : Wp}  {z : St}  {K43 : Int32 → St → Option (St)} (hK43 : ∀ (u2_9 : Int32) (s_10 : St), K43 u2_9 s_10 = some z → V x WM w 5 (QM x WM w none z) s_10 43 [(0, .ref (wa w 0 0)), (2, .int u2_9)] []) (C : Cx x WM w cX12_setCheap 5 RX12 6 none) : ∀ (n : Nat) (v2_2 : Int32) (v3_3 : Int32) (s_4 : St), M_setCheap_L10 K43 n v2_2 v3_3 s_4 = some z → V x WM w 5 (QM x WM w none z) s_4 10 [(0, .ref (wa w 0 0)), (2, .int v2_2), (3, .int v3_3)] [] := by
  intro n
  induction n with
  | zero => intro v2_2 v3_3 s_4 h; cases h
  | succ n ih =>
    intro v2_2 v3_3 s_4 h
    unfold M_setCheap_L10 at h
    refine r_iload_n C dX12_setCheap_10 rfl 2 rfl ?_
    refine r_sipush (v := 244) C dX12_setCheap_11 (by decide) ?_
    refine r_icmp_ge (tgt := 43) C dX12_setCheap_14 (by decide) (fun c_5 => ?_) (fun c_5 => ?_)
    · have h := ip h c_5
      refine r_sub [0, 1] rfl ?_
      exact hK43 _ _ h
    · have h := iq h c_5
      refine r_aload_n C dX12_setCheap_17 rfl 0 rfl ?_
      refine r_iload_n C dX12_setCheap_18 rfl 2 rfl ?_
      obtain ⟨r_6, er_6, h⟩ := bdE h
      refine kX12_222 C (m_X12_sumBy er_6) (by decide) (Nat.le_of_ble_eq_true rfl) dX12_setCheap_19 ?_
      refine r_istore C dX12_setCheap_22 (Nat.le_of_ble_eq_true rfl) (L' := [(4, _), (0, _), (2, _), (3, _)]) rfl ?_
      refine r_iload C dX12_setCheap_24 0 rfl ?_
      refine r_iload_n C dX12_setCheap_26 rfl 2 rfl ?_
      refine r_em (st := []) 36 ((if v2_2 ≤ r_6 then v2_2 else r_6 : Int32)) (fun hM_8 => ?_) ?_
      · refine r_icmp_ge (tgt := 35) C dX12_setCheap_27 (by decide) (fun c_7 => ?_) (fun c_7 => ?_)
        · refine r_iload_n C dX12_setCheap_35 rfl 2 rfl ?_
          exact (em_pos c_7 hM_8)
        · refine r_iload C dX12_setCheap_30 0 rfl ?_
          refine r_goto (tgt := 36) C dX12_setCheap_32 (by decide) ?_
          exact (em_neg c_7 hM_8)
      refine r_istore_n C dX12_setCheap_36 rfl (Nat.le_of_ble_eq_true rfl) (L' := [(2, _), (4, _), (0, _), (3, _)]) rfl ?_
      refine r_iinc (v := v3_3 + 1) C dX12_setCheap_37 (j := 3) rfl rfl (Nat.le_of_ble_eq_true rfl) (L' := [(3, _), (2, _), (4, _), (0, _)]) rfl ?_
      refine r_goto (tgt := 10) C dX12_setCheap_40 (by decide) ?_
      refine r_sub [3, 1, 0] rfl ?_
      exact ih _ _ _ h
set_option maxHeartbeats 4000000 in
set_option maxRecDepth 100000 in
theorem t_X12_setCheap_L45 {x : Ctx} {w : Wp} {v2_13 : Int32} {z : St}    (C : Cx x WM w cX12_setCheap 5 RX12 6 none) : ∀ (n : Nat) (v3_14 : Int32) (s_15 : St), M_setCheap_L45 v2_13 n v3_14 s_15 = some z → V x WM w 5 (QM x WM w none z) s_15 45 [(0, .ref (wa w 0 0)), (2, .int v2_13), (3, .int v3_14)] [] := by
  intro n
  induction n with
  | zero => intro v3_14 s_15 h; cases h
  | succ n ih =>
    intro v3_14 s_15 h
    unfold M_setCheap_L45 at h
    refine r_iload_n C dX12_setCheap_45 rfl 2 rfl ?_
    refine r_sipush (v := 244) C dX12_setCheap_46 (by decide) ?_
    refine r_icmp_ge (tgt := 78) C dX12_setCheap_49 (by decide) (fun c_16 => ?_) (fun c_16 => ?_)
    · have h := ip h c_16
      cases h
      exact r_vret C dX12_setCheap_78
    · have h := iq h c_16
      refine r_aload_n C dX12_setCheap_52 rfl 0 rfl ?_
      refine gfX12_68 C dX12_setCheap_53 ?_
      refine r_iload_n C dX12_setCheap_56 rfl 2 rfl ?_
      refine r_aload_n C dX12_setCheap_57 rfl 0 rfl ?_
      refine r_iload_n C dX12_setCheap_58 rfl 2 rfl ?_
      obtain ⟨r_17, er_17, h⟩ := bdE h
      refine kX12_222 C (m_X12_sumBy er_17) (by decide) (Nat.le_of_ble_eq_true rfl) dX12_setCheap_59 ?_
      refine r_iload_n C dX12_setCheap_62 rfl 1 rfl ?_
      refine r_em (st := [.int v3_14, .ref (wa w 31 0)]) 71 ((if r_17 = v2_13 then 1 else 0 : Int32)) (fun hM_19 => ?_) ?_
      · refine r_icmp_ne (tgt := 70) C dX12_setCheap_63 (by decide) (fun c_18 => ?_) (fun c_18 => ?_)
        · refine r_iconst (v := 0) C dX12_setCheap_70 (by decide) ?_
          exact (em_neg c_18 hM_19)
        · refine r_iconst (v := 1) C dX12_setCheap_66 (by decide) ?_
          refine r_goto (tgt := 71) C dX12_setCheap_67 (by decide) ?_
          exact (em_pos c_18 hM_19)
      obtain ⟨g_20, h⟩ := gdE h
      refine stM_31 C g_20 dX12_setCheap_71 ?_
      refine r_iinc (v := v3_14 + 1) C dX12_setCheap_72 (j := 2) rfl rfl (Nat.le_of_ble_eq_true rfl) (L' := [(3, _), (0, _), (2, _)]) rfl ?_
      refine r_goto (tgt := 45) C dX12_setCheap_75 (by decide) ?_
      refine r_sub [1, 2, 0] rfl ?_
      exact ih _ _ h
set_option maxHeartbeats 4000000 in
set_option maxRecDepth 100000 in
theorem m_X12_setCheap {l : Launch} {w : Wp} {v1 : Int32}  {s0 : St} {z : St} (h : M_setCheap v1 s0 = some z) : Cm l yX12_setCheap (.code yX12_setCheap cX12_setCheap 5 none) 6 WM w [.ref (wa w 0 0), .int v1] s0 none z := by
  refine Cm.of (own := RX12) (by decide +kernel) rfl (Nat.le_of_ble_eq_true rfl) (L := [(0, .ref (wa w 0 0)), (1, .int v1)]) rfl KoM (fun x hl C => ?_)
  subst hl
  unfold M_setCheap at h
  refine r_aload_n C dX12_setCheap_0 rfl 0 rfl ?_
  refine r_iload_n C dX12_setCheap_1 rfl 1 rfl ?_
  obtain ⟨r_1, er_1, h⟩ := bdE h
  refine kX12_208 C (m_X12_setTable er_1) (by decide) (Nat.le_of_ble_eq_true rfl) dX12_setCheap_2 ?_
  refine r_ldc C dX12_setCheap_5 q_1293 ?_
  refine r_istore_n C dX12_setCheap_7 rfl (Nat.le_of_ble_eq_true rfl) (L' := [(2, _), (0, _), (1, _)]) rfl ?_
  refine r_iconst (v := 0) C dX12_setCheap_8 (by decide) ?_
  refine r_istore_n C dX12_setCheap_9 rfl (Nat.le_of_ble_eq_true rfl) (L' := [(3, _), (2, _), (0, _), (1, _)]) rfl ?_
  refine r_sub [2, 1, 0] rfl ?_
  refine t_X12_setCheap_L10 (fun v2_11 s_12 h => ?_) C _ _ _ _ h
  refine r_iconst (v := 0) C dX12_setCheap_43 (by decide) ?_
  refine r_istore_n C dX12_setCheap_44 rfl (Nat.le_of_ble_eq_true rfl) (L' := [(3, _), (0, _), (2, _)]) rfl ?_
  refine r_sub [1, 2, 0] rfl ?_
  exact t_X12_setCheap_L45 C _ _ _ h
def M_cheap_L22 (K71 : Int32 → Int32 → St → Option (Int32 × St))  : Nat → Int32 → Int32 → Int32 → St → Option (Int32 × St)
  | 0, _, _, _, _ => none
  | n + 1, v2_3, v3_4, v4_5, s_6 => if 244 ≤ v4_5 then (K71 v2_3 v3_4 s_6) else (if inb v4_5 244 = true then if inb v4_5 244 = true then (M_cheap_L22 K71 n) (v2_3 + (if (s_6.1 31 0 v4_5.toNatClampNeg) = 0 then 0 else 1 : Int32)) (if (s_6.1 31 0 v4_5.toNatClampNeg) = 0 then v3_4 else v4_5 : Int32) (v4_5 + 1) s_6 else none else none)
def M_cheap (v1 : Int32) (s0 : St) : Option (Int32 × St) :=
  if (M_isMaster v1 s0) = 0 then (some ((-1), s0)) else (Option.bind (M_setCheap v1 s0) (fun r_2 => M_cheap_L22 (fun (v2_17 : Int32) (v3_18 : Int32) (s_19 : St) => Option.bind (M_ask v3_18 v2_17 s_19) (fun r_20 => some (r_20.1, r_20.2))) 1100 0 0 0 r_2))
set_option maxHeartbeats 4000000 in
set_option maxRecDepth 100000 in
theorem t_X12_cheap_L22 {x : Ctx} {w : Wp}  {z : Int32 × St}  {K71 : Int32 → Int32 → St → Option (Int32 × St)} (hK71 : ∀ (u2_14 : Int32) (u3_15 : Int32) (s_16 : St), K71 u2_14 u3_15 s_16 = some z → V x WM w 5 (QM x WM w (some (.int z.1)) z.2) s_16 71 [(0, .ref (wa w 0 0)), (2, .int u2_14), (3, .int u3_15)] []) (C : Cx x WM w cX12_cheap 5 RX12 7 (some .int)) : ∀ (n : Nat) (v2_3 : Int32) (v3_4 : Int32) (v4_5 : Int32) (s_6 : St), M_cheap_L22 K71 n v2_3 v3_4 v4_5 s_6 = some z → V x WM w 5 (QM x WM w (some (.int z.1)) z.2) s_6 22 [(0, .ref (wa w 0 0)), (2, .int v2_3), (3, .int v3_4), (4, .int v4_5)] [] := by
  intro n
  induction n with
  | zero => intro v2_3 v3_4 v4_5 s_6 h; cases h
  | succ n ih =>
    intro v2_3 v3_4 v4_5 s_6 h
    unfold M_cheap_L22 at h
    refine r_iload C dX12_cheap_22 3 rfl ?_
    refine r_sipush (v := 244) C dX12_cheap_24 (by decide) ?_
    refine r_icmp_ge (tgt := 71) C dX12_cheap_27 (by decide) (fun c_7 => ?_) (fun c_7 => ?_)
    · have h := ip h c_7
      refine r_sub [0, 1, 2] rfl ?_
      exact hK71 _ _ _ h
    · have h := iq h c_7
      refine r_iload_n C dX12_cheap_30 rfl 1 rfl ?_
      refine r_aload_n C dX12_cheap_31 rfl 0 rfl ?_
      refine gfX12_68 C dX12_cheap_32 ?_
      refine r_iload C dX12_cheap_35 3 rfl ?_
      obtain ⟨g_8, h⟩ := gdE h
      refine ldM_31 C g_8 dX12_cheap_37 ?_
      refine r_em (st := [.int v2_3]) 46 ((if (s_6.1 31 0 v4_5.toNatClampNeg) = 0 then 0 else 1 : Int32)) (fun hM_10 => ?_) ?_
      · refine r_if_eq (tgt := 45) C dX12_cheap_38 (by decide) (fun c_9 => ?_) (fun c_9 => ?_)
        · refine r_iconst (v := 0) C dX12_cheap_45 (by decide) ?_
          exact (em_pos c_9 hM_10)
        · refine r_iconst (v := 1) C dX12_cheap_41 (by decide) ?_
          refine r_goto (tgt := 46) C dX12_cheap_42 (by decide) ?_
          exact (em_neg c_9 hM_10)
      refine r_iadd C dX12_cheap_46 ?_
      refine r_istore_n C dX12_cheap_47 rfl (Nat.le_of_ble_eq_true rfl) (L' := [(2, _), (0, _), (3, _), (4, _)]) rfl ?_
      refine r_aload_n C dX12_cheap_48 rfl 1 rfl ?_
      refine gfX12_68 C dX12_cheap_49 ?_
      refine r_iload C dX12_cheap_52 3 rfl ?_
      obtain ⟨g_11, h⟩ := gdE h
      refine ldM_31 C g_11 dX12_cheap_54 ?_
      refine r_em (st := []) 64 ((if (s_6.1 31 0 v4_5.toNatClampNeg) = 0 then v3_4 else v4_5 : Int32)) (fun hM_13 => ?_) ?_
      · refine r_if_eq (tgt := 63) C dX12_cheap_55 (by decide) (fun c_12 => ?_) (fun c_12 => ?_)
        · refine r_iload_n C dX12_cheap_63 rfl 2 rfl ?_
          exact (em_pos c_12 hM_13)
        · refine r_iload C dX12_cheap_58 3 rfl ?_
          refine r_goto (tgt := 64) C dX12_cheap_60 (by decide) ?_
          exact (em_neg c_12 hM_13)
      refine r_istore_n C dX12_cheap_64 rfl (Nat.le_of_ble_eq_true rfl) (L' := [(3, _), (2, _), (0, _), (4, _)]) rfl ?_
      refine r_iinc (v := v4_5 + 1) C dX12_cheap_65 (j := 3) rfl rfl (Nat.le_of_ble_eq_true rfl) (L' := [(4, _), (3, _), (2, _), (0, _)]) rfl ?_
      refine r_goto (tgt := 22) C dX12_cheap_68 (by decide) ?_
      refine r_sub [3, 2, 1, 0] rfl ?_
      exact ih _ _ _ _ h
set_option maxHeartbeats 4000000 in
set_option maxRecDepth 100000 in
theorem m_X12_cheap {l : Launch} {w : Wp} {v1 : Int32}  {s0 : St} {z : Int32 × St} (h : M_cheap v1 s0 = some z) : Cm l yX12_cheap (.code yX12_cheap cX12_cheap 5 (some .int)) 7 WM w [.ref (wa w 0 0), .int v1] s0 (some (.int z.1)) z.2 := by
  refine Cm.of (own := RX12) (by decide +kernel) rfl (Nat.le_of_ble_eq_true rfl) (L := [(0, .ref (wa w 0 0)), (1, .int v1)]) rfl KoM (fun x hl C => ?_)
  subst hl
  unfold M_cheap at h
  refine r_aload_n C dX12_cheap_0 rfl 0 rfl ?_
  refine r_iload_n C dX12_cheap_1 rfl 1 rfl ?_
  refine kX12_137 C (m_X12_isMaster rfl) (by decide) (Nat.le_of_ble_eq_true rfl) dX12_cheap_2 ?_
  refine r_if_ne (tgt := 10) C dX12_cheap_5 (by decide) (fun c_1 => ?_) (fun c_1 => ?_)
  · have h := iq h c_1
    refine r_aload_n C dX12_cheap_10 rfl 0 rfl ?_
    refine r_iload_n C dX12_cheap_11 rfl 1 rfl ?_
    obtain ⟨r_2, er_2, h⟩ := bdE h
    refine kX12_234 C (m_X12_setCheap er_2) (by decide) (Nat.le_of_ble_eq_true rfl) dX12_cheap_12 ?_
    refine r_iconst (v := 0) C dX12_cheap_15 (by decide) ?_
    refine r_istore_n C dX12_cheap_16 rfl (Nat.le_of_ble_eq_true rfl) (L' := [(2, _), (0, _), (1, _)]) rfl ?_
    refine r_iconst (v := 0) C dX12_cheap_17 (by decide) ?_
    refine r_istore_n C dX12_cheap_18 rfl (Nat.le_of_ble_eq_true rfl) (L' := [(3, _), (2, _), (0, _), (1, _)]) rfl ?_
    refine r_iconst (v := 0) C dX12_cheap_19 (by decide) ?_
    refine r_istore C dX12_cheap_20 (Nat.le_of_ble_eq_true rfl) (L' := [(4, _), (3, _), (2, _), (0, _), (1, _)]) rfl ?_
    refine r_sub [3, 2, 1, 0] rfl ?_
    refine t_X12_cheap_L22 (fun v2_17 v3_18 s_19 h => ?_) C _ _ _ _ _ h
    refine r_aload_n C dX12_cheap_71 rfl 0 rfl ?_
    refine r_iload_n C dX12_cheap_72 rfl 2 rfl ?_
    refine r_iload_n C dX12_cheap_73 rfl 1 rfl ?_
    obtain ⟨r_20, er_20, h⟩ := bdE h
    refine kX12_119 C (m_X12_ask er_20) (by decide) (Nat.le_of_ble_eq_true rfl) dX12_cheap_74 ?_
    cases h
    exact r_iret C dX12_cheap_77
  · have h := ip h c_1
    refine r_iconst (v := (-1)) C dX12_cheap_8 (by decide) ?_
    cases h
    exact r_iret C dX12_cheap_9
def M_cheapAt_J53 (B24 : Int32 → Int32 → St → Option (Int32 × St)) (v2_11 : Int32) (v3_12 : Int32) (v4_13 : Int32)  (s_14 : St) : Option (Int32 × St) :=
  B24 v3_12 (v4_13 + 1) s_14
def M_cheapAt_L24  (v2_4 : Int32) : Nat → Int32 → Int32 → St → Option (Int32 × St)
  | 0, _, _, _ => none
  | n + 1, v3_5, v4_6, s_7 => if 244 ≤ v4_6 then (some ((-9), s_7)) else (if inb v4_6 244 = true then if (s_7.1 31 0 v4_6.toNatClampNeg) = 0 then (M_cheapAt_J53 (M_cheapAt_L24 v2_4 n) v2_4 v3_5 v4_6 s_7) else (if v3_5 = v2_4 then (some (v4_6, s_7)) else (M_cheapAt_J53 (M_cheapAt_L24 v2_4 n) v2_4 (v3_5 + 1) v4_6 s_7)) else none)
def M_cheapAt (v1 : Int32) (v2 : Int32) (s0 : St) : Option (Int32 × St) :=
  if (M_isMaster v1 s0) = 0 then (some ((-1), s0)) else (if 0 ≤ v2 then (Option.bind (M_setCheap v1 s0) (fun r_3 => M_cheapAt_L24 v2 1100 0 0 r_3)) else (some ((-1), s0)))
set_option maxHeartbeats 4000000 in
set_option maxRecDepth 100000 in
theorem t_X12_cheapAt_J53 {x : Ctx} {w : Wp} {v2_11 : Int32} {v3_12 : Int32} {v4_13 : Int32}  {s_14 : St} {z : Int32 × St}  {B24 : Int32 → Int32 → St → Option (Int32 × St)} (hB24 : ∀ (u3_15 : Int32) (u4_16 : Int32) (s_17 : St), B24 u3_15 u4_16 s_17 = some z → V x WM w 5 (QM x WM w (some (.int z.1)) z.2) s_17 24 [(0, .ref (wa w 0 0)), (2, .int v2_11), (3, .int u3_15), (4, .int u4_16)] []) (C : Cx x WM w cX12_cheapAt 5 RX12 7 (some .int)) (h : M_cheapAt_J53 B24 v2_11 v3_12 v4_13 s_14 = some z) : V x WM w 5 (QM x WM w (some (.int z.1)) z.2) s_14 53 [(0, .ref (wa w 0 0)), (2, .int v2_11), (3, .int v3_12), (4, .int v4_13)] [] := by
  unfold M_cheapAt_J53 at h
  refine r_iinc (v := v4_13 + 1) C dX12_cheapAt_53 (j := 3) rfl rfl (Nat.le_of_ble_eq_true rfl) (L' := [(4, _), (0, _), (2, _), (3, _)]) rfl ?_
  refine r_goto (tgt := 24) C dX12_cheapAt_56 (by decide) ?_
  refine r_sub [1, 2, 3, 0] rfl ?_
  exact hB24 _ _ _ h
set_option maxHeartbeats 4000000 in
set_option maxRecDepth 100000 in
theorem t_X12_cheapAt_L24 {x : Ctx} {w : Wp} {v2_4 : Int32} {z : Int32 × St}    (C : Cx x WM w cX12_cheapAt 5 RX12 7 (some .int)) : ∀ (n : Nat) (v3_5 : Int32) (v4_6 : Int32) (s_7 : St), M_cheapAt_L24 v2_4 n v3_5 v4_6 s_7 = some z → V x WM w 5 (QM x WM w (some (.int z.1)) z.2) s_7 24 [(0, .ref (wa w 0 0)), (2, .int v2_4), (3, .int v3_5), (4, .int v4_6)] [] := by
  intro n
  induction n with
  | zero => intro v3_5 v4_6 s_7 h; cases h
  | succ n ih =>
    intro v3_5 v4_6 s_7 h
    unfold M_cheapAt_L24 at h
    refine r_iload C dX12_cheapAt_24 3 rfl ?_
    refine r_sipush (v := 244) C dX12_cheapAt_26 (by decide) ?_
    refine r_icmp_ge (tgt := 59) C dX12_cheapAt_29 (by decide) (fun c_8 => ?_) (fun c_8 => ?_)
    · have h := ip h c_8
      refine r_bipush (v := (-9)) C dX12_cheapAt_59 (by decide) ?_
      cases h
      exact r_iret C dX12_cheapAt_61
    · have h := iq h c_8
      refine r_aload_n C dX12_cheapAt_32 rfl 0 rfl ?_
      refine gfX12_68 C dX12_cheapAt_33 ?_
      refine r_iload C dX12_cheapAt_36 3 rfl ?_
      obtain ⟨g_9, h⟩ := gdE h
      refine ldM_31 C g_9 dX12_cheapAt_38 ?_
      refine r_if_eq (tgt := 53) C dX12_cheapAt_39 (by decide) (fun c_10 => ?_) (fun c_10 => ?_)
      · have h := ip h c_10
        refine r_sub [0, 1, 2, 3] rfl ?_
        exact t_X12_cheapAt_J53 ih C h
      · have h := iq h c_10
        refine r_iload_n C dX12_cheapAt_42 rfl 2 rfl ?_
        refine r_iload_n C dX12_cheapAt_43 rfl 1 rfl ?_
        refine r_icmp_ne (tgt := 50) C dX12_cheapAt_44 (by decide) (fun c_18 => ?_) (fun c_18 => ?_)
        · have h := iq h c_18
          refine r_iinc (v := v3_5 + 1) C dX12_cheapAt_50 (j := 2) rfl rfl (Nat.le_of_ble_eq_true rfl) (L' := [(3, _), (0, _), (2, _), (4, _)]) rfl ?_
          refine r_sub [1, 2, 0, 3] rfl ?_
          exact t_X12_cheapAt_J53 ih C h
        · have h := ip h c_18
          refine r_iload C dX12_cheapAt_47 3 rfl ?_
          cases h
          exact r_iret C dX12_cheapAt_49
set_option maxHeartbeats 4000000 in
set_option maxRecDepth 100000 in
theorem m_X12_cheapAt {l : Launch} {w : Wp} {v1 : Int32} {v2 : Int32}  {s0 : St} {z : Int32 × St} (h : M_cheapAt v1 v2 s0 = some z) : Cm l yX12_cheapAt (.code yX12_cheapAt cX12_cheapAt 5 (some .int)) 7 WM w [.ref (wa w 0 0), .int v1, .int v2] s0 (some (.int z.1)) z.2 := by
  refine Cm.of (own := RX12) (by decide +kernel) rfl (Nat.le_of_ble_eq_true rfl) (L := [(0, .ref (wa w 0 0)), (1, .int v1), (2, .int v2)]) rfl KoM (fun x hl C => ?_)
  subst hl
  unfold M_cheapAt at h
  refine r_aload_n C dX12_cheapAt_0 rfl 0 rfl ?_
  refine r_iload_n C dX12_cheapAt_1 rfl 1 rfl ?_
  refine kX12_137 C (m_X12_isMaster rfl) (by decide) (Nat.le_of_ble_eq_true rfl) dX12_cheapAt_2 ?_
  refine r_if_eq (tgt := 12) C dX12_cheapAt_5 (by decide) (fun c_1 => ?_) (fun c_1 => ?_)
  · have h := ip h c_1
    refine r_iconst (v := (-1)) C dX12_cheapAt_12 (by decide) ?_
    cases h
    exact r_iret C dX12_cheapAt_13
  · have h := iq h c_1
    refine r_iload_n C dX12_cheapAt_8 rfl 2 rfl ?_
    refine r_if_ge (tgt := 14) C dX12_cheapAt_9 (by decide) (fun c_2 => ?_) (fun c_2 => ?_)
    · have h := ip h c_2
      refine r_aload_n C dX12_cheapAt_14 rfl 0 rfl ?_
      refine r_iload_n C dX12_cheapAt_15 rfl 1 rfl ?_
      obtain ⟨r_3, er_3, h⟩ := bdE h
      refine kX12_234 C (m_X12_setCheap er_3) (by decide) (Nat.le_of_ble_eq_true rfl) dX12_cheapAt_16 ?_
      refine r_iconst (v := 0) C dX12_cheapAt_19 (by decide) ?_
      refine r_istore_n C dX12_cheapAt_20 rfl (Nat.le_of_ble_eq_true rfl) (L' := [(3, _), (0, _), (1, _), (2, _)]) rfl ?_
      refine r_iconst (v := 0) C dX12_cheapAt_21 (by decide) ?_
      refine r_istore C dX12_cheapAt_22 (Nat.le_of_ble_eq_true rfl) (L' := [(4, _), (3, _), (0, _), (1, _), (2, _)]) rfl ?_
      refine r_sub [2, 4, 1, 0] rfl ?_
      exact t_X12_cheapAt_L24 C _ _ _ _ h
    · have h := iq h c_2
      refine r_iconst (v := (-1)) C dX12_cheapAt_12 (by decide) ?_
      cases h
      exact r_iret C dX12_cheapAt_13
