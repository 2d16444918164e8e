def M_follow_J96 (B57 : Int32 → Int32 → St → Option (Int32 × St)) (v1_21 : Int32) (v2_22 : Int32) (v3_23 : Int32) (v5_24 : Int32) (t_25 : Int32) (s_26 : St) : Option (Int32 × St) :=
  B57 t_25 (v5_24 + 1) s_26
def M_follow_L57 (K104 : Int32 → St → Option (Int32 × St)) (v1_12 : Int32) (v2_13 : Int32) (v3_14 : Int32) : Nat → Int32 → Int32 → St → Option (Int32 × St)
  | 0, _, _, _ => none
  | n + 1, v4_15, v5_16, s_17 => if v3_14 ≤ v5_16 then (K104 v4_15 s_17) else (if inb v5_16 40 = true then if (s_17.1 37 0 v5_16.toNatClampNeg) = 0 then (M_follow_J96 (M_follow_L57 K104 v1_12 v2_13 v3_14 n) v1_12 v2_13 v3_14 v5_16 v4_15 s_17) else (if inb v5_16 40 = true then if inb v3_14 40 = true then (M_follow_L57 K104 v1_12 v2_13 v3_14 n) (if (s_17.1 35 0 v5_16.toNatClampNeg) = (s_17.1 35 0 v3_14.toNatClampNeg) then v5_16 else v4_15 : Int32) (v5_16 + 1) s_17 else none else none) else none)
def M_follow_J155 (B6 : Int32 → Int32 → Int32 → St → Option (Int32 × St)) (v1_46 : Int32) (v2_47 : Int32) (v3_48 : Int32)  (s_49 : St) : Option (Int32 × St) :=
  B6 v1_46 v2_47 (v3_48 + 1) s_49
def M_follow_J138 (B6 : Int32 → Int32 → Int32 → St → Option (Int32 × St)) (v1_39 : Int32) (v2_40 : Int32) (v3_41 : Int32)  (s_42 : St) : Option (Int32 × St) :=
  if inb v3_41 40 = true then M_follow_J155 B6 (v1_39 + (if (s_42.1 34 0 v3_41.toNatClampNeg) = 0 then 0 else 1 : Int32)) v2_40 v3_41 s_42 else none
def M_follow_L6 (K161 : Int32 → Int32 → St → Option (Int32 × St))  : Nat → Int32 → Int32 → Int32 → St → Option (Int32 × St)
  | 0, _, _, _, _ => none
  | n + 1, v1_1, v2_2, v3_3, s_4 => if (s_4.1 0 0 33) ≤ v3_3 then (K161 v1_1 v2_2 s_4) else (if inb v3_3 40 = true then if inb v3_3 40 = true then if inb v3_3 40 = true then if ((sX s_4 37 0 v3_3.toNatClampNeg (vp_nar .boolean (if (s_4.1 34 0 v3_3.toNatClampNeg) = 1 then 1 else 0 : Int32))).1 37 0 v3_3.toNatClampNeg) = 0 then (M_follow_L57 (fun (v4_36 : Int32) (s_37 : St) => if v4_36 < 0 then (M_follow_J138 (M_follow_L6 K161 n) v1_1 v2_2 v3_3 s_37) else (if inb v4_36 40 = true then Option.bind (M_doesAnswer v3_3 (s_37.1 36 0 v4_36.toNatClampNeg) s_37) (fun r_59 => if r_59.1 = 0 then (M_follow_J138 (M_follow_L6 K161 n) v1_1 v2_2 v3_3 r_59.2) else (if inb v4_36 40 = true then M_follow_J155 (M_follow_L6 K161 n) v1_1 (v2_2 + (-1)) v3_3 (sX r_59.2 37 0 v4_36.toNatClampNeg (vp_nar .boolean 0)) else none)) else none)) v1_1 v2_2 v3_3 1100 (-9) 0 (sX s_4 37 0 v3_3.toNatClampNeg (vp_nar .boolean (if (s_4.1 34 0 v3_3.toNatClampNeg) = 1 then 1 else 0 : Int32)))) else (M_follow_J155 (M_follow_L6 K161 n) v1_1 (v2_2 + 1) v3_3 (sX s_4 37 0 v3_3.toNatClampNeg (vp_nar .boolean (if (s_4.1 34 0 v3_3.toNatClampNeg) = 1 then 1 else 0 : Int32)))) else none else none else none)
def M_follow  (s0 : St) : Option (Int32 × St) :=
  M_follow_L6 (fun (v1_65 : Int32) (v2_66 : Int32) (s_67 : St) => Option.bind (M_ask v1_65 v2_66 s_67) (fun r_68 => some (r_68.1, r_68.2))) 1100 0 0 0 s0
set_option maxHeartbeats 4000000 in
set_option maxRecDepth 100000 in
theorem t_X12_follow_J96 {x : Ctx} {w : Wp} {v1_21 : Int32} {v2_22 : Int32} {v3_23 : Int32} {v5_24 : Int32} {t_25 : Int32} {s_26 : St} {z : Int32 × St}  {B57 : Int32 → Int32 → St → Option (Int32 × St)} (hB57 : ∀ (u4_27 : Int32) (u5_28 : Int32) (s_29 : St), B57 u4_27 u5_28 s_29 = some z → V x WM w 6 (QM x WM w (some (.int z.1)) z.2) s_29 57 [(0, .ref (wa w 0 0)), (1, .int v1_21), (2, .int v2_22), (3, .int v3_23), (4, .int u4_27), (5, .int u5_28)] []) (C : Cx x WM w cX12_follow 6 RX12 8 (some .int)) (h : M_follow_J96 B57 v1_21 v2_22 v3_23 v5_24 t_25 s_26 = some z) : V x WM w 6 (QM x WM w (some (.int z.1)) z.2) s_26 96 [(0, .ref (wa w 0 0)), (1, .int v1_21), (2, .int v2_22), (3, .int v3_23), (5, .int v5_24)] [.int t_25] := by
  unfold M_follow_J96 at h
  refine r_istore C dX12_follow_96 (Nat.le_of_ble_eq_true rfl) (L' := [(4, _), (0, _), (1, _), (2, _), (3, _), (5, _)]) rfl ?_
  refine r_iinc (v := v5_24 + 1) C dX12_follow_98 (j := 5) rfl rfl (Nat.le_of_ble_eq_true rfl) (L' := [(5, _), (4, _), (0, _), (1, _), (2, _), (3, _)]) rfl ?_
  refine r_goto (tgt := 57) C dX12_follow_101 (by decide) ?_
  refine r_sub [2, 3, 4, 5, 1, 0] rfl ?_
  exact hB57 _ _ _ h
set_option maxHeartbeats 4000000 in
set_option maxRecDepth 100000 in
theorem t_X12_follow_L57 {x : Ctx} {w : Wp} {v1_12 : Int32} {v2_13 : Int32} {v3_14 : Int32} {z : Int32 × St}  {K104 : Int32 → St → Option (Int32 × St)} (hK104 : ∀ (u4_34 : Int32) (s_35 : St), K104 u4_34 s_35 = some z → V x WM w 6 (QM x WM w (some (.int z.1)) z.2) s_35 104 [(0, .ref (wa w 0 0)), (1, .int v1_12), (2, .int v2_13), (3, .int v3_14), (4, .int u4_34)] []) (C : Cx x WM w cX12_follow 6 RX12 8 (some .int)) : ∀ (n : Nat) (v4_15 : Int32) (v5_16 : Int32) (s_17 : St), M_follow_L57 K104 v1_12 v2_13 v3_14 n v4_15 v5_16 s_17 = some z → V x WM w 6 (QM x WM w (some (.int z.1)) z.2) s_17 57 [(0, .ref (wa w 0 0)), (1, .int v1_12), (2, .int v2_13), (3, .int v3_14), (4, .int v4_15), (5, .int v5_16)] [] := by
  intro n
  induction n with
  | zero => intro v4_15 v5_16 s_17 h; cases h
  | succ n ih =>
    intro v4_15 v5_16 s_17 h
    unfold M_follow_L57 at h
    refine r_iload C dX12_follow_57 5 rfl ?_
    refine r_iload_n C dX12_follow_59 rfl 3 rfl ?_
    refine r_icmp_ge (tgt := 104) C dX12_follow_60 (by decide) (fun c_18 => ?_) (fun c_18 => ?_)
    · have h := ip h c_18
      refine r_sub [0, 1, 2, 3, 4] rfl ?_
      exact hK104 _ _ h
    · have h := iq h c_18
      refine r_aload_n C dX12_follow_63 rfl 0 rfl ?_
      refine gfX12_84 C dX12_follow_64 ?_
      refine r_iload C dX12_follow_67 5 rfl ?_
      obtain ⟨g_19, h⟩ := gdE h
      refine ldM_37 C g_19 dX12_follow_69 ?_
      refine r_if_eq (tgt := 94) C dX12_follow_70 (by decide) (fun c_20 => ?_) (fun c_20 => ?_)
      · have h := ip h c_20
        refine r_iload C dX12_follow_94 4 rfl ?_
        refine r_sub [0, 1, 2, 3, 5] rfl ?_
        exact t_X12_follow_J96 ih C h
      · have h := iq h c_20
        refine r_aload_n C dX12_follow_73 rfl 0 rfl ?_
        refine gfX12_78 C dX12_follow_74 ?_
        refine r_iload C dX12_follow_77 5 rfl ?_
        obtain ⟨g_30, h⟩ := gdE h
        refine ldM_35 C g_30 dX12_follow_79 ?_
        refine r_aload_n C dX12_follow_80 rfl 0 rfl ?_
        refine gfX12_78 C dX12_follow_81 ?_
        refine r_iload_n C dX12_follow_84 rfl 3 rfl ?_
        obtain ⟨g_31, h⟩ := gdE h
        refine ldM_35 C g_31 dX12_follow_85 ?_
        refine r_em (st := []) 96 ((if (s_17.1 35 0 v5_16.toNatClampNeg) = (s_17.1 35 0 v3_14.toNatClampNeg) then v5_16 else v4_15 : Int32)) (fun hM_33 => ?_) ?_
        · refine r_icmp_ne (tgt := 94) C dX12_follow_86 (by decide) (fun c_32 => ?_) (fun c_32 => ?_)
          · refine r_iload C dX12_follow_94 4 rfl ?_
            exact (em_neg c_32 hM_33)
          · refine r_iload C dX12_follow_89 5 rfl ?_
            refine r_goto (tgt := 96) C dX12_follow_91 (by decide) ?_
            exact (em_pos c_32 hM_33)
        refine r_istore C dX12_follow_96 (Nat.le_of_ble_eq_true rfl) (L' := [(4, _), (0, _), (1, _), (2, _), (3, _), (5, _)]) rfl ?_
        refine r_iinc (v := v5_16 + 1) C dX12_follow_98 (j := 5) rfl rfl (Nat.le_of_ble_eq_true rfl) (L' := [(5, _), (4, _), (0, _), (1, _), (2, _), (3, _)]) rfl ?_
        refine r_goto (tgt := 57) C dX12_follow_101 (by decide) ?_
        refine r_sub [2, 3, 4, 5, 1, 0] rfl ?_
        exact ih _ _ _ h
set_option maxHeartbeats 4000000 in
set_option maxRecDepth 100000 in
theorem t_X12_follow_J155 {x : Ctx} {w : Wp} {v1_46 : Int32} {v2_47 : Int32} {v3_48 : Int32}  {s_49 : St} {z : Int32 × St}  {B6 : Int32 → Int32 → Int32 → St → Option (Int32 × St)} (hB6 : ∀ (u1_50 : Int32) (u2_51 : Int32) (u3_52 : Int32) (s_53 : St), B6 u1_50 u2_51 u3_52 s_53 = some z → V x WM w 6 (QM x WM w (some (.int z.1)) z.2) s_53 6 [(0, .ref (wa w 0 0)), (1, .int u1_50), (2, .int u2_51), (3, .int u3_52)] []) (C : Cx x WM w cX12_follow 6 RX12 8 (some .int)) (h : M_follow_J155 B6 v1_46 v2_47 v3_48 s_49 = some z) : V x WM w 6 (QM x WM w (some (.int z.1)) z.2) s_49 155 [(0, .ref (wa w 0 0)), (1, .int v1_46), (2, .int v2_47), (3, .int v3_48)] [] := by
  unfold M_follow_J155 at h
  refine r_iinc (v := v3_48 + 1) C dX12_follow_155 (j := 3) rfl rfl (Nat.le_of_ble_eq_true rfl) (L' := [(3, _), (0, _), (1, _), (2, _)]) rfl ?_
  refine r_goto (tgt := 6) C dX12_follow_158 (by decide) ?_
  refine r_sub [1, 2, 3, 0] rfl ?_
  exact hB6 _ _ _ _ h
set_option maxHeartbeats 4000000 in
set_option maxRecDepth 100000 in
theorem t_X12_follow_J138 {x : Ctx} {w : Wp} {v1_39 : Int32} {v2_40 : Int32} {v3_41 : Int32}  {s_42 : St} {z : Int32 × St}  {B6 : Int32 → Int32 → Int32 → St → Option (Int32 × St)} (hB6 : ∀ (u1_54 : Int32) (u2_55 : Int32) (u3_56 : Int32) (s_57 : St), B6 u1_54 u2_55 u3_56 s_57 = some z → V x WM w 6 (QM x WM w (some (.int z.1)) z.2) s_57 6 [(0, .ref (wa w 0 0)), (1, .int u1_54), (2, .int u2_55), (3, .int u3_56)] []) (C : Cx x WM w cX12_follow 6 RX12 8 (some .int)) (h : M_follow_J138 B6 v1_39 v2_40 v3_41 s_42 = some z) : V x WM w 6 (QM x WM w (some (.int z.1)) z.2) s_42 138 [(0, .ref (wa w 0 0)), (1, .int v1_39), (2, .int v2_40), (3, .int v3_41)] [] := by
  unfold M_follow_J138 at h
  refine r_iload_n C dX12_follow_138 rfl 1 rfl ?_
  refine r_aload_n C dX12_follow_139 rfl 0 rfl ?_
  refine gfX12_75 C dX12_follow_140 ?_
  refine r_iload_n C dX12_follow_143 rfl 3 rfl ?_
  obtain ⟨g_43, h⟩ := gdE h
  refine ldM_34 C g_43 dX12_follow_144 ?_
  refine r_em (st := [.int v1_39]) 153 ((if (s_42.1 34 0 v3_41.toNatClampNeg) = 0 then 0 else 1 : Int32)) (fun hM_45 => ?_) ?_
  · refine r_if_ne (tgt := 152) C dX12_follow_145 (by decide) (fun c_44 => ?_) (fun c_44 => ?_)
    · refine r_iconst (v := 1) C dX12_follow_152 (by decide) ?_
      exact (em_neg c_44 hM_45)
    · refine r_iconst (v := 0) C dX12_follow_148 (by decide) ?_
      refine r_goto (tgt := 153) C dX12_follow_149 (by decide) ?_
      exact (em_pos c_44 hM_45)
  refine r_iadd C dX12_follow_153 ?_
  refine r_istore_n C dX12_follow_154 rfl (Nat.le_of_ble_eq_true rfl) (L' := [(1, _), (0, _), (2, _), (3, _)]) rfl ?_
  refine r_sub [1, 0, 2, 3] rfl ?_
  exact t_X12_follow_J155 hB6 C h
set_option maxHeartbeats 4000000 in
set_option maxRecDepth 100000 in
theorem t_X12_follow_L6 {x : Ctx} {w : Wp}  {z : Int32 × St}  {K161 : Int32 → Int32 → St → Option (Int32 × St)} (hK161 : ∀ (u1_62 : Int32) (u2_63 : Int32) (s_64 : St), K161 u1_62 u2_63 s_64 = some z → V x WM w 6 (QM x WM w (some (.int z.1)) z.2) s_64 161 [(0, .ref (wa w 0 0)), (1, .int u1_62), (2, .int u2_63)] []) (C : Cx x WM w cX12_follow 6 RX12 8 (some .int)) : ∀ (n : Nat) (v1_1 : Int32) (v2_2 : Int32) (v3_3 : Int32) (s_4 : St), M_follow_L6 K161 n v1_1 v2_2 v3_3 s_4 = some z → V x WM w 6 (QM x WM w (some (.int z.1)) z.2) s_4 6 [(0, .ref (wa w 0 0)), (1, .int v1_1), (2, .int v2_2), (3, .int v3_3)] [] := by
  intro n
  induction n with
  | zero => intro v1_1 v2_2 v3_3 s_4 h; cases h
  | succ n ih =>
    intro v1_1 v2_2 v3_3 s_4 h
    unfold M_follow_L6 at h
    refine r_iload_n C dX12_follow_6 rfl 3 rfl ?_
    refine r_aload_n C dX12_follow_7 rfl 0 rfl ?_
    refine gfX12_265 C dX12_follow_8 ?_
    refine r_icmp_ge (tgt := 161) C dX12_follow_11 (by decide) (fun c_5 => ?_) (fun c_5 => ?_)
    · have h := ip h c_5
      refine r_sub [0, 1, 2] rfl ?_
      exact hK161 _ _ _ h
    · have h := iq h c_5
      refine r_aload_n C dX12_follow_14 rfl 0 rfl ?_
      refine gfX12_84 C dX12_follow_15 ?_
      refine r_iload_n C dX12_follow_18 rfl 3 rfl ?_
      refine r_aload_n C dX12_follow_19 rfl 0 rfl ?_
      refine gfX12_75 C dX12_follow_20 ?_
      refine r_iload_n C dX12_follow_23 rfl 3 rfl ?_
      obtain ⟨g_6, h⟩ := gdE h
      refine ldM_34 C g_6 dX12_follow_24 ?_
      refine r_iconst (v := 1) C dX12_follow_25 (by decide) ?_
      refine r_em (st := [.int v3_3, .ref (wa w 37 0)]) 34 ((if (s_4.1 34 0 v3_3.toNatClampNeg) = 1 then 1 else 0 : Int32)) (fun hM_8 => ?_) ?_
      · refine r_icmp_ne (tgt := 33) C dX12_follow_26 (by decide) (fun c_7 => ?_) (fun c_7 => ?_)
        · refine r_iconst (v := 0) C dX12_follow_33 (by decide) ?_
          exact (em_neg c_7 hM_8)
        · refine r_iconst (v := 1) C dX12_follow_29 (by decide) ?_
          refine r_goto (tgt := 34) C dX12_follow_30 (by decide) ?_
          exact (em_pos c_7 hM_8)
      obtain ⟨g_9, h⟩ := gdE h
      refine stM_37 C g_9 dX12_follow_34 ?_
      refine r_aload_n C dX12_follow_35 rfl 0 rfl ?_
      refine gfX12_84 C dX12_follow_36 ?_
      refine r_iload_n C dX12_follow_39 rfl 3 rfl ?_
      obtain ⟨g_10, h⟩ := gdE h
      refine ldM_37 C g_10 dX12_follow_40 ?_
      refine r_if_eq (tgt := 50) C dX12_follow_41 (by decide) (fun c_11 => ?_) (fun c_11 => ?_)
      · have h := ip h c_11
        refine r_bipush (v := (-9)) C dX12_follow_50 (by decide) ?_
        refine r_istore C dX12_follow_52 (Nat.le_of_ble_eq_true rfl) (L' := [(4, _), (0, _), (1, _), (2, _), (3, _)]) rfl ?_
        refine r_iconst (v := 0) C dX12_follow_54 (by decide) ?_
        refine r_istore C dX12_follow_55 (Nat.le_of_ble_eq_true rfl) (L' := [(5, _), (4, _), (0, _), (1, _), (2, _), (3, _)]) rfl ?_
        refine r_sub [2, 3, 4, 5, 1, 0] rfl ?_
        refine t_X12_follow_L57 (fun v4_36 s_37 h => ?_) C _ _ _ _ h
        refine r_iload C dX12_follow_104 4 rfl ?_
        refine r_if_lt (tgt := 138) C dX12_follow_106 (by decide) (fun c_38 => ?_) (fun c_38 => ?_)
        · have h := ip h c_38
          refine r_sub [0, 1, 2, 3] rfl ?_
          exact t_X12_follow_J138 ih C h
        · have h := iq h c_38
          refine r_aload_n C dX12_follow_109 rfl 0 rfl ?_
          refine r_iload_n C dX12_follow_110 rfl 3 rfl ?_
          refine r_aload_n C dX12_follow_111 rfl 0 rfl ?_
          refine gfX12_81 C dX12_follow_112 ?_
          refine r_iload C dX12_follow_115 4 rfl ?_
          obtain ⟨g_58, h⟩ := gdE h
          refine ldM_36 C g_58 dX12_follow_117 ?_
          obtain ⟨r_59, er_59, h⟩ := bdE h
          refine kX12_271 C (m_X12_doesAnswer er_59) (by decide) (Nat.le_of_ble_eq_true rfl) dX12_follow_118 ?_
          refine r_if_eq (tgt := 138) C dX12_follow_121 (by decide) (fun c_60 => ?_) (fun c_60 => ?_)
          · have h := ip h c_60
            refine r_sub [0, 1, 2, 3] rfl ?_
            exact t_X12_follow_J138 ih C h
          · have h := iq h c_60
            refine r_aload_n C dX12_follow_124 rfl 0 rfl ?_
            refine gfX12_84 C dX12_follow_125 ?_
            refine r_iload C dX12_follow_128 4 rfl ?_
            refine r_iconst (v := 0) C dX12_follow_130 (by decide) ?_
            obtain ⟨g_61, h⟩ := gdE h
            refine stM_37 C g_61 dX12_follow_131 ?_
            refine r_iinc (v := v2_2 + (-1)) C dX12_follow_132 (j := 2) rfl rfl (Nat.le_of_ble_eq_true rfl) (L' := [(2, _), (0, _), (1, _), (3, _), (4, _)]) rfl ?_
            refine r_goto (tgt := 155) C dX12_follow_135 (by decide) ?_
            refine r_sub [1, 2, 0, 3] rfl ?_
            exact t_X12_follow_J155 ih C h
      · have h := iq h c_11
        refine r_iinc (v := v2_2 + 1) C dX12_follow_44 (j := 2) rfl rfl (Nat.le_of_ble_eq_true rfl) (L' := [(2, _), (0, _), (1, _), (3, _)]) rfl ?_
        refine r_goto (tgt := 155) C dX12_follow_47 (by decide) ?_
        refine r_sub [1, 2, 0, 3] rfl ?_
        exact t_X12_follow_J155 ih C h
set_option maxHeartbeats 4000000 in
set_option maxRecDepth 100000 in
theorem m_X12_follow {l : Launch} {w : Wp}   {s0 : St} {z : Int32 × St} (h : M_follow s0 = some z) : Cm l yX12_follow (.code yX12_follow cX12_follow 6 (some .int)) 8 WM w [.ref (wa w 0 0)] s0 (some (.int z.1)) z.2 := by
  refine Cm.of (own := RX12) (by decide +kernel) rfl (Nat.le_of_ble_eq_true rfl) (L := [(0, .ref (wa w 0 0))]) rfl KoM (fun x hl C => ?_)
  subst hl
  unfold M_follow at h
  refine r_iconst (v := 0) C dX12_follow_0 (by decide) ?_
  refine r_istore_n C dX12_follow_1 rfl (Nat.le_of_ble_eq_true rfl) (L' := [(1, _), (0, _)]) rfl ?_
  refine r_iconst (v := 0) C dX12_follow_2 (by decide) ?_
  refine r_istore_n C dX12_follow_3 rfl (Nat.le_of_ble_eq_true rfl) (L' := [(2, _), (1, _), (0, _)]) rfl ?_
  refine r_iconst (v := 0) C dX12_follow_4 (by decide) ?_
  refine r_istore_n C dX12_follow_5 rfl (Nat.le_of_ble_eq_true rfl) (L' := [(3, _), (2, _), (1, _), (0, _)]) rfl ?_
  refine r_sub [3, 2, 1, 0] rfl ?_
  refine t_X12_follow_L6 (fun v1_65 v2_66 s_67 h => ?_) C _ _ _ _ _ h
  refine r_aload_n C dX12_follow_161 rfl 0 rfl ?_
  refine r_iload_n C dX12_follow_162 rfl 1 rfl ?_
  refine r_iload_n C dX12_follow_163 rfl 2 rfl ?_
  obtain ⟨r_68, er_68, h⟩ := bdE h
  refine kX12_119 C (m_X12_ask er_68) (by decide) (Nat.le_of_ble_eq_true rfl) dX12_follow_164 ?_
  cases h
  exact r_iret C dX12_follow_167
def M_lawOf_J124 (B14 : Int32 → Int32 → Int32 → St → Option (Int32 × St)) (v1_23 : Int32) (v2_24 : Int32) (v3_25 : Int32) (v5_26 : Int32) (t_27 : Int32) (s_28 : St) : Option (Int32 × St) :=
  B14 v3_25 t_27 (v5_26 + 1) s_28
def M_lawOf_J53 (B14 : Int32 → Int32 → Int32 → St → Option (Int32 × St)) (v1_11 : Int32) (v2_12 : Int32) (v3_13 : Int32) (v4_14 : Int32) (v5_15 : Int32) (t_16 : Int32) (s_17 : St) : Option (Int32 × St) :=
  if inb v5_15 8 = true then Option.bind (M_answer (s_17.1 32 0 v5_15.toNatClampNeg) v2_12) (fun r_19 => if t_16 ≤ 0 then (M_lawOf_J124 B14 v1_11 v2_12 (v3_13 + t_16) v5_15 v4_14 (sX s_17 0 0 38 ((s_17.1 0 0 38) + (if r_19 = 1 then t_16 else 0 : Int32)))) else (if v4_14 < 0 then (M_lawOf_J124 B14 v1_11 v2_12 (v3_13 + t_16) v5_15 v5_15 (sX s_17 0 0 38 ((s_17.1 0 0 38) + (if r_19 = 1 then t_16 else 0 : Int32)))) else (if inb v5_15 8 = true then if inb v4_14 8 = true then B14 (v3_13 + t_16) (if ((sX s_17 0 0 38 ((s_17.1 0 0 38) + (if r_19 = 1 then t_16 else 0 : Int32))).1 14 0 v5_15.toNatClampNeg) ≤ ((sX s_17 0 0 38 ((s_17.1 0 0 38) + (if r_19 = 1 then t_16 else 0 : Int32))).1 14 0 v4_14.toNatClampNeg) then v4_14 else v5_15 : Int32) (v5_15 + 1) (sX s_17 0 0 38 ((s_17.1 0 0 38) + (if r_19 = 1 then t_16 else 0 : Int32))) else none else none))) else none
def M_lawOf_L14 (K132 : Int32 → Int32 → St → Option (Int32 × St)) (v1_1 : Int32) (v2_2 : Int32) : Nat → Int32 → Int32 → Int32 → St → Option (Int32 × St)
  | 0, _, _, _, _ => none
  | n + 1, v3_3, v4_4, v5_5, s_6 => if (s_6.1 0 0 12) ≤ v5_5 then (K132 v3_3 v4_4 s_6) else (Option.bind (M_sayingsOf v5_5 s_6) (fun r_8 => if r_8 = 0 then (M_lawOf_J53 (M_lawOf_L14 K132 v1_1 v2_2 n) v1_1 v2_2 v3_3 v4_4 v5_5 0 s_6) else (if v1_1 = 2 then (Option.bind (M_pupils v5_5 s_6) (fun r_42 => M_lawOf_J53 (M_lawOf_L14 K132 v1_1 v2_2 n) v1_1 v2_2 v3_3 v4_4 v5_5 (r_42 + 1) s_6)) else (M_lawOf_J53 (M_lawOf_L14 K132 v1_1 v2_2 n) v1_1 v2_2 v3_3 v4_4 v5_5 1 s_6))))
def M_lawOf (v1 : Int32) (v2 : Int32) (s0 : St) : Option (Int32 × St) :=
  M_lawOf_L14 (fun (v3_46 : Int32) (v4_47 : Int32) (s_48 : St) => if 0 ≤ v4_47 then (if v1 = 1 then (if inb v4_47 8 = true then Option.bind (M_answer ((sX s_48 0 0 38 v4_47).1 32 0 v4_47.toNatClampNeg) v2) (fun r_55 => some (r_55, sX s_48 0 0 38 v4_47)) else none) else (some ((if (2 * (s_48.1 0 0 38)) = v3_46 then (-9) else (if (2 * (s_48.1 0 0 38)) ≤ v3_46 then 0 else 1) : Int32), s_48))) else (some ((-9), s_48))) v1 v2 1100 0 (-9) 0 (sX s0 0 0 38 0)
set_option maxHeartbeats 4000000 in
set_option maxRecDepth 100000 in
theorem t_X12_lawOf_J124 {x : Ctx} {w : Wp} {v1_23 : Int32} {v2_24 : Int32} {v3_25 : Int32} {v5_26 : Int32} {t_27 : Int32} {s_28 : St} {z : Int32 × St}  {B14 : Int32 → Int32 → Int32 → St → Option (Int32 × St)} (hB14 : ∀ (u3_29 : Int32) (u4_30 : Int32) (u5_31 : Int32) (s_32 : St), B14 u3_29 u4_30 u5_31 s_32 = some z → V x WM w 7 (QM x WM w (some (.int z.1)) z.2) s_32 14 [(0, .ref (wa w 0 0)), (1, .int v1_23), (2, .int v2_24), (3, .int u3_29), (4, .int u4_30), (5, .int u5_31)] []) (C : Cx x WM w cX12_lawOf 7 RX12 3 (some .int)) (h : M_lawOf_J124 B14 v1_23 v2_24 v3_25 v5_26 t_27 s_28 = some z) : V x WM w 7 (QM x WM w (some (.int z.1)) z.2) s_28 124 [(0, .ref (wa w 0 0)), (1, .int v1_23), (2, .int v2_24), (3, .int v3_25), (5, .int v5_26)] [.int t_27] := by
  unfold M_lawOf_J124 at h
  refine r_istore C dX12_lawOf_124 (Nat.le_of_ble_eq_true rfl) (L' := [(4, _), (0, _), (1, _), (2, _), (3, _), (5, _)]) rfl ?_
  refine r_iinc (v := v5_26 + 1) C dX12_lawOf_126 (j := 5) rfl rfl (Nat.le_of_ble_eq_true rfl) (L' := [(5, _), (4, _), (0, _), (1, _), (2, _), (3, _)]) rfl ?_
  refine r_goto (tgt := 14) C dX12_lawOf_129 (by decide) ?_
  refine r_sub [2, 3, 4, 5, 1, 0] rfl ?_
  exact hB14 _ _ _ _ h
set_option maxHeartbeats 4000000 in
set_option maxRecDepth 100000 in
theorem t_X12_lawOf_J53 {x : Ctx} {w : Wp} {v1_11 : Int32} {v2_12 : Int32} {v3_13 : Int32} {v4_14 : Int32} {v5_15 : Int32} {t_16 : Int32} {s_17 : St} {z : Int32 × St}  {B14 : Int32 → Int32 → Int32 → St → Option (Int32 × St)} (hB14 : ∀ (u3_38 : Int32) (u4_39 : Int32) (u5_40 : Int32) (s_41 : St), B14 u3_38 u4_39 u5_40 s_41 = some z → V x WM w 7 (QM x WM w (some (.int z.1)) z.2) s_41 14 [(0, .ref (wa w 0 0)), (1, .int v1_11), (2, .int v2_12), (3, .int u3_38), (4, .int u4_39), (5, .int u5_40)] []) (C : Cx x WM w cX12_lawOf 7 RX12 3 (some .int)) (h : M_lawOf_J53 B14 v1_11 v2_12 v3_13 v4_14 v5_15 t_16 s_17 = some z) : V x WM w 7 (QM x WM w (some (.int z.1)) z.2) s_17 53 [(0, .ref (wa w 0 0)), (1, .int v1_11), (2, .int v2_12), (3, .int v3_13), (4, .int v4_14), (5, .int v5_15)] [.int t_16] := by
  unfold M_lawOf_J53 at h
  refine r_istore C dX12_lawOf_53 (Nat.le_of_ble_eq_true rfl) (L' := [(6, _), (0, _), (1, _), (2, _), (3, _), (4, _), (5, _)]) rfl ?_
  refine r_iload_n C dX12_lawOf_55 rfl 4 rfl ?_
  refine r_iload C dX12_lawOf_56 0 rfl ?_
  refine r_iadd C dX12_lawOf_58 ?_
  refine r_istore_n C dX12_lawOf_59 rfl (Nat.le_of_ble_eq_true rfl) (L' := [(3, _), (6, _), (0, _), (1, _), (2, _), (4, _), (5, _)]) rfl ?_
  refine r_aload_n C dX12_lawOf_60 rfl 2 rfl ?_
  refine r_dup C dX12_lawOf_61 rfl ?_
  refine gfX12_274 C dX12_lawOf_62 ?_
  refine r_aload_n C dX12_lawOf_65 rfl 2 rfl ?_
  refine gfX12_72 C dX12_lawOf_66 ?_
  refine r_iload C dX12_lawOf_69 6 rfl ?_
  obtain ⟨g_18, h⟩ := gdE h
  refine ldM_32 C g_18 dX12_lawOf_71 ?_
  refine r_iload_n C dX12_lawOf_72 rfl 4 rfl ?_
  obtain ⟨r_19, er_19, h⟩ := bdE h
  refine kX12_193 C (m_X12_answer er_19) (by decide) (Nat.le_of_ble_eq_true rfl) dX12_lawOf_73 ?_
  refine r_iconst (v := 1) C dX12_lawOf_76 (by decide) ?_
  refine r_em (st := [.int (s_17.1 0 0 38), .ref (wa w 0 0)]) 86 ((if r_19 = 1 then t_16 else 0 : Int32)) (fun hM_21 => ?_) ?_
  · refine r_icmp_ne (tgt := 85) C dX12_lawOf_77 (by decide) (fun c_20 => ?_) (fun c_20 => ?_)
    · refine r_iconst (v := 0) C dX12_lawOf_85 (by decide) ?_
      exact (em_neg c_20 hM_21)
    · refine r_iload C dX12_lawOf_80 1 rfl ?_
      refine r_goto (tgt := 86) C dX12_lawOf_82 (by decide) ?_
      exact (em_pos c_20 hM_21)
  refine r_iadd C dX12_lawOf_86 ?_
  refine pfX12_274 C dX12_lawOf_87 ?_
  refine r_iload C dX12_lawOf_90 1 rfl ?_
  refine r_if_le (tgt := 122) C dX12_lawOf_92 (by decide) (fun c_22 => ?_) (fun c_22 => ?_)
  · have h := ip h c_22
    refine r_iload C dX12_lawOf_122 5 rfl ?_
    refine r_sub [2, 3, 4, 0, 6] rfl ?_
    exact t_X12_lawOf_J124 hB14 C h
  · have h := iq h c_22
    refine r_iload C dX12_lawOf_95 5 rfl ?_
    refine r_if_lt (tgt := 117) C dX12_lawOf_97 (by decide) (fun c_33 => ?_) (fun c_33 => ?_)
    · have h := ip h c_33
      refine r_iload C dX12_lawOf_117 6 rfl ?_
      refine r_goto (tgt := 124) C dX12_lawOf_119 (by decide) ?_
      refine r_sub [2, 3, 4, 0, 6] rfl ?_
      exact t_X12_lawOf_J124 hB14 C h
    · have h := iq h c_33
      refine r_aload_n C dX12_lawOf_100 rfl 2 rfl ?_
      refine gfX12_38 C dX12_lawOf_101 ?_
      refine r_iload C dX12_lawOf_104 6 rfl ?_
      obtain ⟨g_34, h⟩ := gdE h
      refine ldM_14 C g_34 dX12_lawOf_106 ?_
      refine r_aload_n C dX12_lawOf_107 rfl 2 rfl ?_
      refine gfX12_38 C dX12_lawOf_108 ?_
      refine r_iload C dX12_lawOf_111 5 rfl ?_
      obtain ⟨g_35, h⟩ := gdE h
      refine ldM_14 C g_35 dX12_lawOf_113 ?_
      refine r_em (st := []) 124 ((if ((sX s_17 0 0 38 ((s_17.1 0 0 38) + (if r_19 = 1 then t_16 else 0 : Int32))).1 14 0 v5_15.toNatClampNeg) ≤ ((sX s_17 0 0 38 ((s_17.1 0 0 38) + (if r_19 = 1 then t_16 else 0 : Int32))).1 14 0 v4_14.toNatClampNeg) then v4_14 else v5_15 : Int32)) (fun hM_37 => ?_) ?_
      · refine r_icmp_le (tgt := 122) C dX12_lawOf_114 (by decide) (fun c_36 => ?_) (fun c_36 => ?_)
        · refine r_iload C dX12_lawOf_122 5 rfl ?_
          exact (em_pos c_36 hM_37)
        · refine r_iload C dX12_lawOf_117 6 rfl ?_
          refine r_goto (tgt := 124) C dX12_lawOf_119 (by decide) ?_
          exact (em_neg c_36 hM_37)
      refine r_istore C dX12_lawOf_124 (Nat.le_of_ble_eq_true rfl) (L' := [(4, _), (3, _), (6, _), (0, _), (1, _), (2, _), (5, _)]) rfl ?_
      refine r_iinc (v := v5_15 + 1) C dX12_lawOf_126 (j := 6) rfl rfl (Nat.le_of_ble_eq_true rfl) (L' := [(5, _), (4, _), (3, _), (6, _), (0, _), (1, _), (2, _)]) rfl ?_
      refine r_goto (tgt := 14) C dX12_lawOf_129 (by decide) ?_
      refine r_sub [4, 5, 6, 2, 1, 0] rfl ?_
      exact hB14 _ _ _ _ h
set_option maxHeartbeats 4000000 in
set_option maxRecDepth 100000 in
theorem t_X12_lawOf_L14 {x : Ctx} {w : Wp} {v1_1 : Int32} {v2_2 : Int32} {z : Int32 × St}  {K132 : Int32 → Int32 → St → Option (Int32 × St)} (hK132 : ∀ (u3_43 : Int32) (u4_44 : Int32) (s_45 : St), K132 u3_43 u4_44 s_45 = some z → V x WM w 7 (QM x WM w (some (.int z.1)) z.2) s_45 132 [(0, .ref (wa w 0 0)), (1, .int v1_1), (2, .int v2_2), (3, .int u3_43), (4, .int u4_44)] []) (C : Cx x WM w cX12_lawOf 7 RX12 3 (some .int)) : ∀ (n : Nat) (v3_3 : Int32) (v4_4 : Int32) (v5_5 : Int32) (s_6 : St), M_lawOf_L14 K132 v1_1 v2_2 n v3_3 v4_4 v5_5 s_6 = some z → V x WM w 7 (QM x WM w (some (.int z.1)) z.2) s_6 14 [(0, .ref (wa w 0 0)), (1, .int v1_1), (2, .int v2_2), (3, .int v3_3), (4, .int v4_4), (5, .int v5_5)] [] := by
  intro n
  induction n with
  | zero => intro v3_3 v4_4 v5_5 s_6 h; cases h
  | succ n ih =>
    intro v3_3 v4_4 v5_5 s_6 h
    unfold M_lawOf_L14 at h
    refine r_iload C dX12_lawOf_14 5 rfl ?_
    refine r_aload_n C dX12_lawOf_16 rfl 0 rfl ?_
    refine gfX12_128 C dX12_lawOf_17 ?_
    refine r_icmp_ge (tgt := 132) C dX12_lawOf_20 (by decide) (fun c_7 => ?_) (fun c_7 => ?_)
    · have h := ip h c_7
      refine r_sub [0, 1, 2, 3, 4] rfl ?_
      exact hK132 _ _ _ h
    · have h := iq h c_7
      refine r_aload_n C dX12_lawOf_23 rfl 0 rfl ?_
      refine r_iload C dX12_lawOf_24 5 rfl ?_
      obtain ⟨r_8, er_8, h⟩ := bdE h
      refine kX12_150 C (m_X12_sayingsOf er_8) (by decide) (Nat.le_of_ble_eq_true rfl) dX12_lawOf_26 ?_
      refine r_if_ne (tgt := 36) C dX12_lawOf_29 (by decide) (fun c_9 => ?_) (fun c_9 => ?_)
      · have h := iq h c_9
        refine r_iload_n C dX12_lawOf_36 rfl 1 rfl ?_
        refine r_iconst (v := 2) C dX12_lawOf_37 (by decide) ?_
        refine r_icmp_ne (tgt := 52) C dX12_lawOf_38 (by decide) (fun c_10 => ?_) (fun c_10 => ?_)
        · have h := iq h c_10
          refine r_iconst (v := 1) C dX12_lawOf_52 (by decide) ?_
          refine r_sub [0, 1, 2, 3, 4, 5] rfl ?_
          exact t_X12_lawOf_J53 ih C h
        · have h := ip h c_10
          refine r_aload_n C dX12_lawOf_41 rfl 0 rfl ?_
          refine r_iload C dX12_lawOf_42 5 rfl ?_
          obtain ⟨r_42, er_42, h⟩ := bdE h
          refine kX12_163 C (m_X12_pupils er_42) (by decide) (Nat.le_of_ble_eq_true rfl) dX12_lawOf_44 ?_
          refine r_iconst (v := 1) C dX12_lawOf_47 (by decide) ?_
          refine r_iadd C dX12_lawOf_48 ?_
          refine r_goto (tgt := 53) C dX12_lawOf_49 (by decide) ?_
          refine r_sub [0, 1, 2, 3, 4, 5] rfl ?_
          exact t_X12_lawOf_J53 ih C h
      · have h := ip h c_9
        refine r_iconst (v := 0) C dX12_lawOf_32 (by decide) ?_
        refine r_goto (tgt := 53) C dX12_lawOf_33 (by decide) ?_
        refine r_sub [0, 1, 2, 3, 4, 5] rfl ?_
        exact t_X12_lawOf_J53 ih C h
set_option maxHeartbeats 4000000 in
set_option maxRecDepth 100000 in
theorem m_X12_lawOf {l : Launch} {w : Wp} {v1 : Int32} {v2 : Int32}  {s0 : St} {z : Int32 × St} (h : M_lawOf v1 v2 s0 = some z) : Cm l yX12_lawOf (.code yX12_lawOf cX12_lawOf 7 (some .int)) 3 WM w [.ref (wa w 0 0), .int v1, .int v2] s0 (some (.int z.1)) z.2 := by
  refine Cm.of (own := RX12) (by decide +kernel) rfl (Nat.le_of_ble_eq_true rfl) (L := [(0, .ref (wa w 0 0)), (1, .int v1), (2, .int v2)]) rfl KoM (fun x hl C => ?_)
  subst hl
  unfold M_lawOf at h
  refine r_iconst (v := 0) C dX12_lawOf_0 (by decide) ?_
  refine r_istore_n C dX12_lawOf_1 rfl (Nat.le_of_ble_eq_true rfl) (L' := [(3, _), (0, _), (1, _), (2, _)]) rfl ?_
  refine r_bipush (v := (-9)) C dX12_lawOf_2 (by decide) ?_
  refine r_istore C dX12_lawOf_4 (Nat.le_of_ble_eq_true rfl) (L' := [(4, _), (3, _), (0, _), (1, _), (2, _)]) rfl ?_
  refine r_aload_n C dX12_lawOf_6 rfl 2 rfl ?_
  refine r_iconst (v := 0) C dX12_lawOf_7 (by decide) ?_
  refine pfX12_274 C dX12_lawOf_8 ?_
  refine r_iconst (v := 0) C dX12_lawOf_11 (by decide) ?_
  refine r_istore C dX12_lawOf_12 (Nat.le_of_ble_eq_true rfl) (L' := [(5, _), (4, _), (3, _), (0, _), (1, _), (2, _)]) rfl ?_
  refine r_sub [3, 4, 5, 2, 1, 0] rfl ?_
  refine t_X12_lawOf_L14 (fun v3_46 v4_47 s_48 h => ?_) C _ _ _ _ _ h
  refine r_iload C dX12_lawOf_132 4 rfl ?_
  refine r_if_ge (tgt := 140) C dX12_lawOf_134 (by decide) (fun c_49 => ?_) (fun c_49 => ?_)
  · have h := ip h c_49
    refine r_iload_n C dX12_lawOf_140 rfl 1 rfl ?_
    refine r_iconst (v := 1) C dX12_lawOf_141 (by decide) ?_
    refine r_icmp_ne (tgt := 163) C dX12_lawOf_142 (by decide) (fun c_50 => ?_) (fun c_50 => ?_)
    · have h := iq h c_50
      refine r_iconst (v := 2) C dX12_lawOf_163 (by decide) ?_
      refine r_aload_n C dX12_lawOf_164 rfl 0 rfl ?_
      refine gfX12_274 C dX12_lawOf_165 ?_
      refine r_imul C dX12_lawOf_168 ?_
      refine r_iload_n C dX12_lawOf_169 rfl 3 rfl ?_
      refine r_em (st := []) 193 ((if (2 * (s_48.1 0 0 38)) = v3_46 then (-9) else (if (2 * (s_48.1 0 0 38)) ≤ v3_46 then 0 else 1) : Int32)) (fun hM_53 => ?_) ?_
      · refine r_icmp_ne (tgt := 178) C dX12_lawOf_170 (by decide) (fun c_52 => ?_) (fun c_52 => ?_)
        · refine r_iconst (v := 2) C dX12_lawOf_178 (by decide) ?_
          refine r_aload_n C dX12_lawOf_179 rfl 0 rfl ?_
          refine gfX12_274 C dX12_lawOf_180 ?_
          refine r_imul C dX12_lawOf_183 ?_
          refine r_iload_n C dX12_lawOf_184 rfl 3 rfl ?_
          refine r_icmp_le (tgt := 192) C dX12_lawOf_185 (by decide) (fun c_51 => ?_) (fun c_51 => ?_)
          · refine r_iconst (v := 0) C dX12_lawOf_192 (by decide) ?_
            exact (em_pos c_51 (em_neg c_52 hM_53))
          · refine r_iconst (v := 1) C dX12_lawOf_188 (by decide) ?_
            refine r_goto (tgt := 193) C dX12_lawOf_189 (by decide) ?_
            exact (em_neg c_51 (em_neg c_52 hM_53))
        · refine r_bipush (v := (-9)) C dX12_lawOf_173 (by decide) ?_
          refine r_goto (tgt := 193) C dX12_lawOf_175 (by decide) ?_
          exact (em_pos c_52 hM_53)
      cases h
      exact r_iret C dX12_lawOf_193
    · have h := ip h c_50
      refine r_aload_n C dX12_lawOf_145 rfl 0 rfl ?_
      refine r_iload C dX12_lawOf_146 4 rfl ?_
      refine pfX12_274 C dX12_lawOf_148 ?_
      refine r_aload_n C dX12_lawOf_151 rfl 0 rfl ?_
      refine gfX12_72 C dX12_lawOf_152 ?_
      refine r_iload C dX12_lawOf_155 4 rfl ?_
      obtain ⟨g_54, h⟩ := gdE h
      refine ldM_32 C g_54 dX12_lawOf_157 ?_
      refine r_iload_n C dX12_lawOf_158 rfl 2 rfl ?_
      obtain ⟨r_55, er_55, h⟩ := bdE h
      refine kX12_193 C (m_X12_answer er_55) (by decide) (Nat.le_of_ble_eq_true rfl) dX12_lawOf_159 ?_
      cases h
      exact r_iret C dX12_lawOf_162
  · have h := iq h c_49
    refine r_bipush (v := (-9)) C dX12_lawOf_137 (by decide) ?_
    cases h
    exact r_iret C dX12_lawOf_139
def M_isBy (v0 : Int32) : Int32 :=
  M_in v0 0 2
set_option maxHeartbeats 4000000 in
set_option maxRecDepth 100000 in
theorem m_X12_isBy {l : Launch} {w : Wp} {v0 : Int32}  {s0 : St} {z : Int32} (h : M_isBy v0 = z) : Cm l yX12_isBy (.code yX12_isBy cX12_isBy 1 (some .boolean)) 1 WM w [.int v0] s0 (some (.int z)) s0 := by
  refine Cm.of (own := RX12) (by decide +kernel) rfl (Nat.le_of_ble_eq_true rfl) (L := [(0, .int v0)]) rfl KoM (fun x hl C => ?_)
  subst hl
  unfold M_isBy at h
  refine r_iload_n C dX12_isBy_0 rfl 0 rfl ?_
  refine r_iconst (v := 0) C dX12_isBy_1 (by decide) ?_
  refine r_iconst (v := 2) C dX12_isBy_2 (by decide) ?_
  refine kX12_97 C (m_X12_in rfl) (by decide) (Nat.le_of_ble_eq_true rfl) dX12_isBy_3 ?_
  subst h
  exact r_zret C nb_X12_in dX12_isBy_6
theorem nb_X12_isBy {v0 : Int32} : narrow .boolean (.int (M_isBy v0)) = .int (M_isBy v0) := by
  unfold M_isBy
  exact nb_X12_in
def M_law (v1 : Int32) (v2 : Int32) (s0 : St) : Option (Int32 × St) :=
  if (M_isBy v1) = 0 then (some ((-1), s0)) else (if (M_isSet v2) = 0 then (some ((-1), s0)) else (Option.bind (M_setRules s0) (fun r_3 => Option.bind (M_lawOf v1 v2 r_3) (fun r_4 => if r_4.1 = (-9) then (some ((-9), r_4.2)) else (Option.bind (M_ask (r_4.2.1 0 0 38) r_4.1 r_4.2) (fun r_6 => some (r_6.1, r_6.2)))))))
set_option maxHeartbeats 4000000 in
set_option maxRecDepth 100000 in
theorem m_X12_law {l : Launch} {w : Wp} {v1 : Int32} {v2 : Int32}  {s0 : St} {z : Int32 × St} (h : M_law v1 v2 s0 = some z) : Cm l yX12_law (.code yX12_law cX12_law 4 (some .int)) 8 WM w [.ref (wa w 0 0), .int v1, .int v2] s0 (some (.int z.1)) z.2 := by
  refine Cm.of (own := RX12) (by decide +kernel) rfl (Nat.le_of_ble_eq_true rfl) (L := [(0, .ref (wa w 0 0)), (1, .int v1), (2, .int v2)]) rfl KoM (fun x hl C => ?_)
  subst hl
  unfold M_law at h
  refine r_iload_n C dX12_law_0 rfl 1 rfl ?_
  refine kX12_277 C (m_X12_isBy rfl) (by decide) (Nat.le_of_ble_eq_true rfl) dX12_law_1 ?_
  refine r_if_eq (tgt := 14) C dX12_law_4 (by decide) (fun c_1 => ?_) (fun c_1 => ?_)
  · have h := ip h c_1
    refine r_iconst (v := (-1)) C dX12_law_14 (by decide) ?_
    cases h
    exact r_iret C dX12_law_15
  · have h := iq h c_1
    refine r_iload_n C dX12_law_7 rfl 2 rfl ?_
    refine kX12_134 C (m_X12_isSet rfl) (by decide) (Nat.le_of_ble_eq_true rfl) dX12_law_8 ?_
    refine r_if_ne (tgt := 16) C dX12_law_11 (by decide) (fun c_2 => ?_) (fun c_2 => ?_)
    · have h := iq h c_2
      refine r_aload_n C dX12_law_16 rfl 0 rfl ?_
      obtain ⟨r_3, er_3, h⟩ := bdE h
      refine kX12_237 C (m_X12_setRules er_3) (by decide) (Nat.le_of_ble_eq_true rfl) dX12_law_17 ?_
      refine r_aload_n C dX12_law_20 rfl 0 rfl ?_
      refine r_iload_n C dX12_law_21 rfl 1 rfl ?_
      refine r_iload_n C dX12_law_22 rfl 2 rfl ?_
      obtain ⟨r_4, er_4, h⟩ := bdE h
      refine kX12_280 C (m_X12_lawOf er_4) (by decide) (Nat.le_of_ble_eq_true rfl) dX12_law_23 ?_
      refine r_istore_n C dX12_law_26 rfl (Nat.le_of_ble_eq_true rfl) (L' := [(3, _), (0, _), (1, _), (2, _)]) rfl ?_
      refine r_iload_n C dX12_law_27 rfl 0 rfl ?_
      refine r_bipush (v := (-9)) C dX12_law_28 (by decide) ?_
      refine r_icmp_ne (tgt := 38) C dX12_law_30 (by decide) (fun c_5 => ?_) (fun c_5 => ?_)
      · have h := iq h c_5
        refine r_aload_n C dX12_law_38 rfl 1 rfl ?_
        refine r_aload_n C dX12_law_39 rfl 1 rfl ?_
        refine gfX12_274 C dX12_law_40 ?_
        refine r_iload_n C dX12_law_43 rfl 0 rfl ?_
        obtain ⟨r_6, er_6, h⟩ := bdE h
        refine kX12_119 C (m_X12_ask er_6) (by decide) (Nat.le_of_ble_eq_true rfl) dX12_law_44 ?_
        cases h
        exact r_iret C dX12_law_47
      · have h := ip h c_5
        refine r_bipush (v := (-9)) C dX12_law_33 (by decide) ?_
        refine r_goto (tgt := 47) C dX12_law_35 (by decide) ?_
        cases h
        exact r_iret C dX12_law_47
    · have h := ip h c_2
      refine r_iconst (v := (-1)) C dX12_law_14 (by decide) ?_
      cases h
      exact r_iret C dX12_law_15
def M_lawsPart_L25  (v1_4 : Int32) (v2_5 : Int32) : Nat → Int32 → Int32 → St → Option (Int32 × St)
  | 0, _, _, _ => none
  | n + 1, v3_6, v4_7, s_8 => if 32 ≤ v4_7 then (some (v3_6, s_8)) else (Option.bind (M_lawOf v1_4 v4_7 s_8) (fun r_10 => Option.bind (M_lawOf v2_5 v4_7 r_10.2) (fun r_11 => (M_lawsPart_L25 v1_4 v2_5 n) (v3_6 + (if r_10.1 = r_11.1 then 0 else 1 : Int32)) (v4_7 + 1) r_11.2)))
def M_lawsPart (v1 : Int32) (v2 : Int32) (s0 : St) : Option (Int32 × St) :=
  if (M_isBy v1) = 0 then (some ((-1), s0)) else (if (M_isBy v2) = 0 then (some ((-1), s0)) else (Option.bind (M_setRules s0) (fun r_3 => M_lawsPart_L25 v1 v2 1100 0 0 r_3)))
set_option maxHeartbeats 4000000 in
set_option maxRecDepth 100000 in
theorem t_X12_lawsPart_L25 {x : Ctx} {w : Wp} {v1_4 : Int32} {v2_5 : Int32} {z : Int32 × St}    (C : Cx x WM w cX12_lawsPart 5 RX12 8 (some .int)) : ∀ (n : Nat) (v3_6 : Int32) (v4_7 : Int32) (s_8 : St), M_lawsPart_L25 v1_4 v2_5 n v3_6 v4_7 s_8 = some z → V x WM w 5 (QM x WM w (some (.int z.1)) z.2) s_8 25 [(0, .ref (wa w 0 0)), (1, .int v1_4), (2, .int v2_5), (3, .int v3_6), (4, .int v4_7)] [] := by
  intro n
  induction n with
  | zero => intro v3_6 v4_7 s_8 h; cases h
  | succ n ih =>
    intro v3_6 v4_7 s_8 h
    unfold M_lawsPart_L25 at h
    refine r_iload C dX12_lawsPart_25 4 rfl ?_
    refine r_bipush (v := 32) C dX12_lawsPart_27 (by decide) ?_
    refine r_icmp_ge (tgt := 63) C dX12_lawsPart_29 (by decide) (fun c_9 => ?_) (fun c_9 => ?_)
    · have h := ip h c_9
      refine r_iload_n C dX12_lawsPart_63 rfl 3 rfl ?_
      cases h
      exact r_iret C dX12_lawsPart_64
    · have h := iq h c_9
      refine r_iload_n C dX12_lawsPart_32 rfl 3 rfl ?_
      refine r_aload_n C dX12_lawsPart_33 rfl 0 rfl ?_
      refine r_iload_n C dX12_lawsPart_34 rfl 1 rfl ?_
      refine r_iload C dX12_lawsPart_35 4 rfl ?_
      obtain ⟨r_10, er_10, h⟩ := bdE h
      refine kX12_280 C (m_X12_lawOf er_10) (by decide) (Nat.le_of_ble_eq_true rfl) dX12_lawsPart_37 ?_
      refine r_aload_n C dX12_lawsPart_40 rfl 0 rfl ?_
      refine r_iload_n C dX12_lawsPart_41 rfl 2 rfl ?_
      refine r_iload C dX12_lawsPart_42 4 rfl ?_
      obtain ⟨r_11, er_11, h⟩ := bdE h
      refine kX12_280 C (m_X12_lawOf er_11) (by decide) (Nat.le_of_ble_eq_true rfl) dX12_lawsPart_44 ?_
      refine r_em (st := [.int v3_6]) 55 ((if r_10.1 = r_11.1 then 0 else 1 : Int32)) (fun hM_13 => ?_) ?_
      · refine r_icmp_eq (tgt := 54) C dX12_lawsPart_47 (by decide) (fun c_12 => ?_) (fun c_12 => ?_)
        · refine r_iconst (v := 0) C dX12_lawsPart_54 (by decide) ?_
          exact (em_pos c_12 hM_13)
        · refine r_iconst (v := 1) C dX12_lawsPart_50 (by decide) ?_
          refine r_goto (tgt := 55) C dX12_lawsPart_51 (by decide) ?_
          exact (em_neg c_12 hM_13)
      refine r_iadd C dX12_lawsPart_55 ?_
      refine r_istore_n C dX12_lawsPart_56 rfl (Nat.le_of_ble_eq_true rfl) (L' := [(3, _), (0, _), (1, _), (2, _), (4, _)]) rfl ?_
      refine r_iinc (v := v4_7 + 1) C dX12_lawsPart_57 (j := 4) rfl rfl (Nat.le_of_ble_eq_true rfl) (L' := [(4, _), (3, _), (0, _), (1, _), (2, _)]) rfl ?_
      refine r_goto (tgt := 25) C dX12_lawsPart_60 (by decide) ?_
      refine r_sub [2, 3, 4, 1, 0] rfl ?_
      exact ih _ _ _ h
set_option maxHeartbeats 4000000 in
set_option maxRecDepth 100000 in
theorem m_X12_lawsPart {l : Launch} {w : Wp} {v1 : Int32} {v2 : Int32}  {s0 : St} {z : Int32 × St} (h : M_lawsPart v1 v2 s0 = some z) : Cm l yX12_lawsPart (.code yX12_lawsPart cX12_lawsPart 5 (some .int)) 8 WM w [.ref (wa w 0 0), .int v1, .int v2] s0 (some (.int z.1)) z.2 := by
  refine Cm.of (own := RX12) (by decide +kernel) rfl (Nat.le_of_ble_eq_true rfl) (L := [(0, .ref (wa w 0 0)), (1, .int v1), (2, .int v2)]) rfl KoM (fun x hl C => ?_)
  subst hl
  unfold M_lawsPart at h
  refine r_iload_n C dX12_lawsPart_0 rfl 1 rfl ?_
  refine kX12_277 C (m_X12_isBy rfl) (by decide) (Nat.le_of_ble_eq_true rfl) dX12_lawsPart_1 ?_
  refine r_if_eq (tgt := 14) C dX12_lawsPart_4 (by decide) (fun c_1 => ?_) (fun c_1 => ?_)
  · have h := ip h c_1
    refine r_iconst (v := (-1)) C dX12_lawsPart_14 (by decide) ?_
    cases h
    exact r_iret C dX12_lawsPart_15
  · have h := iq h c_1
    refine r_iload_n C dX12_lawsPart_7 rfl 2 rfl ?_
    refine kX12_277 C (m_X12_isBy rfl) (by decide) (Nat.le_of_ble_eq_true rfl) dX12_lawsPart_8 ?_
    refine r_if_ne (tgt := 16) C dX12_lawsPart_11 (by decide) (fun c_2 => ?_) (fun c_2 => ?_)
    · have h := iq h c_2
      refine r_aload_n C dX12_lawsPart_16 rfl 0 rfl ?_
      obtain ⟨r_3, er_3, h⟩ := bdE h
      refine kX12_237 C (m_X12_setRules er_3) (by decide) (Nat.le_of_ble_eq_true rfl) dX12_lawsPart_17 ?_
      refine r_iconst (v := 0) C dX12_lawsPart_20 (by decide) ?_
      refine r_istore_n C dX12_lawsPart_21 rfl (Nat.le_of_ble_eq_true rfl) (L' := [(3, _), (0, _), (1, _), (2, _)]) rfl ?_
      refine r_iconst (v := 0) C dX12_lawsPart_22 (by decide) ?_
      refine r_istore C dX12_lawsPart_23 (Nat.le_of_ble_eq_true rfl) (L' := [(4, _), (3, _), (0, _), (1, _), (2, _)]) rfl ?_
      refine r_sub [2, 3, 4, 1, 0] rfl ?_
      exact t_X12_lawsPart_L25 C _ _ _ _ h
    · have h := ip h c_2
      refine r_iconst (v := (-1)) C dX12_lawsPart_14 (by decide) ?_
      cases h
      exact r_iret C dX12_lawsPart_15
def M_fresh (v1 : Int32) (v2 : Int32) (s0 : St) : Option (Int32 × St) :=
  if (M_isMaster v1 s0) = 0 then (some ((-1), s0)) else (if (M_isSet v2) = 0 then (some ((-1), s0)) else (Option.bind (M_freshOf v1 v2 s0) (fun r_3 => some (r_3.1, r_3.2))))
set_option maxHeartbeats 4000000 in
set_option maxRecDepth 100000 in
theorem m_X12_fresh {l : Launch} {w : Wp} {v1 : Int32} {v2 : Int32}  {s0 : St} {z : Int32 × St} (h : M_fresh v1 v2 s0 = some z) : Cm l yX12_fresh (.code yX12_fresh cX12_fresh 3 (some .int)) 8 WM w [.ref (wa w 0 0), .int v1, .int v2] s0 (some (.int z.1)) z.2 := by
  refine Cm.of (own := RX12) (by decide +kernel) rfl (Nat.le_of_ble_eq_true rfl) (L := [(0, .ref (wa w 0 0)), (1, .int v1), (2, .int v2)]) rfl KoM (fun x hl C => ?_)
  subst hl
  unfold M_fresh at h
  refine r_aload_n C dX12_fresh_0 rfl 0 rfl ?_
  refine r_iload_n C dX12_fresh_1 rfl 1 rfl ?_
  refine kX12_137 C (m_X12_isMaster rfl) (by decide) (Nat.le_of_ble_eq_true rfl) dX12_fresh_2 ?_
  refine r_if_eq (tgt := 24) C dX12_fresh_5 (by decide) (fun c_1 => ?_) (fun c_1 => ?_)
  · have h := ip h c_1
    refine r_iconst (v := (-1)) C dX12_fresh_24 (by decide) ?_
    cases h
    exact r_iret C dX12_fresh_25
  · have h := iq h c_1
    refine r_iload_n C dX12_fresh_8 rfl 2 rfl ?_
    refine kX12_134 C (m_X12_isSet rfl) (by decide) (Nat.le_of_ble_eq_true rfl) dX12_fresh_9 ?_
    refine r_if_eq (tgt := 24) C dX12_fresh_12 (by decide) (fun c_2 => ?_) (fun c_2 => ?_)
    · have h := ip h c_2
      refine r_iconst (v := (-1)) C dX12_fresh_24 (by decide) ?_
      cases h
      exact r_iret C dX12_fresh_25
    · have h := iq h c_2
      refine r_aload_n C dX12_fresh_15 rfl 0 rfl ?_
      refine r_iload_n C dX12_fresh_16 rfl 1 rfl ?_
      refine r_iload_n C dX12_fresh_17 rfl 2 rfl ?_
      obtain ⟨r_3, er_3, h⟩ := bdE h
      refine kX12_246 C (m_X12_freshOf er_3) (by decide) (Nat.le_of_ble_eq_true rfl) dX12_fresh_18 ?_
      refine r_goto (tgt := 25) C dX12_fresh_21 (by decide) ?_
      cases h
      exact r_iret C dX12_fresh_25
def M_next_L4 (K23 : St → Option (Int32 × St)) (v1_1 : Int32) : Nat → Int32 → St → Option (Int32 × St)
  | 0, _, _ => none
  | n + 1, v2_2, s_3 => if 32 ≤ v2_2 then (K23 s_3) else (if inb v2_2 32 = true then (M_next_L4 K23 v1_1 n) (v2_2 + 1) (sX s_3 39 0 v2_2.toNatClampNeg 0) else none)
def M_next_J85 (B25 : Int32 → Int32 → St → Option (Int32 × St)) (v1_14 : Int32) (v2_15 : Int32)  (s_16 : St) : Option (Int32 × St) :=
  B25 v1_14 (v2_15 + 1) s_16
def M_next_L50 (K85 : St → Option (Int32 × St)) (v1_21 : Int32) (v2_22 : Int32) : Nat → Int32 → St → Option (Int32 × St)
  | 0, _, _ => none
  | n + 1, v3_23, s_24 => if 32 ≤ v3_23 then (K85 s_24) else (if inb v3_23 32 = true then Option.bind (M_freshNow v3_23 s_24) (fun r_27 => if inb v3_23 32 = true then (M_next_L50 K85 v1_21 v2_22 n) (v3_23 + 1) (sX s_24 39 0 v3_23.toNatClampNeg ((s_24.1 39 0 v3_23.toNatClampNeg) + (if r_27 = 2 then 1 else 0 : Int32))) else none) else none)
def M_next_L25 (K91 : Int32 → St → Option (Int32 × St))  : Nat → Int32 → Int32 → St → Option (Int32 × St)
  | 0, _, _, _ => none
  | n + 1, v1_8, v2_9, s_10 => if (s_10.1 0 0 12) ≤ v2_9 then (K91 v1_8 s_10) else (Option.bind (M_sayingsOf v2_9 s_10) (fun r_12 => if r_12 ≤ 0 then (M_next_J85 (M_next_L25 K91 n) v1_8 v2_9 s_10) else (Option.bind (M_setCheap v2_9 s_10) (fun r_20 => M_next_L50 (fun (s_32 : St) => M_next_J85 (M_next_L25 K91 n) 1 v2_9 s_32) 1 v2_9 1100 0 r_20))))
def M_next_L95 (K128 : Int32 → St → Option (Int32 × St)) (v1_37 : Int32) : Nat → Int32 → Int32 → St → Option (Int32 × St)
  | 0, _, _, _ => none
  | n + 1, v2_38, v3_39, s_40 => if 32 ≤ v3_39 then (K128 v2_38 s_40) else (if inb v3_39 32 = true then if inb v2_38 32 = true then (M_next_L95 K128 v1_37 n) (if (s_40.1 39 0 v3_39.toNatClampNeg) ≤ (s_40.1 39 0 v2_38.toNatClampNeg) then v2_38 else v3_39 : Int32) (v3_39 + 1) s_40 else none else none)
def M_next  (s0 : St) : Option (Int32 × St) :=
  M_next_L4 (fun (s_7 : St) => M_next_L25 (fun (v1_35 : Int32) (s_36 : St) => M_next_L95 (fun (v2_48 : Int32) (s_49 : St) => if v1_35 = 0 then (some ((-9), s_49)) else (if inb v2_48 32 = true then Option.bind (M_ask (s_49.1 39 0 v2_48.toNatClampNeg) v2_48 s_49) (fun r_52 => some (r_52.1, r_52.2)) else none)) v1_35 1100 0 1 s_36) 1100 0 0 s_7) 0 1100 0 s0
set_option maxHeartbeats 4000000 in
set_option maxRecDepth 100000 in
theorem t_X12_next_L4 {x : Ctx} {w : Wp} {v1_1 : Int32} {z : Int32 × St}  {K23 : St → Option (Int32 × St)} (hK23 : ∀ (s_6 : St), K23 s_6 = some z → V x WM w 4 (QM x WM w (some (.int z.1)) z.2) s_6 23 [(0, .ref (wa w 0 0)), (1, .int v1_1)] []) (C : Cx x WM w cX12_next 4 RX12 7 (some .int)) : ∀ (n : Nat) (v2_2 : Int32) (s_3 : St), M_next_L4 K23 v1_1 n v2_2 s_3 = some z → V x WM w 4 (QM x WM w (some (.int z.1)) z.2) s_3 4 [(0, .ref (wa w 0 0)), (1, .int v1_1), (2, .int v2_2)] [] := by
  intro n
  induction n with
  | zero => intro v2_2 s_3 h; cases h
  | succ n ih =>
    intro v2_2 s_3 h
    unfold M_next_L4 at h
    refine r_iload_n C dX12_next_4 rfl 2 rfl ?_
    refine r_bipush (v := 32) C dX12_next_5 (by decide) ?_
    refine r_icmp_ge (tgt := 23) C dX12_next_7 (by decide) (fun c_4 => ?_) (fun c_4 => ?_)
    · have h := ip h c_4
      refine r_sub [0, 1] rfl ?_
      exact hK23 _ h
    · have h := iq h c_4
      refine r_aload_n C dX12_next_10 rfl 0 rfl ?_
      refine gfX12_87 C dX12_next_11 ?_
      refine r_iload_n C dX12_next_14 rfl 2 rfl ?_
      refine r_iconst (v := 0) C dX12_next_15 (by decide) ?_
      obtain ⟨g_5, h⟩ := gdE h
      refine stM_39 C g_5 dX12_next_16 ?_
      refine r_iinc (v := v2_2 + 1) C dX12_next_17 (j := 2) rfl rfl (Nat.le_of_ble_eq_true rfl) (L' := [(2, _), (0, _), (1, _)]) rfl ?_
      refine r_goto (tgt := 4) C dX12_next_20 (by decide) ?_
      refine r_sub [1, 2, 0] rfl ?_
      exact ih _ _ h
set_option maxHeartbeats 4000000 in
set_option maxRecDepth 100000 in
theorem t_X12_next_J85 {x : Ctx} {w : Wp} {v1_14 : Int32} {v2_15 : Int32}  {s_16 : St} {z : Int32 × St}  {B25 : Int32 → Int32 → St → Option (Int32 × St)} (hB25 : ∀ (u1_17 : Int32) (u2_18 : Int32) (s_19 : St), B25 u1_17 u2_18 s_19 = some z → V x WM w 4 (QM x WM w (some (.int z.1)) z.2) s_19 25 [(0, .ref (wa w 0 0)), (1, .int u1_17), (2, .int u2_18)] []) (C : Cx x WM w cX12_next 4 RX12 7 (some .int)) (h : M_next_J85 B25 v1_14 v2_15 s_16 = some z) : V x WM w 4 (QM x WM w (some (.int z.1)) z.2) s_16 85 [(0, .ref (wa w 0 0)), (1, .int v1_14), (2, .int v2_15)] [] := by
  unfold M_next_J85 at h
  refine r_iinc (v := v2_15 + 1) C dX12_next_85 (j := 2) rfl rfl (Nat.le_of_ble_eq_true rfl) (L' := [(2, _), (0, _), (1, _)]) rfl ?_
  refine r_goto (tgt := 25) C dX12_next_88 (by decide) ?_
  refine r_sub [1, 2, 0] rfl ?_
  exact hB25 _ _ _ h
set_option maxHeartbeats 4000000 in
set_option maxRecDepth 100000 in
theorem t_X12_next_L50 {x : Ctx} {w : Wp} {v1_21 : Int32} {v2_22 : Int32} {z : Int32 × St}  {K85 : St → Option (Int32 × St)} (hK85 : ∀ (s_31 : St), K85 s_31 = some z → V x WM w 4 (QM x WM w (some (.int z.1)) z.2) s_31 85 [(0, .ref (wa w 0 0)), (1, .int v1_21), (2, .int v2_22)] []) (C : Cx x WM w cX12_next 4 RX12 7 (some .int)) : ∀ (n : Nat) (v3_23 : Int32) (s_24 : St), M_next_L50 K85 v1_21 v2_22 n v3_23 s_24 = some z → V x WM w 4 (QM x WM w (some (.int z.1)) z.2) s_24 50 [(0, .ref (wa w 0 0)), (1, .int v1_21), (2, .int v2_22), (3, .int v3_23)] [] := by
  intro n
  induction n with
  | zero => intro v3_23 s_24 h; cases h
  | succ n ih =>
    intro v3_23 s_24 h
    unfold M_next_L50 at h
    refine r_iload_n C dX12_next_50 rfl 3 rfl ?_
    refine r_bipush (v := 32) C dX12_next_51 (by decide) ?_
    refine r_icmp_ge (tgt := 85) C dX12_next_53 (by decide) (fun c_25 => ?_) (fun c_25 => ?_)
    · have h := ip h c_25
      refine r_sub [0, 1, 2] rfl ?_
      exact hK85 _ h
    · have h := iq h c_25
      refine r_aload_n C dX12_next_56 rfl 0 rfl ?_
      refine gfX12_87 C dX12_next_57 ?_
      refine r_iload_n C dX12_next_60 rfl 3 rfl ?_
      refine r_dup2 C dX12_next_61 rfl rfl ?_
      obtain ⟨g_26, h⟩ := gdE h
      refine ldM_39 C g_26 dX12_next_62 ?_
      refine r_aload_n C dX12_next_63 rfl 0 rfl ?_
      refine r_iload_n C dX12_next_64 rfl 3 rfl ?_
      obtain ⟨r_27, er_27, h⟩ := bdE h
      refine kX12_243 C (m_X12_freshNow er_27) (by decide) (Nat.le_of_ble_eq_true rfl) dX12_next_65 ?_
      refine r_iconst (v := 2) C dX12_next_68 (by decide) ?_
      refine r_em (st := [.int (s_24.1 39 0 v3_23.toNatClampNeg), .int v3_23, .ref (wa w 39 0)]) 77 ((if r_27 = 2 then 1 else 0 : Int32)) (fun hM_29 => ?_) ?_
      · refine r_icmp_ne (tgt := 76) C dX12_next_69 (by decide) (fun c_28 => ?_) (fun c_28 => ?_)
        · refine r_iconst (v := 0) C dX12_next_76 (by decide) ?_
          exact (em_neg c_28 hM_29)
        · refine r_iconst (v := 1) C dX12_next_72 (by decide) ?_
          refine r_goto (tgt := 77) C dX12_next_73 (by decide) ?_
          exact (em_pos c_28 hM_29)
      refine r_iadd C dX12_next_77 ?_
      obtain ⟨g_30, h⟩ := gdE h
      refine stM_39 C g_30 dX12_next_78 ?_
      refine r_iinc (v := v3_23 + 1) C dX12_next_79 (j := 3) rfl rfl (Nat.le_of_ble_eq_true rfl) (L' := [(3, _), (0, _), (1, _), (2, _)]) rfl ?_
      refine r_goto (tgt := 50) C dX12_next_82 (by decide) ?_
      refine r_sub [1, 2, 3, 0] rfl ?_
      exact ih _ _ h
set_option maxHeartbeats 4000000 in
set_option maxRecDepth 100000 in
theorem t_X12_next_L25 {x : Ctx} {w : Wp}  {z : Int32 × St}  {K91 : Int32 → St → Option (Int32 × St)} (hK91 : ∀ (u1_33 : Int32) (s_34 : St), K91 u1_33 s_34 = some z → V x WM w 4 (QM x WM w (some (.int z.1)) z.2) s_34 91 [(0, .ref (wa w 0 0)), (1, .int u1_33)] []) (C : Cx x WM w cX12_next 4 RX12 7 (some .int)) : ∀ (n : Nat) (v1_8 : Int32) (v2_9 : Int32) (s_10 : St), M_next_L25 K91 n v1_8 v2_9 s_10 = some z → V x WM w 4 (QM x WM w (some (.int z.1)) z.2) s_10 25 [(0, .ref (wa w 0 0)), (1, .int v1_8), (2, .int v2_9)] [] := by
  intro n
  induction n with
  | zero => intro v1_8 v2_9 s_10 h; cases h
  | succ n ih =>
    intro v1_8 v2_9 s_10 h
    unfold M_next_L25 at h
    refine r_iload_n C dX12_next_25 rfl 2 rfl ?_
    refine r_aload_n C dX12_next_26 rfl 0 rfl ?_
    refine gfX12_128 C dX12_next_27 ?_
    refine r_icmp_ge (tgt := 91) C dX12_next_30 (by decide) (fun c_11 => ?_) (fun c_11 => ?_)
    · have h := ip h c_11
      refine r_sub [0, 1] rfl ?_
      exact hK91 _ _ h
    · have h := iq h c_11
      refine r_aload_n C dX12_next_33 rfl 0 rfl ?_
      refine r_iload_n C dX12_next_34 rfl 2 rfl ?_
      obtain ⟨r_12, er_12, h⟩ := bdE h
      refine kX12_150 C (m_X12_sayingsOf er_12) (by decide) (Nat.le_of_ble_eq_true rfl) dX12_next_35 ?_
      refine r_if_le (tgt := 85) C dX12_next_38 (by decide) (fun c_13 => ?_) (fun c_13 => ?_)
      · have h := ip h c_13
        refine r_sub [0, 1, 2] rfl ?_
        exact t_X12_next_J85 ih C h
      · have h := iq h c_13
        refine r_iconst (v := 1) C dX12_next_41 (by decide) ?_
        refine r_istore_n C dX12_next_42 rfl (Nat.le_of_ble_eq_true rfl) (L' := [(1, _), (0, _), (2, _)]) rfl ?_
        refine r_aload_n C dX12_next_43 rfl 1 rfl ?_
        refine r_iload_n C dX12_next_44 rfl 2 rfl ?_
        obtain ⟨r_20, er_20, h⟩ := bdE h
        refine kX12_234 C (m_X12_setCheap er_20) (by decide) (Nat.le_of_ble_eq_true rfl) dX12_next_45 ?_
        refine r_iconst (v := 0) C dX12_next_48 (by decide) ?_
        refine r_istore_n C dX12_next_49 rfl (Nat.le_of_ble_eq_true rfl) (L' := [(3, _), (1, _), (0, _), (2, _)]) rfl ?_
        refine r_sub [2, 1, 3, 0] rfl ?_
        refine t_X12_next_L50 (fun s_32 h => ?_) C _ _ _ h
        refine r_sub [0, 1, 2] rfl ?_
        exact t_X12_next_J85 ih C h
set_option maxHeartbeats 4000000 in
set_option maxRecDepth 100000 in
theorem t_X12_next_L95 {x : Ctx} {w : Wp} {v1_37 : Int32} {z : Int32 × St}  {K128 : Int32 → St → Option (Int32 × St)} (hK128 : ∀ (u2_46 : Int32) (s_47 : St), K128 u2_46 s_47 = some z → V x WM w 4 (QM x WM w (some (.int z.1)) z.2) s_47 128 [(0, .ref (wa w 0 0)), (1, .int v1_37), (2, .int u2_46)] []) (C : Cx x WM w cX12_next 4 RX12 7 (some .int)) : ∀ (n : Nat) (v2_38 : Int32) (v3_39 : Int32) (s_40 : St), M_next_L95 K128 v1_37 n v2_38 v3_39 s_40 = some z → V x WM w 4 (QM x WM w (some (.int z.1)) z.2) s_40 95 [(0, .ref (wa w 0 0)), (1, .int v1_37), (2, .int v2_38), (3, .int v3_39)] [] := by
  intro n
  induction n with
  | zero => intro v2_38 v3_39 s_40 h; cases h
  | succ n ih =>
    intro v2_38 v3_39 s_40 h
    unfold M_next_L95 at h
    refine r_iload_n C dX12_next_95 rfl 3 rfl ?_
    refine r_bipush (v := 32) C dX12_next_96 (by decide) ?_
    refine r_icmp_ge (tgt := 128) C dX12_next_98 (by decide) (fun c_41 => ?_) (fun c_41 => ?_)
    · have h := ip h c_41
      refine r_sub [0, 1, 2] rfl ?_
      exact hK128 _ _ h
    · have h := iq h c_41
      refine r_aload_n C dX12_next_101 rfl 0 rfl ?_
      refine gfX12_87 C dX12_next_102 ?_
      refine r_iload_n C dX12_next_105 rfl 3 rfl ?_
      obtain ⟨g_42, h⟩ := gdE h
      refine ldM_39 C g_42 dX12_next_106 ?_
      refine r_aload_n C dX12_next_107 rfl 0 rfl ?_
      refine gfX12_87 C dX12_next_108 ?_
      refine r_iload_n C dX12_next_111 rfl 2 rfl ?_
      obtain ⟨g_43, h⟩ := gdE h
      refine ldM_39 C g_43 dX12_next_112 ?_
      refine r_em (st := []) 121 ((if (s_40.1 39 0 v3_39.toNatClampNeg) ≤ (s_40.1 39 0 v2_38.toNatClampNeg) then v2_38 else v3_39 : Int32)) (fun hM_45 => ?_) ?_
      · refine r_icmp_le (tgt := 120) C dX12_next_113 (by decide) (fun c_44 => ?_) (fun c_44 => ?_)
        · refine r_iload_n C dX12_next_120 rfl 2 rfl ?_
          exact (em_pos c_44 hM_45)
        · refine r_iload_n C dX12_next_116 rfl 3 rfl ?_
          refine r_goto (tgt := 121) C dX12_next_117 (by decide) ?_
          exact (em_neg c_44 hM_45)
      refine r_istore_n C dX12_next_121 rfl (Nat.le_of_ble_eq_true rfl) (L' := [(2, _), (0, _), (1, _), (3, _)]) rfl ?_
      refine r_iinc (v := v3_39 + 1) C dX12_next_122 (j := 3) rfl rfl (Nat.le_of_ble_eq_true rfl) (L' := [(3, _), (2, _), (0, _), (1, _)]) rfl ?_
      refine r_goto (tgt := 95) C dX12_next_125 (by decide) ?_
      refine r_sub [2, 3, 1, 0] rfl ?_
      exact ih _ _ _ h
set_option maxHeartbeats 4000000 in
set_option maxRecDepth 100000 in
theorem m_X12_next {l : Launch} {w : Wp}   {s0 : St} {z : Int32 × St} (h : M_next s0 = some z) : Cm l yX12_next (.code yX12_next cX12_next 4 (some .int)) 7 WM w [.ref (wa w 0 0)] s0 (some (.int z.1)) z.2 := by
  refine Cm.of (own := RX12) (by decide +kernel) rfl (Nat.le_of_ble_eq_true rfl) (L := [(0, .ref (wa w 0 0))]) rfl KoM (fun x hl C => ?_)
  subst hl
  unfold M_next at h
  refine r_iconst (v := 0) C dX12_next_0 (by decide) ?_
  refine r_istore_n C dX12_next_1 rfl (Nat.le_of_ble_eq_true rfl) (L' := [(1, _), (0, _)]) rfl ?_
  refine r_iconst (v := 0) C dX12_next_2 (by decide) ?_
  refine r_istore_n C dX12_next_3 rfl (Nat.le_of_ble_eq_true rfl) (L' := [(2, _), (1, _), (0, _)]) rfl ?_
  refine r_sub [2, 1, 0] rfl ?_
  refine t_X12_next_L4 (fun s_7 h => ?_) C _ _ _ h
  refine r_iconst (v := 0) C dX12_next_23 (by decide) ?_
  refine r_istore_n C dX12_next_24 rfl (Nat.le_of_ble_eq_true rfl) (L' := [(2, _), (0, _), (1, _)]) rfl ?_
  refine r_sub [1, 2, 0] rfl ?_
  refine t_X12_next_L25 (fun v1_35 s_36 h => ?_) C _ _ _ _ h
  refine r_iconst (v := 0) C dX12_next_91 (by decide) ?_
  refine r_istore_n C dX12_next_92 rfl (Nat.le_of_ble_eq_true rfl) (L' := [(2, _), (0, _), (1, _)]) rfl ?_
  refine r_iconst (v := 1) C dX12_next_93 (by decide) ?_
  refine r_istore_n C dX12_next_94 rfl (Nat.le_of_ble_eq_true rfl) (L' := [(3, _), (2, _), (0, _), (1, _)]) rfl ?_
  refine r_sub [2, 3, 1, 0] rfl ?_
  refine t_X12_next_L95 (fun v2_48 s_49 h => ?_) C _ _ _ _ h
  refine r_iload_n C dX12_next_128 rfl 1 rfl ?_
  refine r_if_eq (tgt := 146) C dX12_next_129 (by decide) (fun c_50 => ?_) (fun c_50 => ?_)
  · have h := ip h c_50
    refine r_bipush (v := (-9)) C dX12_next_146 (by decide) ?_
    cases h
    exact r_iret C dX12_next_148
  · have h := iq h c_50
    refine r_aload_n C dX12_next_132 rfl 0 rfl ?_
    refine r_aload_n C dX12_next_133 rfl 0 rfl ?_
    refine gfX12_87 C dX12_next_134 ?_
    refine r_iload_n C dX12_next_137 rfl 2 rfl ?_
    obtain ⟨g_51, h⟩ := gdE h
    refine ldM_39 C g_51 dX12_next_138 ?_
    refine r_iload_n C dX12_next_139 rfl 2 rfl ?_
    obtain ⟨r_52, er_52, h⟩ := bdE h
    refine kX12_119 C (m_X12_ask er_52) (by decide) (Nat.le_of_ble_eq_true rfl) dX12_next_140 ?_
    refine r_goto (tgt := 148) C dX12_next_143 (by decide) ?_
    cases h
    exact r_iret C dX12_next_148
def M_asked  (s0 : St) : Int32 :=
  s0.1 0 0 2
set_option maxHeartbeats 4000000 in
set_option maxRecDepth 100000 in
theorem m_X12_asked {l : Launch} {w : Wp}   {s0 : St} {z : Int32} (h : M_asked s0 = z) : Cm l yX12_asked (.code yX12_asked cX12_asked 1 (some .int)) 0 WM w [.ref (wa w 0 0)] s0 (some (.int z)) s0 := by
  refine Cm.of (own := RX12) (by decide +kernel) rfl (Nat.le_of_ble_eq_true rfl) (L := [(0, .ref (wa w 0 0))]) rfl KoM (fun x hl C => ?_)
  subst hl
  unfold M_asked at h
  refine r_aload_n C dX12_asked_0 rfl 0 rfl ?_
  refine gfX12_94 C dX12_asked_1 ?_
  subst h
  exact r_iret C dX12_asked_4
def M_upper  (s0 : St) : Int64 :=
  s0.2 3
set_option maxHeartbeats 4000000 in
set_option maxRecDepth 100000 in
theorem m_X12_upper {l : Launch} {w : Wp}   {s0 : St} {z : Int64} (h : M_upper s0 = z) : Cm l yX12_upper (.code yX12_upper cX12_upper 1 (some .long)) 0 WM w [.ref (wa w 0 0)] s0 (some (.long z)) s0 := by
  refine Cm.of (own := RX12) (by decide +kernel) rfl (Nat.le_of_ble_eq_true rfl) (L := [(0, .ref (wa w 0 0))]) rfl KoM (fun x hl C => ?_)
  subst hl
  unfold M_upper at h
  refine r_aload_n C dX12_upper_0 rfl 0 rfl ?_
  refine gfX12_259 C dX12_upper_1 ?_
  subst h
  exact r_lret C dX12_upper_4
def M_lower  (s0 : St) : Int64 :=
  s0.2 4
set_option maxHeartbeats 4000000 in
set_option maxRecDepth 100000 in
theorem m_X12_lower {l : Launch} {w : Wp}   {s0 : St} {z : Int64} (h : M_lower s0 = z) : Cm l yX12_lower (.code yX12_lower cX12_lower 1 (some .long)) 0 WM w [.ref (wa w 0 0)] s0 (some (.long z)) s0 := by
  refine Cm.of (own := RX12) (by decide +kernel) rfl (Nat.le_of_ble_eq_true rfl) (L := [(0, .ref (wa w 0 0))]) rfl KoM (fun x hl C => ?_)
  subst hl
  unfold M_lower at h
  refine r_aload_n C dX12_lower_0 rfl 0 rfl ?_
  refine gfX12_13 C dX12_lower_1 ?_
  subst h
  exact r_lret C dX12_lower_4
