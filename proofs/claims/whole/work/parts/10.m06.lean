def M_bits_L4  (v0_1 : Int32) : Nat → Int32 → Int32 → Option (Int32)
  | 0, _, _ => none
  | n + 1, v1_2, v2_3 => if 8 ≤ v2_3 then (some v1_2) else ((M_bits_L4 v0_1 n) (v1_2 + ((v0_1 >>> (v2_3 &&& 31)) &&& 1)) (v2_3 + 1))
def M_bits (v0 : Int32) : Option (Int32) :=
  M_bits_L4 v0 1100 0 0
set_option maxHeartbeats 4000000 in
set_option maxRecDepth 100000 in
theorem t_X12_bits_L4 {x : Ctx} {w : Wp} {v0_1 : Int32} {s0 : St} {z : Int32}    (C : Cx x WM w cX12_bits 3 RX12 0 (some .int)) : ∀ (n : Nat) (v1_2 : Int32) (v2_3 : Int32), M_bits_L4 v0_1 n v1_2 v2_3 = some z → V x WM w 3 (QM x WM w (some (.int z)) s0) s0 4 [(0, .int v0_1), (1, .int v1_2), (2, .int v2_3)] [] := by
  intro n
  induction n with
  | zero => intro v1_2 v2_3 h; cases h
  | succ n ih =>
    intro v1_2 v2_3 h
    unfold M_bits_L4 at h
    refine r_iload_n C dX12_bits_4 rfl 2 rfl ?_
    refine r_bipush (v := 8) C dX12_bits_5 (by decide) ?_
    refine r_icmp_ge (tgt := 24) C dX12_bits_7 (by decide) (fun c_4 => ?_) (fun c_4 => ?_)
    · have h := ip h c_4
      refine r_iload_n C dX12_bits_24 rfl 1 rfl ?_
      cases h
      exact r_iret C dX12_bits_25
    · have h := iq h c_4
      refine r_iload_n C dX12_bits_10 rfl 1 rfl ?_
      refine r_iload_n C dX12_bits_11 rfl 0 rfl ?_
      refine r_iload_n C dX12_bits_12 rfl 2 rfl ?_
      refine r_ishr C dX12_bits_13 ?_
      refine r_iconst (v := 1) C dX12_bits_14 (by decide) ?_
      refine r_iand C dX12_bits_15 ?_
      refine r_iadd C dX12_bits_16 ?_
      refine r_istore_n C dX12_bits_17 rfl (Nat.le_of_ble_eq_true rfl) (L' := [(1, _), (0, _), (2, _)]) rfl ?_
      refine r_iinc (v := v2_3 + 1) C dX12_bits_18 (j := 2) rfl rfl (Nat.le_of_ble_eq_true rfl) (L' := [(2, _), (1, _), (0, _)]) rfl ?_
      refine r_goto (tgt := 4) C dX12_bits_21 (by decide) ?_
      refine r_sub [2, 1, 0] rfl ?_
      exact ih _ _ h
set_option maxHeartbeats 4000000 in
set_option maxRecDepth 100000 in
theorem m_X12_bits {l : Launch} {w : Wp} {v0 : Int32}  {s0 : St} {z : Int32} (h : M_bits v0 = some z) : Cm l yX12_bits (.code yX12_bits cX12_bits 3 (some .int)) 0 WM w [.int v0] s0 (some (.int z)) s0 := by
  refine Cm.of (own := RX12) (by decide +kernel) rfl (Nat.le_of_ble_eq_true rfl) (L := [(0, .int v0)]) rfl KoM (fun x hl C => ?_)
  subst hl
  unfold M_bits at h
  refine r_iconst (v := 0) C dX12_bits_0 (by decide) ?_
  refine r_istore_n C dX12_bits_1 rfl (Nat.le_of_ble_eq_true rfl) (L' := [(1, _), (0, _)]) rfl ?_
  refine r_iconst (v := 0) C dX12_bits_2 (by decide) ?_
  refine r_istore_n C dX12_bits_3 rfl (Nat.le_of_ble_eq_true rfl) (L' := [(2, _), (1, _), (0, _)]) rfl ?_
  refine r_sub [2, 1, 0] rfl ?_
  exact t_X12_bits_L4 C _ _ _ h
def M_parts_L39 (K68 : Int32 → St → Option (Int32 × St)) (v3_5 : Int32) : Nat → Int32 → Int32 → St → Option (Int32 × St)
  | 0, _, _, _ => none
  | n + 1, v4_6, v5_7, s_8 => if v5_7 < 0 then (K68 v4_6 s_8) else ((M_parts_L39 K68 v3_5 n) (if (M_has v3_5 v5_7) = 0 then v4_6 else v5_7 : Int32) (v5_7 + (-1)) s_8)
def M_parts (v1 : Int32) (v2 : Int32) (s0 : St) : Option (Int32 × St) :=
  if (M_isCase v1 s0) = 0 then (some ((-1), s0)) else (if (M_isCase v2 s0) = 0 then (some ((-1), s0)) else (if inb v1 12 = true then if inb v2 12 = true then M_parts_L39 (fun (v4_14 : Int32) (s_15 : St) => Option.bind (M_bits ((s0.1 11 0 v1.toNatClampNeg) ^^^ (s0.1 11 0 v2.toNatClampNeg))) (fun r_16 => Option.bind (M_ask v4_14 r_16 s_15) (fun r_17 => some (r_17.1, r_17.2)))) ((s0.1 11 0 v1.toNatClampNeg) ^^^ (s0.1 11 0 v2.toNatClampNeg)) 1100 (-9) 4 s0 else none else none))
set_option maxHeartbeats 4000000 in
set_option maxRecDepth 100000 in
theorem t_X12_parts_L39 {x : Ctx} {w : Wp} {v3_5 : Int32} {z : Int32 × St}  {K68 : Int32 → St → Option (Int32 × St)} (hK68 : ∀ (u4_12 : Int32) (s_13 : St), K68 u4_12 s_13 = some z → V x WM w 6 (QM x WM w (some (.int z.1)) z.2) s_13 68 [(0, .ref (wa w 0 0)), (3, .int v3_5), (4, .int u4_12)] []) (C : Cx x WM w cX12_parts 6 RX12 2 (some .int)) : ∀ (n : Nat) (v4_6 : Int32) (v5_7 : Int32) (s_8 : St), M_parts_L39 K68 v3_5 n v4_6 v5_7 s_8 = some z → V x WM w 6 (QM x WM w (some (.int z.1)) z.2) s_8 39 [(0, .ref (wa w 0 0)), (3, .int v3_5), (4, .int v4_6), (5, .int v5_7)] [] := by
  intro n
  induction n with
  | zero => intro v4_6 v5_7 s_8 h; cases h
  | succ n ih =>
    intro v4_6 v5_7 s_8 h
    unfold M_parts_L39 at h
    refine r_iload C dX12_parts_39 3 rfl ?_
    refine r_if_lt (tgt := 68) C dX12_parts_41 (by decide) (fun c_9 => ?_) (fun c_9 => ?_)
    · have h := ip h c_9
      refine r_sub [0, 1, 2] rfl ?_
      exact hK68 _ _ h
    · have h := iq h c_9
      refine r_iload_n C dX12_parts_44 rfl 1 rfl ?_
      refine r_iload C dX12_parts_45 3 rfl ?_
      refine kX12_187 C (m_X12_has rfl) (by decide) (Nat.le_of_ble_eq_true rfl) dX12_parts_47 ?_
      refine r_em (st := []) 60 ((if (M_has v3_5 v5_7) = 0 then v4_6 else v5_7 : Int32)) (fun hM_11 => ?_) ?_
      · refine r_if_eq (tgt := 58) C dX12_parts_50 (by decide) (fun c_10 => ?_) (fun c_10 => ?_)
        · refine r_iload C dX12_parts_58 2 rfl ?_
          exact (em_pos c_10 hM_11)
        · refine r_iload C dX12_parts_53 3 rfl ?_
          refine r_goto (tgt := 60) C dX12_parts_55 (by decide) ?_
          exact (em_neg c_10 hM_11)
      refine r_istore C dX12_parts_60 (Nat.le_of_ble_eq_true rfl) (L' := [(4, _), (0, _), (3, _), (5, _)]) rfl ?_
      refine r_iinc (v := v5_7 + (-1)) C dX12_parts_62 (j := 3) rfl rfl (Nat.le_of_ble_eq_true rfl) (L' := [(5, _), (4, _), (0, _), (3, _)]) rfl ?_
      refine r_goto (tgt := 39) C dX12_parts_65 (by decide) ?_
      refine r_sub [2, 3, 1, 0] rfl ?_
      exact ih _ _ _ h
set_option maxHeartbeats 4000000 in
set_option maxRecDepth 100000 in
theorem m_X12_parts {l : Launch} {w : Wp} {v1 : Int32} {v2 : Int32}  {s0 : St} {z : Int32 × St} (h : M_parts v1 v2 s0 = some z) : Cm l yX12_parts (.code yX12_parts cX12_parts 6 (some .int)) 2 WM w [.ref (wa w 0 0), .int v1, .int v2] s0 (some (.int z.1)) z.2 := by
  refine Cm.of (own := RX12) (by decide +kernel) rfl (Nat.le_of_ble_eq_true rfl) (L := [(0, .ref (wa w 0 0)), (1, .int v1), (2, .int v2)]) rfl KoM (fun x hl C => ?_)
  subst hl
  unfold M_parts at h
  refine r_aload_n C dX12_parts_0 rfl 0 rfl ?_
  refine r_iload_n C dX12_parts_1 rfl 1 rfl ?_
  refine kX12_144 C (m_X12_isCase rfl) (by decide) (Nat.le_of_ble_eq_true rfl) dX12_parts_2 ?_
  refine r_if_eq (tgt := 16) C dX12_parts_5 (by decide) (fun c_1 => ?_) (fun c_1 => ?_)
  · have h := ip h c_1
    refine r_iconst (v := (-1)) C dX12_parts_16 (by decide) ?_
    cases h
    exact r_iret C dX12_parts_17
  · have h := iq h c_1
    refine r_aload_n C dX12_parts_8 rfl 0 rfl ?_
    refine r_iload_n C dX12_parts_9 rfl 2 rfl ?_
    refine kX12_144 C (m_X12_isCase rfl) (by decide) (Nat.le_of_ble_eq_true rfl) dX12_parts_10 ?_
    refine r_if_ne (tgt := 18) C dX12_parts_13 (by decide) (fun c_2 => ?_) (fun c_2 => ?_)
    · have h := iq h c_2
      refine r_aload_n C dX12_parts_18 rfl 0 rfl ?_
      refine gfX12_32 C dX12_parts_19 ?_
      refine r_iload_n C dX12_parts_22 rfl 1 rfl ?_
      obtain ⟨g_3, h⟩ := gdE h
      refine ldM_11 C g_3 dX12_parts_23 ?_
      refine r_aload_n C dX12_parts_24 rfl 0 rfl ?_
      refine gfX12_32 C dX12_parts_25 ?_
      refine r_iload_n C dX12_parts_28 rfl 2 rfl ?_
      obtain ⟨g_4, h⟩ := gdE h
      refine ldM_11 C g_4 dX12_parts_29 ?_
      refine r_ixor C dX12_parts_30 ?_
      refine r_istore_n C dX12_parts_31 rfl (Nat.le_of_ble_eq_true rfl) (L' := [(3, _), (0, _), (1, _), (2, _)]) rfl ?_
      refine r_bipush (v := (-9)) C dX12_parts_32 (by decide) ?_
      refine r_istore C dX12_parts_34 (Nat.le_of_ble_eq_true rfl) (L' := [(4, _), (3, _), (0, _), (1, _), (2, _)]) rfl ?_
      refine r_iconst (v := 4) C dX12_parts_36 (by decide) ?_
      refine r_istore C dX12_parts_37 (Nat.le_of_ble_eq_true rfl) (L' := [(5, _), (4, _), (3, _), (0, _), (1, _), (2, _)]) rfl ?_
      refine r_sub [3, 2, 1, 0] rfl ?_
      refine t_X12_parts_L39 (fun v4_14 s_15 h => ?_) C _ _ _ _ h
      refine r_aload_n C dX12_parts_68 rfl 0 rfl ?_
      refine r_iload C dX12_parts_69 2 rfl ?_
      refine r_iload_n C dX12_parts_71 rfl 1 rfl ?_
      obtain ⟨r_16, er_16, h⟩ := bdE h
      refine kX12_256 C (m_X12_bits er_16) (by decide) (Nat.le_of_ble_eq_true rfl) dX12_parts_72 ?_
      obtain ⟨r_17, er_17, h⟩ := bdE h
      refine kX12_119 C (m_X12_ask er_17) (by decide) (Nat.le_of_ble_eq_true rfl) dX12_parts_75 ?_
      cases h
      exact r_iret C dX12_parts_78
    · have h := ip h c_2
      refine r_iconst (v := (-1)) C dX12_parts_16 (by decide) ?_
      cases h
      exact r_iret C dX12_parts_17
def M_met_J82  (v3_14 : Int32) (t_15 : Int32) (s0 : St) : Option (Int32) :=
  some (if v3_14 ≤ t_15 then ((t_15 - v3_14) + 1) else 0 : Int32)
def M_met_J48  (v1_7 : Int32) (v2_8 : Int32) (t_9 : Int32) (s0 : St) : Option (Int32) :=
  if inb v1_7 8 = true then if inb v2_8 8 = true then if (s0.1 14 0 v2_8.toNatClampNeg) ≤ (s0.1 14 0 v1_7.toNatClampNeg) then (if inb v2_8 8 = true then M_met_J82 (t_9 + 15) (s0.1 14 0 v2_8.toNatClampNeg) s0 else none) else (if inb v1_7 8 = true then M_met_J82 (t_9 + 15) (s0.1 14 0 v1_7.toNatClampNeg) s0 else none) else none else none
def M_met (v1 : Int32) (v2 : Int32) (s0 : St) : Option (Int32) :=
  if (M_isMaster v1 s0) = 0 then (some (-1)) else (if (M_isMaster v2 s0) = 0 then (some (-1)) else (if inb v1 8 = true then if inb v2 8 = true then if (s0.1 13 0 v1.toNatClampNeg) ≤ (s0.1 13 0 v2.toNatClampNeg) then (if inb v2 8 = true then M_met_J48 v1 v2 (s0.1 13 0 v2.toNatClampNeg) s0 else none) else (if inb v1 8 = true then M_met_J48 v1 v2 (s0.1 13 0 v1.toNatClampNeg) s0 else none) else none else none))
set_option maxHeartbeats 4000000 in
set_option maxRecDepth 100000 in
theorem t_X12_met_J82 {x : Ctx} {w : Wp} {v3_14 : Int32} {t_15 : Int32} {s0 : St} {z : Int32}    (C : Cx x WM w cX12_met 5 RX12 2 (some .int)) (h : M_met_J82 v3_14 t_15 s0 = some z) : V x WM w 5 (QM x WM w (some (.int z)) s0) s0 82 [(3, .int v3_14)] [.int t_15] := by
  unfold M_met_J82 at h
  refine r_istore C dX12_met_82 (Nat.le_of_ble_eq_true rfl) (L' := [(4, _), (3, _)]) rfl ?_
  refine r_iload C dX12_met_84 0 rfl ?_
  refine r_iload_n C dX12_met_86 rfl 1 rfl ?_
  refine r_em (st := []) 100 ((if v3_14 ≤ t_15 then ((t_15 - v3_14) + 1) else 0 : Int32)) (fun hM_17 => ?_) ?_
  · refine r_icmp_ge (tgt := 94) C dX12_met_87 (by decide) (fun c_16 => ?_) (fun c_16 => ?_)
    · refine r_iload C dX12_met_94 0 rfl ?_
      refine r_iload_n C dX12_met_96 rfl 1 rfl ?_
      refine r_isub C dX12_met_97 ?_
      refine r_iconst (v := 1) C dX12_met_98 (by decide) ?_
      refine r_iadd C dX12_met_99 ?_
      exact (em_pos c_16 hM_17)
    · refine r_iconst (v := 0) C dX12_met_90 (by decide) ?_
      refine r_goto (tgt := 100) C dX12_met_91 (by decide) ?_
      exact (em_neg c_16 hM_17)
  cases h
  exact r_iret C dX12_met_100
set_option maxHeartbeats 4000000 in
set_option maxRecDepth 100000 in
theorem t_X12_met_J48 {x : Ctx} {w : Wp} {v1_7 : Int32} {v2_8 : Int32} {t_9 : Int32} {s0 : St} {z : Int32}    (C : Cx x WM w cX12_met 5 RX12 2 (some .int)) (h : M_met_J48 v1_7 v2_8 t_9 s0 = some z) : V x WM w 5 (QM x WM w (some (.int z)) s0) s0 48 [(0, .ref (wa w 0 0)), (1, .int v1_7), (2, .int v2_8)] [.int t_9] := by
  unfold M_met_J48 at h
  refine r_bipush (v := 15) C dX12_met_48 (by decide) ?_
  refine r_iadd C dX12_met_50 ?_
  refine r_istore_n C dX12_met_51 rfl (Nat.le_of_ble_eq_true rfl) (L' := [(3, _), (0, _), (1, _), (2, _)]) rfl ?_
  refine r_aload_n C dX12_met_52 rfl 1 rfl ?_
  refine gfX12_38 C dX12_met_53 ?_
  refine r_iload_n C dX12_met_56 rfl 2 rfl ?_
  obtain ⟨g_10, h⟩ := gdE h
  refine ldM_14 C g_10 dX12_met_57 ?_
  refine r_aload_n C dX12_met_58 rfl 1 rfl ?_
  refine gfX12_38 C dX12_met_59 ?_
  refine r_iload_n C dX12_met_62 rfl 3 rfl ?_
  obtain ⟨g_11, h⟩ := gdE h
  refine ldM_14 C g_11 dX12_met_63 ?_
  refine r_icmp_ge (tgt := 76) C dX12_met_64 (by decide) (fun c_12 => ?_) (fun c_12 => ?_)
  · have h := ip h c_12
    refine r_aload_n C dX12_met_76 rfl 1 rfl ?_
    refine gfX12_38 C dX12_met_77 ?_
    refine r_iload_n C dX12_met_80 rfl 3 rfl ?_
    obtain ⟨g_13, h⟩ := gdE h
    refine ldM_14 C g_13 dX12_met_81 ?_
    refine r_sub [0] rfl ?_
    exact t_X12_met_J82 C h
  · have h := iq h c_12
    refine r_aload_n C dX12_met_67 rfl 1 rfl ?_
    refine gfX12_38 C dX12_met_68 ?_
    refine r_iload_n C dX12_met_71 rfl 2 rfl ?_
    obtain ⟨g_18, h⟩ := gdE h
    refine ldM_14 C g_18 dX12_met_72 ?_
    refine r_goto (tgt := 82) C dX12_met_73 (by decide) ?_
    refine r_sub [0] rfl ?_
    exact t_X12_met_J82 C h
set_option maxHeartbeats 4000000 in
set_option maxRecDepth 100000 in
theorem m_X12_met {l : Launch} {w : Wp} {v1 : Int32} {v2 : Int32}  {s0 : St} {z : Int32} (h : M_met v1 v2 s0 = some z) : Cm l yX12_met (.code yX12_met cX12_met 5 (some .int)) 2 WM w [.ref (wa w 0 0), .int v1, .int v2] s0 (some (.int z)) s0 := by
  refine Cm.of (own := RX12) (by decide +kernel) rfl (Nat.le_of_ble_eq_true rfl) (L := [(0, .ref (wa w 0 0)), (1, .int v1), (2, .int v2)]) rfl KoM (fun x hl C => ?_)
  subst hl
  unfold M_met at h
  refine r_aload_n C dX12_met_0 rfl 0 rfl ?_
  refine r_iload_n C dX12_met_1 rfl 1 rfl ?_
  refine kX12_137 C (m_X12_isMaster rfl) (by decide) (Nat.le_of_ble_eq_true rfl) dX12_met_2 ?_
  refine r_if_eq (tgt := 16) C dX12_met_5 (by decide) (fun c_1 => ?_) (fun c_1 => ?_)
  · have h := ip h c_1
    refine r_iconst (v := (-1)) C dX12_met_16 (by decide) ?_
    cases h
    exact r_iret C dX12_met_17
  · have h := iq h c_1
    refine r_aload_n C dX12_met_8 rfl 0 rfl ?_
    refine r_iload_n C dX12_met_9 rfl 2 rfl ?_
    refine kX12_137 C (m_X12_isMaster rfl) (by decide) (Nat.le_of_ble_eq_true rfl) dX12_met_10 ?_
    refine r_if_ne (tgt := 18) C dX12_met_13 (by decide) (fun c_2 => ?_) (fun c_2 => ?_)
    · have h := iq h c_2
      refine r_aload_n C dX12_met_18 rfl 0 rfl ?_
      refine gfX12_35 C dX12_met_19 ?_
      refine r_iload_n C dX12_met_22 rfl 1 rfl ?_
      obtain ⟨g_3, h⟩ := gdE h
      refine ldM_13 C g_3 dX12_met_23 ?_
      refine r_aload_n C dX12_met_24 rfl 0 rfl ?_
      refine gfX12_35 C dX12_met_25 ?_
      refine r_iload_n C dX12_met_28 rfl 2 rfl ?_
      obtain ⟨g_4, h⟩ := gdE h
      refine ldM_13 C g_4 dX12_met_29 ?_
      refine r_icmp_le (tgt := 42) C dX12_met_30 (by decide) (fun c_5 => ?_) (fun c_5 => ?_)
      · have h := ip h c_5
        refine r_aload_n C dX12_met_42 rfl 0 rfl ?_
        refine gfX12_35 C dX12_met_43 ?_
        refine r_iload_n C dX12_met_46 rfl 2 rfl ?_
        obtain ⟨g_6, h⟩ := gdE h
        refine ldM_13 C g_6 dX12_met_47 ?_
        refine r_sub [0, 1, 2] rfl ?_
        exact t_X12_met_J48 C h
      · have h := iq h c_5
        refine r_aload_n C dX12_met_33 rfl 0 rfl ?_
        refine gfX12_35 C dX12_met_34 ?_
        refine r_iload_n C dX12_met_37 rfl 1 rfl ?_
        obtain ⟨g_19, h⟩ := gdE h
        refine ldM_13 C g_19 dX12_met_38 ?_
        refine r_goto (tgt := 48) C dX12_met_39 (by decide) ?_
        refine r_sub [0, 1, 2] rfl ?_
        exact t_X12_met_J48 C h
    · have h := ip h c_2
      refine r_iconst (v := (-1)) C dX12_met_16 (by decide) ?_
      cases h
      exact r_iret C dX12_met_17
def M_can_J95 (B26 : Int32 → Int32 → Int32 → St → Option (Int32 × St)) (v1_11 : Int32) (v2_12 : Int32) (v3_13 : Int32) (v4_14 : Int32)  (s_15 : St) : Option (Int32 × St) :=
  B26 v2_12 v3_13 (v4_14 + 1) s_15
def M_can_J94 (B26 : Int32 → Int32 → Int32 → St → Option (Int32 × St)) (v1_29 : Int32) (v2_30 : Int32) (v4_31 : Int32) (t_32 : Int32) (s_33 : St) : Option (Int32 × St) :=
  M_can_J95 B26 v1_29 v2_30 t_32 v4_31 s_33
def M_can_J71 (B26 : Int32 → Int32 → Int32 → St → Option (Int32 × St)) (v1_22 : Int32) (v3_23 : Int32) (v4_24 : Int32) (t_25 : Int32) (s_26 : St) : Option (Int32 × St) :=
  if inb v4_24 24 = true then if (s_26.1 19 0 v4_24.toNatClampNeg) ≤ v3_23 then (M_can_J94 B26 v1_22 t_25 v4_24 v3_23 s_26) else (if inb v4_24 24 = true then M_can_J94 B26 v1_22 t_25 v4_24 (s_26.1 19 0 v4_24.toNatClampNeg) s_26 else none) else none
def M_can_L26 (K101 : Int32 → Int32 → St → Option (Int32 × St)) (v1_3 : Int32) : Nat → Int32 → Int32 → Int32 → St → Option (Int32 × St)
  | 0, _, _, _, _ => none
  | n + 1, v2_4, v3_5, v4_6, s_7 => if (s_7.1 0 0 16) ≤ v4_6 then (K101 v2_4 v3_5 s_7) else (if inb v4_6 24 = true then if (M_has v1_3 (s_7.1 17 0 v4_6.toNatClampNeg)) = 0 then (M_can_J95 (M_can_L26 K101 v1_3 n) v1_3 v2_4 v3_5 v4_6 s_7) else (if inb v4_6 24 = true then if v2_4 ≤ (s_7.1 19 0 v4_6.toNatClampNeg) then (M_can_J71 (M_can_L26 K101 v1_3 n) v1_3 v3_5 v4_6 v2_4 s_7) else (if inb v4_6 24 = true then M_can_J71 (M_can_L26 K101 v1_3 n) v1_3 v3_5 v4_6 (s_7.1 19 0 v4_6.toNatClampNeg) s_7 else none) else none) else none)
def M_can (v1 : Int32) (s0 : St) : Option (Int32 × St) :=
  if v1 < 1 then (some ((-1), s0)) else (if v1 < (1 <<< ((s0.1 0 0 12) &&& 31)) then (M_can_L26 (fun (v2_47 : Int32) (v3_48 : Int32) (s_49 : St) => Option.bind (M_ask (if 0 ≤ v3_48 then (v3_48 - v2_47) else 0 : Int32) (if 70 < (if 0 ≤ v3_48 then (v3_48 - v2_47) else 0 : Int32) then 0 else 1 : Int32) s_49) (fun r_54 => some (r_54.1, r_54.2))) v1 1100 1000000 (-9) 0 s0) else (some ((-1), s0)))
set_option maxHeartbeats 4000000 in
set_option maxRecDepth 100000 in
theorem t_X12_can_J95 {x : Ctx} {w : Wp} {v1_11 : Int32} {v2_12 : Int32} {v3_13 : Int32} {v4_14 : Int32}  {s_15 : St} {z : Int32 × St}  {B26 : Int32 → Int32 → Int32 → St → Option (Int32 × St)} (hB26 : ∀ (u2_16 : Int32) (u3_17 : Int32) (u4_18 : Int32) (s_19 : St), B26 u2_16 u3_17 u4_18 s_19 = some z → V x WM w 5 (QM x WM w (some (.int z.1)) z.2) s_19 26 [(0, .ref (wa w 0 0)), (1, .int v1_11), (2, .int u2_16), (3, .int u3_17), (4, .int u4_18)] []) (C : Cx x WM w cX12_can 5 RX12 1 (some .int)) (h : M_can_J95 B26 v1_11 v2_12 v3_13 v4_14 s_15 = some z) : V x WM w 5 (QM x WM w (some (.int z.1)) z.2) s_15 95 [(0, .ref (wa w 0 0)), (1, .int v1_11), (2, .int v2_12), (3, .int v3_13), (4, .int v4_14)] [] := by
  unfold M_can_J95 at h
  refine r_iinc (v := v4_14 + 1) C dX12_can_95 (j := 4) rfl rfl (Nat.le_of_ble_eq_true rfl) (L' := [(4, _), (0, _), (1, _), (2, _), (3, _)]) rfl ?_
  refine r_goto (tgt := 26) C dX12_can_98 (by decide) ?_
  refine r_sub [1, 2, 3, 4, 0] rfl ?_
  exact hB26 _ _ _ _ h
set_option maxHeartbeats 4000000 in
set_option maxRecDepth 100000 in
theorem t_X12_can_J94 {x : Ctx} {w : Wp} {v1_29 : Int32} {v2_30 : Int32} {v4_31 : Int32} {t_32 : Int32} {s_33 : St} {z : Int32 × St}  {B26 : Int32 → Int32 → Int32 → St → Option (Int32 × St)} (hB26 : ∀ (u2_34 : Int32) (u3_35 : Int32) (u4_36 : Int32) (s_37 : St), B26 u2_34 u3_35 u4_36 s_37 = some z → V x WM w 5 (QM x WM w (some (.int z.1)) z.2) s_37 26 [(0, .ref (wa w 0 0)), (1, .int v1_29), (2, .int u2_34), (3, .int u3_35), (4, .int u4_36)] []) (C : Cx x WM w cX12_can 5 RX12 1 (some .int)) (h : M_can_J94 B26 v1_29 v2_30 v4_31 t_32 s_33 = some z) : V x WM w 5 (QM x WM w (some (.int z.1)) z.2) s_33 94 [(0, .ref (wa w 0 0)), (1, .int v1_29), (2, .int v2_30), (4, .int v4_31)] [.int t_32] := by
  unfold M_can_J94 at h
  refine r_istore_n C dX12_can_94 rfl (Nat.le_of_ble_eq_true rfl) (L' := [(3, _), (0, _), (1, _), (2, _), (4, _)]) rfl ?_
  refine r_sub [1, 2, 3, 0, 4] rfl ?_
  exact t_X12_can_J95 hB26 C h
set_option maxHeartbeats 4000000 in
set_option maxRecDepth 100000 in
theorem t_X12_can_J71 {x : Ctx} {w : Wp} {v1_22 : Int32} {v3_23 : Int32} {v4_24 : Int32} {t_25 : Int32} {s_26 : St} {z : Int32 × St}  {B26 : Int32 → Int32 → Int32 → St → Option (Int32 × St)} (hB26 : ∀ (u2_39 : Int32) (u3_40 : Int32) (u4_41 : Int32) (s_42 : St), B26 u2_39 u3_40 u4_41 s_42 = some z → V x WM w 5 (QM x WM w (some (.int z.1)) z.2) s_42 26 [(0, .ref (wa w 0 0)), (1, .int v1_22), (2, .int u2_39), (3, .int u3_40), (4, .int u4_41)] []) (C : Cx x WM w cX12_can 5 RX12 1 (some .int)) (h : M_can_J71 B26 v1_22 v3_23 v4_24 t_25 s_26 = some z) : V x WM w 5 (QM x WM w (some (.int z.1)) z.2) s_26 71 [(0, .ref (wa w 0 0)), (1, .int v1_22), (3, .int v3_23), (4, .int v4_24)] [.int t_25] := by
  unfold M_can_J71 at h
  refine r_istore_n C dX12_can_71 rfl (Nat.le_of_ble_eq_true rfl) (L' := [(2, _), (0, _), (1, _), (3, _), (4, _)]) rfl ?_
  refine r_aload_n C dX12_can_72 rfl 1 rfl ?_
  refine gfX12_50 C dX12_can_73 ?_
  refine r_iload C dX12_can_76 4 rfl ?_
  obtain ⟨g_27, h⟩ := gdE h
  refine ldM_19 C g_27 dX12_can_78 ?_
  refine r_iload_n C dX12_can_79 rfl 3 rfl ?_
  refine r_icmp_le (tgt := 93) C dX12_can_80 (by decide) (fun c_28 => ?_) (fun c_28 => ?_)
  · have h := ip h c_28
    refine r_iload_n C dX12_can_93 rfl 3 rfl ?_
    refine r_sub [1, 2, 0, 4] rfl ?_
    exact t_X12_can_J94 hB26 C h
  · have h := iq h c_28
    refine r_aload_n C dX12_can_83 rfl 1 rfl ?_
    refine gfX12_50 C dX12_can_84 ?_
    refine r_iload C dX12_can_87 4 rfl ?_
    obtain ⟨g_38, h⟩ := gdE h
    refine ldM_19 C g_38 dX12_can_89 ?_
    refine r_goto (tgt := 94) C dX12_can_90 (by decide) ?_
    refine r_sub [1, 2, 0, 4] rfl ?_
    exact t_X12_can_J94 hB26 C h
set_option maxHeartbeats 4000000 in
set_option maxRecDepth 100000 in
theorem t_X12_can_L26 {x : Ctx} {w : Wp} {v1_3 : Int32} {z : Int32 × St}  {K101 : Int32 → Int32 → St → Option (Int32 × St)} (hK101 : ∀ (u2_44 : Int32) (u3_45 : Int32) (s_46 : St), K101 u2_44 u3_45 s_46 = some z → V x WM w 5 (QM x WM w (some (.int z.1)) z.2) s_46 101 [(0, .ref (wa w 0 0)), (2, .int u2_44), (3, .int u3_45)] []) (C : Cx x WM w cX12_can 5 RX12 1 (some .int)) : ∀ (n : Nat) (v2_4 : Int32) (v3_5 : Int32) (v4_6 : Int32) (s_7 : St), M_can_L26 K101 v1_3 n v2_4 v3_5 v4_6 s_7 = some z → V x WM w 5 (QM x WM w (some (.int z.1)) z.2) s_7 26 [(0, .ref (wa w 0 0)), (1, .int v1_3), (2, .int v2_4), (3, .int v3_5), (4, .int v4_6)] [] := by
  intro n
  induction n with
  | zero => intro v2_4 v3_5 v4_6 s_7 h; cases h
  | succ n ih =>
    intro v2_4 v3_5 v4_6 s_7 h
    unfold M_can_L26 at h
    refine r_iload C dX12_can_26 4 rfl ?_
    refine r_aload_n C dX12_can_28 rfl 0 rfl ?_
    refine gfX12_131 C dX12_can_29 ?_
    refine r_icmp_ge (tgt := 101) C dX12_can_32 (by decide) (fun c_8 => ?_) (fun c_8 => ?_)
    · have h := ip h c_8
      refine r_sub [0, 2, 3] rfl ?_
      exact hK101 _ _ _ h
    · have h := iq h c_8
      refine r_iload_n C dX12_can_35 rfl 1 rfl ?_
      refine r_aload_n C dX12_can_36 rfl 0 rfl ?_
      refine gfX12_44 C dX12_can_37 ?_
      refine r_iload C dX12_can_40 4 rfl ?_
      obtain ⟨g_9, h⟩ := gdE h
      refine ldM_17 C g_9 dX12_can_42 ?_
      refine kX12_187 C (m_X12_has rfl) (by decide) (Nat.le_of_ble_eq_true rfl) dX12_can_43 ?_
      refine r_if_eq (tgt := 95) C dX12_can_46 (by decide) (fun c_10 => ?_) (fun c_10 => ?_)
      · have h := ip h c_10
        refine r_sub [0, 1, 2, 3, 4] rfl ?_
        exact t_X12_can_J95 ih C h
      · have h := iq h c_10
        refine r_aload_n C dX12_can_49 rfl 0 rfl ?_
        refine gfX12_50 C dX12_can_50 ?_
        refine r_iload C dX12_can_53 4 rfl ?_
        obtain ⟨g_20, h⟩ := gdE h
        refine ldM_19 C g_20 dX12_can_55 ?_
        refine r_iload_n C dX12_can_56 rfl 2 rfl ?_
        refine r_icmp_ge (tgt := 70) C dX12_can_57 (by decide) (fun c_21 => ?_) (fun c_21 => ?_)
        · have h := ip h c_21
          refine r_iload_n C dX12_can_70 rfl 2 rfl ?_
          refine r_sub [0, 1, 3, 4] rfl ?_
          exact t_X12_can_J71 ih C h
        · have h := iq h c_21
          refine r_aload_n C dX12_can_60 rfl 0 rfl ?_
          refine gfX12_50 C dX12_can_61 ?_
          refine r_iload C dX12_can_64 4 rfl ?_
          obtain ⟨g_43, h⟩ := gdE h
          refine ldM_19 C g_43 dX12_can_66 ?_
          refine r_goto (tgt := 71) C dX12_can_67 (by decide) ?_
          refine r_sub [0, 1, 3, 4] rfl ?_
          exact t_X12_can_J71 ih C h
set_option maxHeartbeats 4000000 in
set_option maxRecDepth 100000 in
theorem m_X12_can {l : Launch} {w : Wp} {v1 : Int32}  {s0 : St} {z : Int32 × St} (h : M_can v1 s0 = some z) : Cm l yX12_can (.code yX12_can cX12_can 5 (some .int)) 1 WM w [.ref (wa w 0 0), .int v1] s0 (some (.int z.1)) z.2 := by
  refine Cm.of (own := RX12) (by decide +kernel) rfl (Nat.le_of_ble_eq_true rfl) (L := [(0, .ref (wa w 0 0)), (1, .int v1)]) rfl KoM (fun x hl C => ?_)
  subst hl
  unfold M_can at h
  refine r_iload_n C dX12_can_0 rfl 1 rfl ?_
  refine r_iconst (v := 1) C dX12_can_1 (by decide) ?_
  refine r_icmp_lt (tgt := 15) C dX12_can_2 (by decide) (fun c_1 => ?_) (fun c_1 => ?_)
  · have h := ip h c_1
    refine r_iconst (v := (-1)) C dX12_can_15 (by decide) ?_
    cases h
    exact r_iret C dX12_can_16
  · have h := iq h c_1
    refine r_iload_n C dX12_can_5 rfl 1 rfl ?_
    refine r_iconst (v := 1) C dX12_can_6 (by decide) ?_
    refine r_aload_n C dX12_can_7 rfl 0 rfl ?_
    refine gfX12_128 C dX12_can_8 ?_
    refine r_ishl C dX12_can_11 ?_
    refine r_icmp_lt (tgt := 17) C dX12_can_12 (by decide) (fun c_2 => ?_) (fun c_2 => ?_)
    · have h := ip h c_2
      refine r_ldc C dX12_can_17 q_1293 ?_
      refine r_istore_n C dX12_can_19 rfl (Nat.le_of_ble_eq_true rfl) (L' := [(2, _), (0, _), (1, _)]) rfl ?_
      refine r_bipush (v := (-9)) C dX12_can_20 (by decide) ?_
      refine r_istore_n C dX12_can_22 rfl (Nat.le_of_ble_eq_true rfl) (L' := [(3, _), (2, _), (0, _), (1, _)]) rfl ?_
      refine r_iconst (v := 0) C dX12_can_23 (by decide) ?_
      refine r_istore C dX12_can_24 (Nat.le_of_ble_eq_true rfl) (L' := [(4, _), (3, _), (2, _), (0, _), (1, _)]) rfl ?_
      refine r_sub [3, 4, 2, 1, 0] rfl ?_
      refine t_X12_can_L26 (fun v2_47 v3_48 s_49 h => ?_) C _ _ _ _ _ h
      refine r_iload_n C dX12_can_101 rfl 2 rfl ?_
      refine r_em (st := []) 112 ((if 0 ≤ v3_48 then (v3_48 - v2_47) else 0 : Int32)) (fun hM_51 => ?_) ?_
      · refine r_if_ge (tgt := 109) C dX12_can_102 (by decide) (fun c_50 => ?_) (fun c_50 => ?_)
        · refine r_iload_n C dX12_can_109 rfl 2 rfl ?_
          refine r_iload_n C dX12_can_110 rfl 1 rfl ?_
          refine r_isub C dX12_can_111 ?_
          exact (em_pos c_50 hM_51)
        · refine r_iconst (v := 0) C dX12_can_105 (by decide) ?_
          refine r_goto (tgt := 112) C dX12_can_106 (by decide) ?_
          exact (em_neg c_50 hM_51)
      refine r_istore C dX12_can_112 (Nat.le_of_ble_eq_true rfl) (L' := [(4, _), (0, _), (2, _), (3, _)]) rfl ?_
      refine r_aload_n C dX12_can_114 rfl 1 rfl ?_
      refine r_iload C dX12_can_115 0 rfl ?_
      refine r_iload C dX12_can_117 0 rfl ?_
      refine r_bipush (v := 70) C dX12_can_119 (by decide) ?_
      refine r_em (st := [.int (if 0 ≤ v3_48 then (v3_48 - v2_47) else 0 : Int32), .ref (wa w 0 0)]) 129 ((if 70 < (if 0 ≤ v3_48 then (v3_48 - v2_47) else 0 : Int32) then 0 else 1 : Int32)) (fun hM_53 => ?_) ?_
      · refine r_icmp_gt (tgt := 128) C dX12_can_121 (by decide) (fun c_52 => ?_) (fun c_52 => ?_)
        · refine r_iconst (v := 0) C dX12_can_128 (by decide) ?_
          exact (em_pos c_52 hM_53)
        · refine r_iconst (v := 1) C dX12_can_124 (by decide) ?_
          refine r_goto (tgt := 129) C dX12_can_125 (by decide) ?_
          exact (em_neg c_52 hM_53)
      obtain ⟨r_54, er_54, h⟩ := bdE h
      refine kX12_119 C (m_X12_ask er_54) (by decide) (Nat.le_of_ble_eq_true rfl) dX12_can_129 ?_
      cases h
      exact r_iret C dX12_can_132
    · have h := iq h c_2
      refine r_iconst (v := (-1)) C dX12_can_15 (by decide) ?_
      cases h
      exact r_iret C dX12_can_16
def M_reads_J34  (v1_4 : Int32) (v2_5 : Int32) (v3_6 : Int32)  (s_7 : St) : Option (Int32 × St) :=
  if inb ((5 * v2_5) + v1_4) 120 = true then if inb ((5 * v2_5) + v1_4) 120 = true then some (s_7.1 22 0 (((5 * v2_5) + v1_4).toNatClampNeg), sX s_7 22 0 (((5 * v2_5) + v1_4).toNatClampNeg) v3_6) else none else none
def M_reads (v1 : Int32) (v2 : Int32) (v3 : Int32) (s0 : St) : Option (Int32 × St) :=
  if (M_in v1 0 4) = 0 then (some ((-1), s0)) else (if (M_isSaying v2 s0) = 0 then (some ((-1), s0)) else (if v3 = (-9) then (M_reads_J34 v1 v2 v3 s0) else (if (M_in v3 0 1) = 0 then (some ((-1), s0)) else (M_reads_J34 v1 v2 v3 s0))))
set_option maxHeartbeats 4000000 in
set_option maxRecDepth 100000 in
theorem t_X12_reads_J34 {x : Ctx} {w : Wp} {v1_4 : Int32} {v2_5 : Int32} {v3_6 : Int32}  {s_7 : St} {z : Int32 × St}    (C : Cx x WM w cX12_reads 5 RX12 2 (some .int)) (h : M_reads_J34 v1_4 v2_5 v3_6 s_7 = some z) : V x WM w 5 (QM x WM w (some (.int z.1)) z.2) s_7 34 [(0, .ref (wa w 0 0)), (1, .int v1_4), (2, .int v2_5), (3, .int v3_6)] [] := by
  unfold M_reads_J34 at h
  refine r_aload_n C dX12_reads_34 rfl 0 rfl ?_
  refine gfX12_59 C dX12_reads_35 ?_
  refine r_iconst (v := 5) C dX12_reads_38 (by decide) ?_
  refine r_iload_n C dX12_reads_39 rfl 2 rfl ?_
  refine r_imul C dX12_reads_40 ?_
  refine r_iload_n C dX12_reads_41 rfl 1 rfl ?_
  refine r_iadd C dX12_reads_42 ?_
  obtain ⟨g_8, h⟩ := gdE h
  refine ldM_22 C g_8 dX12_reads_43 ?_
  refine r_istore C dX12_reads_44 (Nat.le_of_ble_eq_true rfl) (L' := [(4, _), (0, _), (1, _), (2, _), (3, _)]) rfl ?_
  refine r_aload_n C dX12_reads_46 rfl 1 rfl ?_
  refine gfX12_59 C dX12_reads_47 ?_
  refine r_iconst (v := 5) C dX12_reads_50 (by decide) ?_
  refine r_iload_n C dX12_reads_51 rfl 3 rfl ?_
  refine r_imul C dX12_reads_52 ?_
  refine r_iload_n C dX12_reads_53 rfl 2 rfl ?_
  refine r_iadd C dX12_reads_54 ?_
  refine r_iload_n C dX12_reads_55 rfl 4 rfl ?_
  obtain ⟨g_9, h⟩ := gdE h
  refine stM_22 C g_9 dX12_reads_56 ?_
  refine r_iload C dX12_reads_57 0 rfl ?_
  cases h
  exact r_iret C dX12_reads_59
set_option maxHeartbeats 4000000 in
set_option maxRecDepth 100000 in
theorem m_X12_reads {l : Launch} {w : Wp} {v1 : Int32} {v2 : Int32} {v3 : Int32}  {s0 : St} {z : Int32 × St} (h : M_reads v1 v2 v3 s0 = some z) : Cm l yX12_reads (.code yX12_reads cX12_reads 5 (some .int)) 2 WM w [.ref (wa w 0 0), .int v1, .int v2, .int v3] s0 (some (.int z.1)) z.2 := by
  refine Cm.of (own := RX12) (by decide +kernel) rfl (Nat.le_of_ble_eq_true rfl) (L := [(0, .ref (wa w 0 0)), (1, .int v1), (2, .int v2), (3, .int v3)]) rfl KoM (fun x hl C => ?_)
  subst hl
  unfold M_reads at h
  refine r_iload_n C dX12_reads_0 rfl 1 rfl ?_
  refine r_iconst (v := 0) C dX12_reads_1 (by decide) ?_
  refine r_iconst (v := 4) C dX12_reads_2 (by decide) ?_
  refine kX12_97 C (m_X12_in rfl) (by decide) (Nat.le_of_ble_eq_true rfl) dX12_reads_3 ?_
  refine r_if_eq (tgt := 32) C dX12_reads_6 (by decide) (fun c_1 => ?_) (fun c_1 => ?_)
  · have h := ip h c_1
    refine r_iconst (v := (-1)) C dX12_reads_32 (by decide) ?_
    cases h
    exact r_iret C dX12_reads_33
  · have h := iq h c_1
    refine r_aload_n C dX12_reads_9 rfl 0 rfl ?_
    refine r_iload_n C dX12_reads_10 rfl 2 rfl ?_
    refine kX12_157 C (m_X12_isSaying rfl) (by decide) (Nat.le_of_ble_eq_true rfl) dX12_reads_11 ?_
    refine r_if_eq (tgt := 32) C dX12_reads_14 (by decide) (fun c_2 => ?_) (fun c_2 => ?_)
    · have h := ip h c_2
      refine r_iconst (v := (-1)) C dX12_reads_32 (by decide) ?_
      cases h
      exact r_iret C dX12_reads_33
    · have h := iq h c_2
      refine r_iload_n C dX12_reads_17 rfl 3 rfl ?_
      refine r_bipush (v := (-9)) C dX12_reads_18 (by decide) ?_
      refine r_icmp_eq (tgt := 34) C dX12_reads_20 (by decide) (fun c_3 => ?_) (fun c_3 => ?_)
      · have h := ip h c_3
        refine r_sub [0, 1, 2, 3] rfl ?_
        exact t_X12_reads_J34 C h
      · have h := iq h c_3
        refine r_iload_n C dX12_reads_23 rfl 3 rfl ?_
        refine r_iconst (v := 0) C dX12_reads_24 (by decide) ?_
        refine r_iconst (v := 1) C dX12_reads_25 (by decide) ?_
        refine kX12_97 C (m_X12_in rfl) (by decide) (Nat.le_of_ble_eq_true rfl) dX12_reads_26 ?_
        refine r_if_ne (tgt := 34) C dX12_reads_29 (by decide) (fun c_10 => ?_) (fun c_10 => ?_)
        · have h := iq h c_10
          refine r_sub [0, 1, 2, 3] rfl ?_
          exact t_X12_reads_J34 C h
        · have h := ip h c_10
          refine r_iconst (v := (-1)) C dX12_reads_32 (by decide) ?_
          cases h
          exact r_iret C dX12_reads_33
def M_reading_L17 (K74 : Int32 → Int32 → St → Option (Int32 × St)) (v1_2 : Int32) : Nat → Int32 → Int32 → Int32 → St → Option (Int32 × St)
  | 0, _, _, _, _ => none
  | n + 1, v2_3, v3_4, v4_5, s_6 => if 5 ≤ v4_5 then (K74 v2_3 v3_4 s_6) else (if inb ((5 * v1_2) + v4_5) 120 = true then if inb ((5 * v1_2) + v4_5) 120 = true then (M_reading_L17 K74 v1_2 n) (v2_3 + (if (s_6.1 22 0 (((5 * v1_2) + v4_5).toNatClampNeg)) < 0 then 0 else 1 : Int32)) (v3_4 + (if (s_6.1 22 0 (((5 * v1_2) + v4_5).toNatClampNeg)) = 1 then 1 else 0 : Int32)) (v4_5 + 1) s_6 else none else none)
def M_reading_J104   (t_25 : Int32) (t_26 : Int32) (s_27 : St) : Option (Int32 × St) :=
  Option.bind (M_ask t_26 t_25 s_27) (fun r_28 => some (r_28.1, r_28.2))
def M_reading (v1 : Int32) (s0 : St) : Option (Int32 × St) :=
  if (M_isSaying v1 s0) = 0 then (some ((-1), s0)) else (M_reading_L17 (fun (v2_17 : Int32) (v3_18 : Int32) (s_19 : St) => if (2 * v3_18) = v2_17 then (if inb v1 24 = true then M_reading_J104 (s_19.1 20 0 v1.toNatClampNeg) v2_17 s_19 else none) else (Option.bind (M_ask v2_17 (if (2 * v3_18) ≤ v2_17 then 0 else 1 : Int32) s_19) (fun r_23 => some (r_23.1, r_23.2)))) v1 1100 0 0 0 s0)
set_option maxHeartbeats 4000000 in
set_option maxRecDepth 100000 in
theorem t_X12_reading_L17 {x : Ctx} {w : Wp} {v1_2 : Int32} {z : Int32 × St}  {K74 : Int32 → Int32 → St → Option (Int32 × St)} (hK74 : ∀ (u2_14 : Int32) (u3_15 : Int32) (s_16 : St), K74 u2_14 u3_15 s_16 = some z → V x WM w 5 (QM x WM w (some (.int z.1)) z.2) s_16 74 [(0, .ref (wa w 0 0)), (1, .int v1_2), (2, .int u2_14), (3, .int u3_15)] []) (C : Cx x WM w cX12_reading 5 RX12 2 (some .int)) : ∀ (n : Nat) (v2_3 : Int32) (v3_4 : Int32) (v4_5 : Int32) (s_6 : St), M_reading_L17 K74 v1_2 n v2_3 v3_4 v4_5 s_6 = some z → V x WM w 5 (QM x WM w (some (.int z.1)) z.2) s_6 17 [(0, .ref (wa w 0 0)), (1, .int v1_2), (2, .int v2_3), (3, .int v3_4), (4, .int v4_5)] [] := by
  intro n
  induction n with
  | zero => intro v2_3 v3_4 v4_5 s_6 h; cases h
  | succ n ih =>
    intro v2_3 v3_4 v4_5 s_6 h
    unfold M_reading_L17 at h
    refine r_iload C dX12_reading_17 4 rfl ?_
    refine r_iconst (v := 5) C dX12_reading_19 (by decide) ?_
    refine r_icmp_ge (tgt := 74) C dX12_reading_20 (by decide) (fun c_7 => ?_) (fun c_7 => ?_)
    · have h := ip h c_7
      refine r_sub [0, 1, 2, 3] rfl ?_
      exact hK74 _ _ _ h
    · have h := iq h c_7
      refine r_iload_n C dX12_reading_23 rfl 2 rfl ?_
      refine r_aload_n C dX12_reading_24 rfl 0 rfl ?_
      refine gfX12_59 C dX12_reading_25 ?_
      refine r_iconst (v := 5) C dX12_reading_28 (by decide) ?_
      refine r_iload_n C dX12_reading_29 rfl 1 rfl ?_
      refine r_imul C dX12_reading_30 ?_
      refine r_iload C dX12_reading_31 4 rfl ?_
      refine r_iadd C dX12_reading_33 ?_
      obtain ⟨g_8, h⟩ := gdE h
      refine ldM_22 C g_8 dX12_reading_34 ?_
      refine r_em (st := [.int v2_3]) 43 ((if (s_6.1 22 0 (((5 * v1_2) + v4_5).toNatClampNeg)) < 0 then 0 else 1 : Int32)) (fun hM_10 => ?_) ?_
      · refine r_if_lt (tgt := 42) C dX12_reading_35 (by decide) (fun c_9 => ?_) (fun c_9 => ?_)
        · refine r_iconst (v := 0) C dX12_reading_42 (by decide) ?_
          exact (em_pos c_9 hM_10)
        · refine r_iconst (v := 1) C dX12_reading_38 (by decide) ?_
          refine r_goto (tgt := 43) C dX12_reading_39 (by decide) ?_
          exact (em_neg c_9 hM_10)
      refine r_iadd C dX12_reading_43 ?_
      refine r_istore_n C dX12_reading_44 rfl (Nat.le_of_ble_eq_true rfl) (L' := [(2, _), (0, _), (1, _), (3, _), (4, _)]) rfl ?_
      refine r_iload_n C dX12_reading_45 rfl 3 rfl ?_
      refine r_aload_n C dX12_reading_46 rfl 1 rfl ?_
      refine gfX12_59 C dX12_reading_47 ?_
      refine r_iconst (v := 5) C dX12_reading_50 (by decide) ?_
      refine r_iload_n C dX12_reading_51 rfl 2 rfl ?_
      refine r_imul C dX12_reading_52 ?_
      refine r_iload C dX12_reading_53 4 rfl ?_
      refine r_iadd C dX12_reading_55 ?_
      obtain ⟨g_11, h⟩ := gdE h
      refine ldM_22 C g_11 dX12_reading_56 ?_
      refine r_iconst (v := 1) C dX12_reading_57 (by decide) ?_
      refine r_em (st := [.int v3_4]) 66 ((if (s_6.1 22 0 (((5 * v1_2) + v4_5).toNatClampNeg)) = 1 then 1 else 0 : Int32)) (fun hM_13 => ?_) ?_
      · refine r_icmp_ne (tgt := 65) C dX12_reading_58 (by decide) (fun c_12 => ?_) (fun c_12 => ?_)
        · refine r_iconst (v := 0) C dX12_reading_65 (by decide) ?_
          exact (em_neg c_12 hM_13)
        · refine r_iconst (v := 1) C dX12_reading_61 (by decide) ?_
          refine r_goto (tgt := 66) C dX12_reading_62 (by decide) ?_
          exact (em_pos c_12 hM_13)
      refine r_iadd C dX12_reading_66 ?_
      refine r_istore_n C dX12_reading_67 rfl (Nat.le_of_ble_eq_true rfl) (L' := [(3, _), (2, _), (0, _), (1, _), (4, _)]) rfl ?_
      refine r_iinc (v := v4_5 + 1) C dX12_reading_68 (j := 4) rfl rfl (Nat.le_of_ble_eq_true rfl) (L' := [(4, _), (3, _), (2, _), (0, _), (1, _)]) rfl ?_
      refine r_goto (tgt := 17) C dX12_reading_71 (by decide) ?_
      refine r_sub [3, 4, 2, 1, 0] rfl ?_
      exact ih _ _ _ _ h
set_option maxHeartbeats 4000000 in
set_option maxRecDepth 100000 in
theorem t_X12_reading_J104 {x : Ctx} {w : Wp}  {t_25 : Int32} {t_26 : Int32} {s_27 : St} {z : Int32 × St}    (C : Cx x WM w cX12_reading 5 RX12 2 (some .int)) (h : M_reading_J104 t_25 t_26 s_27 = some z) : V x WM w 5 (QM x WM w (some (.int z.1)) z.2) s_27 104 [] [.int t_25, .int t_26, .ref (wa w 0 0)] := by
  unfold M_reading_J104 at h
  obtain ⟨r_28, er_28, h⟩ := bdE h
  refine kX12_119 C (m_X12_ask er_28) (by decide) (Nat.le_of_ble_eq_true rfl) dX12_reading_104 ?_
  cases h
  exact r_iret C dX12_reading_107
set_option maxHeartbeats 4000000 in
set_option maxRecDepth 100000 in
theorem m_X12_reading {l : Launch} {w : Wp} {v1 : Int32}  {s0 : St} {z : Int32 × St} (h : M_reading v1 s0 = some z) : Cm l yX12_reading (.code yX12_reading cX12_reading 5 (some .int)) 2 WM w [.ref (wa w 0 0), .int v1] s0 (some (.int z.1)) z.2 := by
  refine Cm.of (own := RX12) (by decide +kernel) rfl (Nat.le_of_ble_eq_true rfl) (L := [(0, .ref (wa w 0 0)), (1, .int v1)]) rfl KoM (fun x hl C => ?_)
  subst hl
  unfold M_reading at h
  refine r_aload_n C dX12_reading_0 rfl 0 rfl ?_
  refine r_iload_n C dX12_reading_1 rfl 1 rfl ?_
  refine kX12_157 C (m_X12_isSaying rfl) (by decide) (Nat.le_of_ble_eq_true rfl) dX12_reading_2 ?_
  refine r_if_ne (tgt := 10) C dX12_reading_5 (by decide) (fun c_1 => ?_) (fun c_1 => ?_)
  · have h := iq h c_1
    refine r_iconst (v := 0) C dX12_reading_10 (by decide) ?_
    refine r_istore_n C dX12_reading_11 rfl (Nat.le_of_ble_eq_true rfl) (L' := [(2, _), (0, _), (1, _)]) rfl ?_
    refine r_iconst (v := 0) C dX12_reading_12 (by decide) ?_
    refine r_istore_n C dX12_reading_13 rfl (Nat.le_of_ble_eq_true rfl) (L' := [(3, _), (2, _), (0, _), (1, _)]) rfl ?_
    refine r_iconst (v := 0) C dX12_reading_14 (by decide) ?_
    refine r_istore C dX12_reading_15 (Nat.le_of_ble_eq_true rfl) (L' := [(4, _), (3, _), (2, _), (0, _), (1, _)]) rfl ?_
    refine r_sub [3, 4, 2, 1, 0] rfl ?_
    refine t_X12_reading_L17 (fun v2_17 v3_18 s_19 h => ?_) C _ _ _ _ _ h
    refine r_aload_n C dX12_reading_74 rfl 0 rfl ?_
    refine r_iload_n C dX12_reading_75 rfl 2 rfl ?_
    refine r_iconst (v := 2) C dX12_reading_76 (by decide) ?_
    refine r_iload_n C dX12_reading_77 rfl 3 rfl ?_
    refine r_imul C dX12_reading_78 ?_
    refine r_iload_n C dX12_reading_79 rfl 2 rfl ?_
    refine r_icmp_ne (tgt := 92) C dX12_reading_80 (by decide) (fun c_20 => ?_) (fun c_20 => ?_)
    · have h := iq h c_20
      refine r_iconst (v := 2) C dX12_reading_92 (by decide) ?_
      refine r_iload_n C dX12_reading_93 rfl 3 rfl ?_
      refine r_imul C dX12_reading_94 ?_
      refine r_iload_n C dX12_reading_95 rfl 2 rfl ?_
      refine r_em (st := [.int v2_17, .ref (wa w 0 0)]) 104 ((if (2 * v3_18) ≤ v2_17 then 0 else 1 : Int32)) (fun hM_22 => ?_) ?_
      · refine r_icmp_le (tgt := 103) C dX12_reading_96 (by decide) (fun c_21 => ?_) (fun c_21 => ?_)
        · refine r_iconst (v := 0) C dX12_reading_103 (by decide) ?_
          exact (em_pos c_21 hM_22)
        · refine r_iconst (v := 1) C dX12_reading_99 (by decide) ?_
          refine r_goto (tgt := 104) C dX12_reading_100 (by decide) ?_
          exact (em_neg c_21 hM_22)
      obtain ⟨r_23, er_23, h⟩ := bdE h
      refine kX12_119 C (m_X12_ask er_23) (by decide) (Nat.le_of_ble_eq_true rfl) dX12_reading_104 ?_
      cases h
      exact r_iret C dX12_reading_107
    · have h := ip h c_20
      refine r_aload_n C dX12_reading_83 rfl 0 rfl ?_
      refine gfX12_53 C dX12_reading_84 ?_
      refine r_iload_n C dX12_reading_87 rfl 1 rfl ?_
      obtain ⟨g_24, h⟩ := gdE h
      refine ldM_20 C g_24 dX12_reading_88 ?_
      refine r_goto (tgt := 104) C dX12_reading_89 (by decide) ?_
      refine r_sub [] rfl ?_
      exact t_X12_reading_J104 C h
  · have h := ip h c_1
    refine r_iconst (v := (-1)) C dX12_reading_8 (by decide) ?_
    cases h
    exact r_iret C dX12_reading_9
def M_slip_L40 (K59 : Int64 → St → Option (Int32 × St)) (v1_4 : Int32) (v2_5 : Int32) (v3_6 : Int32) (v6_8 : Int64) : Nat → Int64 → Int32 → St → Option (Int32 × St)
  | 0, _, _, _ => none
  | n + 1, v4_7, v8_9, s_10 => if v1_4 ≤ v8_9 then (K59 v4_7 s_10) else ((M_slip_L40 K59 v1_4 v2_5 v3_6 v6_8 n) (v4_7 * v2_5.toInt64) (v8_9 + 1) s_10)
def M_slip_L78 (K102 : Int64 → St → Option (Int32 × St)) (v1_25 : Int32) (v2_26 : Int32) (v3_27 : Int32) (v4_28 : Int64) (v6_29 : Int64) (v8_30 : Int64) (v10_31 : Int32) : Nat → Int64 → Int32 → St → Option (Int32 × St)
  | 0, _, _, _ => none
  | n + 1, v11_32, v13_33, s_34 => if (v1_25 - v10_31) ≤ v13_33 then (K102 v11_32 s_34) else ((M_slip_L78 K102 v1_25 v2_26 v3_27 v4_28 v6_29 v8_30 v10_31 n) (v11_32 * ((v2_26 - 1).toInt64)) (v13_33 + 1) s_34)
def M_slip_L65 (K141 : Int64 → St → Option (Int32 × St)) (v1_16 : Int32) (v2_17 : Int32) (v3_18 : Int32) (v4_19 : Int64) : Nat → Int64 → Int64 → Int32 → St → Option (Int32 × St)
  | 0, _, _, _, _ => none
  | n + 1, v6_20, v8_21, v10_22, s_23 => if v1_16 < v10_22 then (K141 v6_20 s_23) else (M_slip_L78 (fun (v11_38 : Int64) (s_39 : St) => if ¬ ((v10_22 + 1).toInt64) = 0 then (M_slip_L65 K141 v1_16 v2_17 v3_18 v4_19 n) (v6_20 + (if v10_22 < v3_18 then 0 else v11_38 : Int64)) ((v8_21 * ((v1_16 - v10_22).toInt64)) / ((v10_22 + 1).toInt64)) (v10_22 + 1) s_39 else none) v1_16 v2_17 v3_18 v4_19 v6_20 v8_21 v10_22 1100 v8_21 0 s_23)
def M_slip_L149 (K174 : Int64 → St → Option (Int32 × St)) (v4_47 : Int64) (v6_48 : Int64) : Nat → Int64 → Int64 → St → Option (Int32 × St)
  | 0, _, _, _ => none
  | n + 1, v10_49, v12_50, s_51 => if (lg_cmp v12_50 0) = 0 then (K174 v10_49 s_51) else (if ¬ v12_50 = 0 then (M_slip_L149 K174 v4_47 v6_48 n) v12_50 (v10_49 - v10_49 / v12_50 * v12_50) s_51 else none)
def M_slip (v1 : Int32) (v2 : Int32) (v3 : Int32) (s0 : St) : Option (Int32 × St) :=
  if (M_in v1 1 12) = 0 then (some ((-1), s0)) else (if (M_in v2 2 9) = 0 then (some ((-1), s0)) else (if (M_in v3 0 v1) = 0 then (some ((-1), s0)) else (M_slip_L40 (fun (v4_14 : Int64) (s_15 : St) => M_slip_L65 (fun (v6_45 : Int64) (s_46 : St) => M_slip_L149 (fun (v10_56 : Int64) (s_57 : St) => if ¬ v10_56 = 0 then if ¬ v10_56 = 0 then some (1, sY (sY s_57 3 (v6_45 / v10_56)) 4 (v4_14 / v10_56)) else none else none) v4_14 v6_45 1100 v6_45 v4_14 s_46) v1 v2 v3 v4_14 1100 0 1 0 s_15) v1 v2 v3 0 1100 1 0 s0)))
set_option maxHeartbeats 4000000 in
set_option maxRecDepth 100000 in
theorem t_X12_slip_L40 {x : Ctx} {w : Wp} {v1_4 : Int32} {v2_5 : Int32} {v3_6 : Int32} {v6_8 : Int64} {z : Int32 × St}  {K59 : Int64 → St → Option (Int32 × St)} (hK59 : ∀ (u4_12 : Int64) (s_13 : St), K59 u4_12 s_13 = some z → V x WM w 16 (QM x WM w (some (.int z.1)) z.2) s_13 59 [(0, .ref (wa w 0 0)), (1, .int v1_4), (2, .int v2_5), (3, .int v3_6), (4, .long u4_12), (6, .long v6_8)] []) (C : Cx x WM w cX12_slip 16 RX12 1 (some .int)) : ∀ (n : Nat) (v4_7 : Int64) (v8_9 : Int32) (s_10 : St), M_slip_L40 K59 v1_4 v2_5 v3_6 v6_8 n v4_7 v8_9 s_10 = some z → V x WM w 16 (QM x WM w (some (.int z.1)) z.2) s_10 40 [(0, .ref (wa w 0 0)), (1, .int v1_4), (2, .int v2_5), (3, .int v3_6), (4, .long v4_7), (6, .long v6_8), (8, .int v8_9)] [] := by
  intro n
  induction n with
  | zero => intro v4_7 v8_9 s_10 h; cases h
  | succ n ih =>
    intro v4_7 v8_9 s_10 h
    unfold M_slip_L40 at h
    refine r_iload C dX12_slip_40 6 rfl ?_
    refine r_iload_n C dX12_slip_42 rfl 1 rfl ?_
    refine r_icmp_ge (tgt := 59) C dX12_slip_43 (by decide) (fun c_11 => ?_) (fun c_11 => ?_)
    · have h := ip h c_11
      refine r_sub [0, 1, 2, 3, 4, 5] rfl ?_
      exact hK59 _ _ h
    · have h := iq h c_11
      refine r_lload C dX12_slip_46 4 rfl ?_
      refine r_iload_n C dX12_slip_48 rfl 2 rfl ?_
      refine r_i2l C dX12_slip_49 ?_
      refine r_lmul C dX12_slip_50 ?_
      refine r_lstore C dX12_slip_51 (Nat.le_of_ble_eq_true rfl) (L' := [(4, _), (0, _), (1, _), (2, _), (3, _), (6, _), (8, _)]) rfl ?_
      refine r_iinc (v := v8_9 + 1) C dX12_slip_53 (j := 6) rfl rfl (Nat.le_of_ble_eq_true rfl) (L' := [(8, _), (4, _), (0, _), (1, _), (2, _), (3, _), (6, _)]) rfl ?_
      refine r_goto (tgt := 40) C dX12_slip_56 (by decide) ?_
      refine r_sub [2, 3, 4, 5, 1, 6, 0] rfl ?_
      exact ih _ _ _ h
set_option maxHeartbeats 4000000 in
set_option maxRecDepth 100000 in
theorem t_X12_slip_L78 {x : Ctx} {w : Wp} {v1_25 : Int32} {v2_26 : Int32} {v3_27 : Int32} {v4_28 : Int64} {v6_29 : Int64} {v8_30 : Int64} {v10_31 : Int32} {z : Int32 × St}  {K102 : Int64 → St → Option (Int32 × St)} (hK102 : ∀ (u11_36 : Int64) (s_37 : St), K102 u11_36 s_37 = some z → V x WM w 16 (QM x WM w (some (.int z.1)) z.2) s_37 102 [(0, .ref (wa w 0 0)), (1, .int v1_25), (2, .int v2_26), (3, .int v3_27), (4, .long v4_28), (6, .long v6_29), (8, .long v8_30), (10, .int v10_31), (11, .long u11_36)] []) (C : Cx x WM w cX12_slip 16 RX12 1 (some .int)) : ∀ (n : Nat) (v11_32 : Int64) (v13_33 : Int32) (s_34 : St), M_slip_L78 K102 v1_25 v2_26 v3_27 v4_28 v6_29 v8_30 v10_31 n v11_32 v13_33 s_34 = some z → V x WM w 16 (QM x WM w (some (.int z.1)) z.2) s_34 78 [(0, .ref (wa w 0 0)), (1, .int v1_25), (2, .int v2_26), (3, .int v3_27), (4, .long v4_28), (6, .long v6_29), (8, .long v8_30), (10, .int v10_31), (11, .long v11_32), (13, .int v13_33)] [] := by
  intro n
  induction n with
  | zero => intro v11_32 v13_33 s_34 h; cases h
  | succ n ih =>
    intro v11_32 v13_33 s_34 h
    unfold M_slip_L78 at h
    refine r_iload C dX12_slip_78 9 rfl ?_
    refine r_iload_n C dX12_slip_80 rfl 1 rfl ?_
    refine r_iload C dX12_slip_81 7 rfl ?_
    refine r_isub C dX12_slip_83 ?_
    refine r_icmp_ge (tgt := 102) C dX12_slip_84 (by decide) (fun c_35 => ?_) (fun c_35 => ?_)
    · have h := ip h c_35
      refine r_sub [0, 1, 2, 3, 4, 5, 6, 7, 8] rfl ?_
      exact hK102 _ _ h
    · have h := iq h c_35
      refine r_lload C dX12_slip_87 8 rfl ?_
      refine r_iload_n C dX12_slip_89 rfl 2 rfl ?_
      refine r_iconst (v := 1) C dX12_slip_90 (by decide) ?_
      refine r_isub C dX12_slip_91 ?_
      refine r_i2l C dX12_slip_92 ?_
      refine r_lmul C dX12_slip_93 ?_
      refine r_lstore C dX12_slip_94 (Nat.le_of_ble_eq_true rfl) (L' := [(11, _), (0, _), (1, _), (2, _), (3, _), (4, _), (6, _), (8, _), (10, _), (13, _)]) rfl ?_
      refine r_iinc (v := v13_33 + 1) C dX12_slip_96 (j := 9) rfl rfl (Nat.le_of_ble_eq_true rfl) (L' := [(13, _), (11, _), (0, _), (1, _), (2, _), (3, _), (4, _), (6, _), (8, _), (10, _)]) rfl ?_
      refine r_goto (tgt := 78) C dX12_slip_99 (by decide) ?_
      refine r_sub [2, 3, 4, 5, 6, 7, 8, 9, 1, 0] rfl ?_
      exact ih _ _ _ h
set_option maxHeartbeats 4000000 in
set_option maxRecDepth 100000 in
theorem t_X12_slip_L65 {x : Ctx} {w : Wp} {v1_16 : Int32} {v2_17 : Int32} {v3_18 : Int32} {v4_19 : Int64} {z : Int32 × St}  {K141 : Int64 → St → Option (Int32 × St)} (hK141 : ∀ (u6_43 : Int64) (s_44 : St), K141 u6_43 s_44 = some z → V x WM w 16 (QM x WM w (some (.int z.1)) z.2) s_44 141 [(0, .ref (wa w 0 0)), (4, .long v4_19), (6, .long u6_43)] []) (C : Cx x WM w cX12_slip 16 RX12 1 (some .int)) : ∀ (n : Nat) (v6_20 : Int64) (v8_21 : Int64) (v10_22 : Int32) (s_23 : St), M_slip_L65 K141 v1_16 v2_17 v3_18 v4_19 n v6_20 v8_21 v10_22 s_23 = some z → V x WM w 16 (QM x WM w (some (.int z.1)) z.2) s_23 65 [(0, .ref (wa w 0 0)), (1, .int v1_16), (2, .int v2_17), (3, .int v3_18), (4, .long v4_19), (6, .long v6_20), (8, .long v8_21), (10, .int v10_22)] [] := by
  intro n
  induction n with
  | zero => intro v6_20 v8_21 v10_22 s_23 h; cases h
  | succ n ih =>
    intro v6_20 v8_21 v10_22 s_23 h
    unfold M_slip_L65 at h
    refine r_iload C dX12_slip_65 7 rfl ?_
    refine r_iload_n C dX12_slip_67 rfl 1 rfl ?_
    refine r_icmp_gt (tgt := 141) C dX12_slip_68 (by decide) (fun c_24 => ?_) (fun c_24 => ?_)
    · have h := ip h c_24
      refine r_sub [0, 4, 5] rfl ?_
      exact hK141 _ _ h
    · have h := iq h c_24
      refine r_lload C dX12_slip_71 6 rfl ?_
      refine r_lstore C dX12_slip_73 (Nat.le_of_ble_eq_true rfl) (L' := [(11, _), (0, _), (1, _), (2, _), (3, _), (4, _), (6, _), (8, _), (10, _)]) rfl ?_
      refine r_iconst (v := 0) C dX12_slip_75 (by decide) ?_
      refine r_istore C dX12_slip_76 (Nat.le_of_ble_eq_true rfl) (L' := [(13, _), (11, _), (0, _), (1, _), (2, _), (3, _), (4, _), (6, _), (8, _), (10, _)]) rfl ?_
      refine r_sub [2, 3, 4, 5, 6, 7, 8, 9, 1, 0] rfl ?_
      refine t_X12_slip_L78 (fun v11_38 s_39 h => ?_) C _ _ _ _ h
      refine r_lload C dX12_slip_102 5 rfl ?_
      refine r_iload C dX12_slip_104 7 rfl ?_
      refine r_iload_n C dX12_slip_106 rfl 3 rfl ?_
      refine r_emL (st := [.long v6_20]) 116 ((if v10_22 < v3_18 then 0 else v11_38 : Int64)) (fun hM_41 => ?_) ?_
      · refine r_icmp_lt (tgt := 115) C dX12_slip_107 (by decide) (fun c_40 => ?_) (fun c_40 => ?_)
        · refine r_lconst (v := 0) C dX12_slip_115 (by decide) ?_
          exact (em_posL c_40 hM_41)
        · refine r_lload C dX12_slip_110 8 rfl ?_
          refine r_goto (tgt := 116) C dX12_slip_112 (by decide) ?_
          exact (em_negL c_40 hM_41)
      refine r_ladd C dX12_slip_116 ?_
      refine r_lstore C dX12_slip_117 (Nat.le_of_ble_eq_true rfl) (L' := [(6, _), (0, _), (1, _), (2, _), (3, _), (4, _), (8, _), (10, _), (11, _)]) rfl ?_
      refine r_lload C dX12_slip_119 6 rfl ?_
      refine r_iload_n C dX12_slip_121 rfl 2 rfl ?_
      refine r_iload C dX12_slip_122 7 rfl ?_
      refine r_isub C dX12_slip_124 ?_
      refine r_i2l C dX12_slip_125 ?_
      refine r_lmul C dX12_slip_126 ?_
      refine r_iload C dX12_slip_127 7 rfl ?_
      refine r_iconst (v := 1) C dX12_slip_129 (by decide) ?_
      refine r_iadd C dX12_slip_130 ?_
      refine r_i2l C dX12_slip_131 ?_
      obtain ⟨g_42, h⟩ := gdE h
      refine r_ldiv C dX12_slip_132 g_42 ?_
      refine r_lstore C dX12_slip_133 (Nat.le_of_ble_eq_true rfl) (L' := [(8, _), (6, _), (0, _), (1, _), (2, _), (3, _), (4, _), (10, _), (11, _)]) rfl ?_
      refine r_iinc (v := v10_22 + 1) C dX12_slip_135 (j := 7) rfl rfl (Nat.le_of_ble_eq_true rfl) (L' := [(10, _), (8, _), (6, _), (0, _), (1, _), (2, _), (3, _), (4, _), (11, _)]) rfl ?_
      refine r_goto (tgt := 65) C dX12_slip_138 (by decide) ?_
      refine r_sub [3, 4, 5, 6, 7, 2, 1, 0] rfl ?_
      exact ih _ _ _ _ h
set_option maxHeartbeats 4000000 in
set_option maxRecDepth 100000 in
theorem t_X12_slip_L149 {x : Ctx} {w : Wp} {v4_47 : Int64} {v6_48 : Int64} {z : Int32 × St}  {K174 : Int64 → St → Option (Int32 × St)} (hK174 : ∀ (u10_54 : Int64) (s_55 : St), K174 u10_54 s_55 = some z → V x WM w 16 (QM x WM w (some (.int z.1)) z.2) s_55 174 [(0, .ref (wa w 0 0)), (4, .long v4_47), (6, .long v6_48), (10, .long u10_54)] []) (C : Cx x WM w cX12_slip 16 RX12 1 (some .int)) : ∀ (n : Nat) (v10_49 : Int64) (v12_50 : Int64) (s_51 : St), M_slip_L149 K174 v4_47 v6_48 n v10_49 v12_50 s_51 = some z → V x WM w 16 (QM x WM w (some (.int z.1)) z.2) s_51 149 [(0, .ref (wa w 0 0)), (4, .long v4_47), (6, .long v6_48), (10, .long v10_49), (12, .long v12_50)] [] := by
  intro n
  induction n with
  | zero => intro v10_49 v12_50 s_51 h; cases h
  | succ n ih =>
    intro v10_49 v12_50 s_51 h
    unfold M_slip_L149 at h
    refine r_lload C dX12_slip_149 4 rfl ?_
    refine r_lconst (v := 0) C dX12_slip_151 (by decide) ?_
    refine r_lcmp C dX12_slip_152 ?_
    refine r_if_eq (tgt := 174) C dX12_slip_153 (by decide) (fun c_52 => ?_) (fun c_52 => ?_)
    · have h := ip h c_52
      refine r_sub [0, 1, 2, 3] rfl ?_
      exact hK174 _ _ h
    · have h := iq h c_52
      refine r_lload C dX12_slip_156 3 rfl ?_
      refine r_lload C dX12_slip_158 4 rfl ?_
      obtain ⟨g_53, h⟩ := gdE h
      refine r_lrem C dX12_slip_160 g_53 ?_
      refine r_lstore C dX12_slip_161 (Nat.le_of_ble_eq_true rfl) (L' := [(14, _), (0, _), (4, _), (6, _), (10, _), (12, _)]) rfl ?_
      refine r_lload C dX12_slip_163 5 rfl ?_
      refine r_lstore C dX12_slip_165 (Nat.le_of_ble_eq_true rfl) (L' := [(10, _), (14, _), (0, _), (4, _), (6, _), (12, _)]) rfl ?_
      refine r_lload C dX12_slip_167 1 rfl ?_
      refine r_lstore C dX12_slip_169 (Nat.le_of_ble_eq_true rfl) (L' := [(12, _), (10, _), (14, _), (0, _), (4, _), (6, _)]) rfl ?_
      refine r_goto (tgt := 149) C dX12_slip_171 (by decide) ?_
      refine r_sub [3, 4, 5, 1, 0] rfl ?_
      exact ih _ _ _ h
set_option maxHeartbeats 4000000 in
set_option maxRecDepth 100000 in
theorem m_X12_slip {l : Launch} {w : Wp} {v1 : Int32} {v2 : Int32} {v3 : Int32}  {s0 : St} {z : Int32 × St} (h : M_slip v1 v2 v3 s0 = some z) : Cm l yX12_slip (.code yX12_slip cX12_slip 16 (some .int)) 1 WM w [.ref (wa w 0 0), .int v1, .int v2, .int v3] s0 (some (.int z.1)) z.2 := by
  refine Cm.of (own := RX12) (by decide +kernel) rfl (Nat.le_of_ble_eq_true rfl) (L := [(0, .ref (wa w 0 0)), (1, .int v1), (2, .int v2), (3, .int v3)]) rfl KoM (fun x hl C => ?_)
  subst hl
  unfold M_slip at h
  refine r_iload_n C dX12_slip_0 rfl 1 rfl ?_
  refine r_iconst (v := 1) C dX12_slip_1 (by decide) ?_
  refine r_bipush (v := 12) C dX12_slip_2 (by decide) ?_
  refine kX12_97 C (m_X12_in rfl) (by decide) (Nat.le_of_ble_eq_true rfl) dX12_slip_4 ?_
  refine r_if_eq (tgt := 29) C dX12_slip_7 (by decide) (fun c_1 => ?_) (fun c_1 => ?_)
  · have h := ip h c_1
    refine r_iconst (v := (-1)) C dX12_slip_29 (by decide) ?_
    cases h
    exact r_iret C dX12_slip_30
  · have h := iq h c_1
    refine r_iload_n C dX12_slip_10 rfl 2 rfl ?_
    refine r_iconst (v := 2) C dX12_slip_11 (by decide) ?_
    refine r_bipush (v := 9) C dX12_slip_12 (by decide) ?_
    refine kX12_97 C (m_X12_in rfl) (by decide) (Nat.le_of_ble_eq_true rfl) dX12_slip_14 ?_
    refine r_if_eq (tgt := 29) C dX12_slip_17 (by decide) (fun c_2 => ?_) (fun c_2 => ?_)
    · have h := ip h c_2
      refine r_iconst (v := (-1)) C dX12_slip_29 (by decide) ?_
      cases h
      exact r_iret C dX12_slip_30
    · have h := iq h c_2
      refine r_iload_n C dX12_slip_20 rfl 3 rfl ?_
      refine r_iconst (v := 0) C dX12_slip_21 (by decide) ?_
      refine r_iload_n C dX12_slip_22 rfl 1 rfl ?_
      refine kX12_97 C (m_X12_in rfl) (by decide) (Nat.le_of_ble_eq_true rfl) dX12_slip_23 ?_
      refine r_if_ne (tgt := 31) C dX12_slip_26 (by decide) (fun c_3 => ?_) (fun c_3 => ?_)
      · have h := iq h c_3
        refine r_lconst (v := 1) C dX12_slip_31 (by decide) ?_
        refine r_lstore C dX12_slip_32 (Nat.le_of_ble_eq_true rfl) (L' := [(4, _), (0, _), (1, _), (2, _), (3, _)]) rfl ?_
        refine r_lconst (v := 0) C dX12_slip_34 (by decide) ?_
        refine r_lstore C dX12_slip_35 (Nat.le_of_ble_eq_true rfl) (L' := [(6, _), (4, _), (0, _), (1, _), (2, _), (3, _)]) rfl ?_
        refine r_iconst (v := 0) C dX12_slip_37 (by decide) ?_
        refine r_istore C dX12_slip_38 (Nat.le_of_ble_eq_true rfl) (L' := [(8, _), (6, _), (4, _), (0, _), (1, _), (2, _), (3, _)]) rfl ?_
        refine r_sub [3, 4, 5, 6, 2, 1, 0] rfl ?_
        refine t_X12_slip_L40 (fun v4_14 s_15 h => ?_) C _ _ _ _ h
        refine r_lconst (v := 1) C dX12_slip_59 (by decide) ?_
        refine r_lstore C dX12_slip_60 (Nat.le_of_ble_eq_true rfl) (L' := [(8, _), (0, _), (1, _), (2, _), (3, _), (4, _), (6, _)]) rfl ?_
        refine r_iconst (v := 0) C dX12_slip_62 (by decide) ?_
        refine r_istore C dX12_slip_63 (Nat.le_of_ble_eq_true rfl) (L' := [(10, _), (8, _), (0, _), (1, _), (2, _), (3, _), (4, _), (6, _)]) rfl ?_
        refine r_sub [2, 3, 4, 5, 6, 7, 1, 0] rfl ?_
        refine t_X12_slip_L65 (fun v6_45 s_46 h => ?_) C _ _ _ _ _ h
        refine r_lload C dX12_slip_141 2 rfl ?_
        refine r_lstore C dX12_slip_143 (Nat.le_of_ble_eq_true rfl) (L' := [(10, _), (0, _), (4, _), (6, _)]) rfl ?_
        refine r_lload C dX12_slip_145 2 rfl ?_
        refine r_lstore C dX12_slip_147 (Nat.le_of_ble_eq_true rfl) (L' := [(12, _), (10, _), (0, _), (4, _), (6, _)]) rfl ?_
        refine r_sub [2, 3, 4, 1, 0] rfl ?_
        refine t_X12_slip_L149 (fun v10_56 s_57 h => ?_) C _ _ _ _ h
        refine r_aload_n C dX12_slip_174 rfl 0 rfl ?_
        refine r_lload C dX12_slip_175 2 rfl ?_
        refine r_lload C dX12_slip_177 3 rfl ?_
        obtain ⟨g_58, h⟩ := gdE h
        refine r_ldiv C dX12_slip_179 g_58 ?_
        refine pfX12_259 C dX12_slip_180 ?_
        refine r_aload_n C dX12_slip_183 rfl 0 rfl ?_
        refine r_lload C dX12_slip_184 1 rfl ?_
        refine r_lload C dX12_slip_186 3 rfl ?_
        obtain ⟨g_59, h⟩ := gdE h
        refine r_ldiv C dX12_slip_188 g_59 ?_
        refine pfX12_13 C dX12_slip_189 ?_
        refine r_iconst (v := 1) C dX12_slip_192 (by decide) ?_
        cases h
        exact r_iret C dX12_slip_193
      · have h := ip h c_3
        refine r_iconst (v := (-1)) C dX12_slip_29 (by decide) ?_
        cases h
        exact r_iret C dX12_slip_30
