def M_instance (v1 : Int32) (s0 : St) : Option (Int32 × St) :=
  if (M_isSet v1) = 0 then (some ((-1), s0)) else (if (s0.1 0 0 10) = 12 then (some ((-2), s0)) else (if inb (s0.1 0 0 10) 12 = true then some (((sX (sX s0 11 0 ((s0.1 0 0 10).toNatClampNeg) v1) 0 0 10 (((sX s0 11 0 ((s0.1 0 0 10).toNatClampNeg) v1).1 0 0 10) + 1)).1 0 0 10) - 1, sX (sX s0 11 0 ((s0.1 0 0 10).toNatClampNeg) v1) 0 0 10 (((sX s0 11 0 ((s0.1 0 0 10).toNatClampNeg) v1).1 0 0 10) + 1)) else none))
set_option maxHeartbeats 4000000 in
set_option maxRecDepth 100000 in
theorem m_X12_instance {l : Launch} {w : Wp} {v1 : Int32}  {s0 : St} {z : Int32 × St} (h : M_instance v1 s0 = some z) : Cm l yX12_instance (.code yX12_instance cX12_instance 2 (some .int)) 2 WM w [.ref (wa w 0 0), .int v1] s0 (some (.int z.1)) z.2 := by
  refine Cm.of (own := RX12) (by decide +kernel) rfl (Nat.le_of_ble_eq_true rfl) (L := [(0, .ref (wa w 0 0)), (1, .int v1)]) rfl KoM (fun x hl C => ?_)
  subst hl
  unfold M_instance at h
  refine r_iload_n C dX12_instance_0 rfl 1 rfl ?_
  refine kX12_134 C (m_X12_isSet rfl) (by decide) (Nat.le_of_ble_eq_true rfl) dX12_instance_1 ?_
  refine r_if_ne (tgt := 9) C dX12_instance_4 (by decide) (fun c_1 => ?_) (fun c_1 => ?_)
  · have h := iq h c_1
    refine r_aload_n C dX12_instance_9 rfl 0 rfl ?_
    refine gfX12_125 C dX12_instance_10 ?_
    refine r_bipush (v := 12) C dX12_instance_13 (by decide) ?_
    refine r_icmp_ne (tgt := 21) C dX12_instance_15 (by decide) (fun c_2 => ?_) (fun c_2 => ?_)
    · have h := iq h c_2
      refine r_aload_n C dX12_instance_21 rfl 0 rfl ?_
      refine gfX12_32 C dX12_instance_22 ?_
      refine r_aload_n C dX12_instance_25 rfl 0 rfl ?_
      refine gfX12_125 C dX12_instance_26 ?_
      refine r_iload_n C dX12_instance_29 rfl 1 rfl ?_
      obtain ⟨g_3, h⟩ := gdE h
      refine stM_11 C g_3 dX12_instance_30 ?_
      refine r_aload_n C dX12_instance_31 rfl 0 rfl ?_
      refine r_dup C dX12_instance_32 rfl ?_
      refine gfX12_125 C dX12_instance_33 ?_
      refine r_iconst (v := 1) C dX12_instance_36 (by decide) ?_
      refine r_iadd C dX12_instance_37 ?_
      refine pfX12_125 C dX12_instance_38 ?_
      refine r_aload_n C dX12_instance_41 rfl 0 rfl ?_
      refine gfX12_125 C dX12_instance_42 ?_
      refine r_iconst (v := 1) C dX12_instance_45 (by decide) ?_
      refine r_isub C dX12_instance_46 ?_
      cases h
      exact r_iret C dX12_instance_47
    · have h := ip h c_2
      refine r_bipush (v := (-2)) C dX12_instance_18 (by decide) ?_
      cases h
      exact r_iret C dX12_instance_20
  · have h := ip h c_1
    refine r_iconst (v := (-1)) C dX12_instance_7 (by decide) ?_
    cases h
    exact r_iret C dX12_instance_8
def M_master_J38  (v1_4 : Int32) (v2_5 : Int32) (v3_6 : Int32)  (s_7 : St) : Option (Int32 × St) :=
  if (s_7.1 0 0 12) = 8 then (some ((-2), s_7)) else (if inb (s_7.1 0 0 12) 8 = true then if inb ((sX s_7 13 0 ((s_7.1 0 0 12).toNatClampNeg) v1_4).1 0 0 12) 8 = true then if inb ((sX (sX s_7 13 0 ((s_7.1 0 0 12).toNatClampNeg) v1_4) 14 0 (((sX s_7 13 0 ((s_7.1 0 0 12).toNatClampNeg) v1_4).1 0 0 12).toNatClampNeg) v2_5).1 0 0 12) 8 = true then some (((sX (sX (sX (sX s_7 13 0 ((s_7.1 0 0 12).toNatClampNeg) v1_4) 14 0 (((sX s_7 13 0 ((s_7.1 0 0 12).toNatClampNeg) v1_4).1 0 0 12).toNatClampNeg) v2_5) 15 0 (((sX (sX s_7 13 0 ((s_7.1 0 0 12).toNatClampNeg) v1_4) 14 0 (((sX s_7 13 0 ((s_7.1 0 0 12).toNatClampNeg) v1_4).1 0 0 12).toNatClampNeg) v2_5).1 0 0 12).toNatClampNeg) v3_6) 0 0 12 (((sX (sX (sX s_7 13 0 ((s_7.1 0 0 12).toNatClampNeg) v1_4) 14 0 (((sX s_7 13 0 ((s_7.1 0 0 12).toNatClampNeg) v1_4).1 0 0 12).toNatClampNeg) v2_5) 15 0 (((sX (sX s_7 13 0 ((s_7.1 0 0 12).toNatClampNeg) v1_4) 14 0 (((sX s_7 13 0 ((s_7.1 0 0 12).toNatClampNeg) v1_4).1 0 0 12).toNatClampNeg) v2_5).1 0 0 12).toNatClampNeg) v3_6).1 0 0 12) + 1)).1 0 0 12) - 1, sX (sX (sX (sX s_7 13 0 ((s_7.1 0 0 12).toNatClampNeg) v1_4) 14 0 (((sX s_7 13 0 ((s_7.1 0 0 12).toNatClampNeg) v1_4).1 0 0 12).toNatClampNeg) v2_5) 15 0 (((sX (sX s_7 13 0 ((s_7.1 0 0 12).toNatClampNeg) v1_4) 14 0 (((sX s_7 13 0 ((s_7.1 0 0 12).toNatClampNeg) v1_4).1 0 0 12).toNatClampNeg) v2_5).1 0 0 12).toNatClampNeg) v3_6) 0 0 12 (((sX (sX (sX s_7 13 0 ((s_7.1 0 0 12).toNatClampNeg) v1_4) 14 0 (((sX s_7 13 0 ((s_7.1 0 0 12).toNatClampNeg) v1_4).1 0 0 12).toNatClampNeg) v2_5) 15 0 (((sX (sX s_7 13 0 ((s_7.1 0 0 12).toNatClampNeg) v1_4) 14 0 (((sX s_7 13 0 ((s_7.1 0 0 12).toNatClampNeg) v1_4).1 0 0 12).toNatClampNeg) v2_5).1 0 0 12).toNatClampNeg) v3_6).1 0 0 12) + 1)) else none else none else none)
def M_master (v1 : Int32) (v2 : Int32) (v3 : Int32) (s0 : St) : Option (Int32 × St) :=
  if (M_in v1 0 999) = 0 then (some ((-1), s0)) else (if (M_in v2 v1 999) = 0 then (some ((-1), s0)) else (if v3 = (-9) then (M_master_J38 v1 v2 v3 s0) else (if (M_isMaster v3 s0) = 0 then (some ((-1), s0)) else (M_master_J38 v1 v2 v3 s0))))
set_option maxHeartbeats 4000000 in
set_option maxRecDepth 100000 in
theorem t_X12_master_J38 {x : Ctx} {w : Wp} {v1_4 : Int32} {v2_5 : Int32} {v3_6 : Int32}  {s_7 : St} {z : Int32 × St}    (C : Cx x WM w cX12_master 4 RX12 2 (some .int)) (h : M_master_J38 v1_4 v2_5 v3_6 s_7 = some z) : V x WM w 4 (QM x WM w (some (.int z.1)) z.2) s_7 38 [(0, .ref (wa w 0 0)), (1, .int v1_4), (2, .int v2_5), (3, .int v3_6)] [] := by
  unfold M_master_J38 at h
  refine r_aload_n C dX12_master_38 rfl 0 rfl ?_
  refine gfX12_128 C dX12_master_39 ?_
  refine r_bipush (v := 8) C dX12_master_42 (by decide) ?_
  refine r_icmp_ne (tgt := 50) C dX12_master_44 (by decide) (fun c_8 => ?_) (fun c_8 => ?_)
  · have h := iq h c_8
    refine r_aload_n C dX12_master_50 rfl 0 rfl ?_
    refine gfX12_35 C dX12_master_51 ?_
    refine r_aload_n C dX12_master_54 rfl 0 rfl ?_
    refine gfX12_128 C dX12_master_55 ?_
    refine r_iload_n C dX12_master_58 rfl 1 rfl ?_
    obtain ⟨g_9, h⟩ := gdE h
    refine stM_13 C g_9 dX12_master_59 ?_
    refine r_aload_n C dX12_master_60 rfl 0 rfl ?_
    refine gfX12_38 C dX12_master_61 ?_
    refine r_aload_n C dX12_master_64 rfl 0 rfl ?_
    refine gfX12_128 C dX12_master_65 ?_
    refine r_iload_n C dX12_master_68 rfl 2 rfl ?_
    obtain ⟨g_10, h⟩ := gdE h
    refine stM_14 C g_10 dX12_master_69 ?_
    refine r_aload_n C dX12_master_70 rfl 0 rfl ?_
    refine gfX12_41 C dX12_master_71 ?_
    refine r_aload_n C dX12_master_74 rfl 0 rfl ?_
    refine gfX12_128 C dX12_master_75 ?_
    refine r_iload_n C dX12_master_78 rfl 3 rfl ?_
    obtain ⟨g_11, h⟩ := gdE h
    refine stM_15 C g_11 dX12_master_79 ?_
    refine r_aload_n C dX12_master_80 rfl 0 rfl ?_
    refine r_dup C dX12_master_81 rfl ?_
    refine gfX12_128 C dX12_master_82 ?_
    refine r_iconst (v := 1) C dX12_master_85 (by decide) ?_
    refine r_iadd C dX12_master_86 ?_
    refine pfX12_128 C dX12_master_87 ?_
    refine r_aload_n C dX12_master_90 rfl 0 rfl ?_
    refine gfX12_128 C dX12_master_91 ?_
    refine r_iconst (v := 1) C dX12_master_94 (by decide) ?_
    refine r_isub C dX12_master_95 ?_
    cases h
    exact r_iret C dX12_master_96
  · have h := ip h c_8
    refine r_bipush (v := (-2)) C dX12_master_47 (by decide) ?_
    cases h
    exact r_iret C dX12_master_49
set_option maxHeartbeats 4000000 in
set_option maxRecDepth 100000 in
theorem m_X12_master {l : Launch} {w : Wp} {v1 : Int32} {v2 : Int32} {v3 : Int32}  {s0 : St} {z : Int32 × St} (h : M_master v1 v2 v3 s0 = some z) : Cm l yX12_master (.code yX12_master cX12_master 4 (some .int)) 2 WM w [.ref (wa w 0 0), .int v1, .int v2, .int v3] s0 (some (.int z.1)) z.2 := by
  refine Cm.of (own := RX12) (by decide +kernel) rfl (Nat.le_of_ble_eq_true rfl) (L := [(0, .ref (wa w 0 0)), (1, .int v1), (2, .int v2), (3, .int v3)]) rfl KoM (fun x hl C => ?_)
  subst hl
  unfold M_master at h
  refine r_iload_n C dX12_master_0 rfl 1 rfl ?_
  refine r_iconst (v := 0) C dX12_master_1 (by decide) ?_
  refine r_sipush (v := 999) C dX12_master_2 (by decide) ?_
  refine kX12_97 C (m_X12_in rfl) (by decide) (Nat.le_of_ble_eq_true rfl) dX12_master_5 ?_
  refine r_if_eq (tgt := 36) C dX12_master_8 (by decide) (fun c_1 => ?_) (fun c_1 => ?_)
  · have h := ip h c_1
    refine r_iconst (v := (-1)) C dX12_master_36 (by decide) ?_
    cases h
    exact r_iret C dX12_master_37
  · have h := iq h c_1
    refine r_iload_n C dX12_master_11 rfl 2 rfl ?_
    refine r_iload_n C dX12_master_12 rfl 1 rfl ?_
    refine r_sipush (v := 999) C dX12_master_13 (by decide) ?_
    refine kX12_97 C (m_X12_in rfl) (by decide) (Nat.le_of_ble_eq_true rfl) dX12_master_16 ?_
    refine r_if_eq (tgt := 36) C dX12_master_19 (by decide) (fun c_2 => ?_) (fun c_2 => ?_)
    · have h := ip h c_2
      refine r_iconst (v := (-1)) C dX12_master_36 (by decide) ?_
      cases h
      exact r_iret C dX12_master_37
    · have h := iq h c_2
      refine r_iload_n C dX12_master_22 rfl 3 rfl ?_
      refine r_bipush (v := (-9)) C dX12_master_23 (by decide) ?_
      refine r_icmp_eq (tgt := 38) C dX12_master_25 (by decide) (fun c_3 => ?_) (fun c_3 => ?_)
      · have h := ip h c_3
        refine r_sub [0, 1, 2, 3] rfl ?_
        exact t_X12_master_J38 C h
      · have h := iq h c_3
        refine r_aload_n C dX12_master_28 rfl 0 rfl ?_
        refine r_iload_n C dX12_master_29 rfl 3 rfl ?_
        refine kX12_137 C (m_X12_isMaster rfl) (by decide) (Nat.le_of_ble_eq_true rfl) dX12_master_30 ?_
        refine r_if_ne (tgt := 38) C dX12_master_33 (by decide) (fun c_12 => ?_) (fun c_12 => ?_)
        · have h := iq h c_12
          refine r_sub [0, 1, 2, 3] rfl ?_
          exact t_X12_master_J38 C h
        · have h := ip h c_12
          refine r_iconst (v := (-1)) C dX12_master_36 (by decide) ?_
          cases h
          exact r_iret C dX12_master_37
def M_sayingsOf_L4  (v1_1 : Int32) (s0 : St) : Nat → Int32 → Int32 → Option (Int32)
  | 0, _, _ => none
  | n + 1, v2_2, v3_3 => if (s0.1 0 0 16) ≤ v3_3 then (some v2_2) else (if inb v3_3 24 = true then (M_sayingsOf_L4 v1_1 s0 n) (v2_2 + (if (s0.1 17 0 v3_3.toNatClampNeg) = v1_1 then 1 else 0 : Int32)) (v3_3 + 1) else none)
def M_sayingsOf (v1 : Int32) (s0 : St) : Option (Int32) :=
  M_sayingsOf_L4 v1 s0 1100 0 0
set_option maxHeartbeats 4000000 in
set_option maxRecDepth 100000 in
theorem t_X12_sayingsOf_L4 {x : Ctx} {w : Wp} {v1_1 : Int32} {s0 : St} {z : Int32}    (C : Cx x WM w cX12_sayingsOf 4 RX12 0 (some .int)) : ∀ (n : Nat) (v2_2 : Int32) (v3_3 : Int32), M_sayingsOf_L4 v1_1 s0 n v2_2 v3_3 = some z → V x WM w 4 (QM x WM w (some (.int z)) s0) s0 4 [(0, .ref (wa w 0 0)), (1, .int v1_1), (2, .int v2_2), (3, .int v3_3)] [] := by
  intro n
  induction n with
  | zero => intro v2_2 v3_3 h; cases h
  | succ n ih =>
    intro v2_2 v3_3 h
    unfold M_sayingsOf_L4 at h
    refine r_iload_n C dX12_sayingsOf_4 rfl 3 rfl ?_
    refine r_aload_n C dX12_sayingsOf_5 rfl 0 rfl ?_
    refine gfX12_131 C dX12_sayingsOf_6 ?_
    refine r_icmp_ge (tgt := 36) C dX12_sayingsOf_9 (by decide) (fun c_4 => ?_) (fun c_4 => ?_)
    · have h := ip h c_4
      refine r_iload_n C dX12_sayingsOf_36 rfl 2 rfl ?_
      cases h
      exact r_iret C dX12_sayingsOf_37
    · have h := iq h c_4
      refine r_iload_n C dX12_sayingsOf_12 rfl 2 rfl ?_
      refine r_aload_n C dX12_sayingsOf_13 rfl 0 rfl ?_
      refine gfX12_44 C dX12_sayingsOf_14 ?_
      refine r_iload_n C dX12_sayingsOf_17 rfl 3 rfl ?_
      obtain ⟨g_5, h⟩ := gdE h
      refine ldM_17 C g_5 dX12_sayingsOf_18 ?_
      refine r_iload_n C dX12_sayingsOf_19 rfl 1 rfl ?_
      refine r_em (st := [.int v2_2]) 28 ((if (s0.1 17 0 v3_3.toNatClampNeg) = v1_1 then 1 else 0 : Int32)) (fun hM_7 => ?_) ?_
      · refine r_icmp_ne (tgt := 27) C dX12_sayingsOf_20 (by decide) (fun c_6 => ?_) (fun c_6 => ?_)
        · refine r_iconst (v := 0) C dX12_sayingsOf_27 (by decide) ?_
          exact (em_neg c_6 hM_7)
        · refine r_iconst (v := 1) C dX12_sayingsOf_23 (by decide) ?_
          refine r_goto (tgt := 28) C dX12_sayingsOf_24 (by decide) ?_
          exact (em_pos c_6 hM_7)
      refine r_iadd C dX12_sayingsOf_28 ?_
      refine r_istore_n C dX12_sayingsOf_29 rfl (Nat.le_of_ble_eq_true rfl) (L' := [(2, _), (0, _), (1, _), (3, _)]) rfl ?_
      refine r_iinc (v := v3_3 + 1) C dX12_sayingsOf_30 (j := 3) rfl rfl (Nat.le_of_ble_eq_true rfl) (L' := [(3, _), (2, _), (0, _), (1, _)]) rfl ?_
      refine r_goto (tgt := 4) C dX12_sayingsOf_33 (by decide) ?_
      refine r_sub [2, 3, 1, 0] rfl ?_
      exact ih _ _ h
set_option maxHeartbeats 4000000 in
set_option maxRecDepth 100000 in
theorem m_X12_sayingsOf {l : Launch} {w : Wp} {v1 : Int32}  {s0 : St} {z : Int32} (h : M_sayingsOf v1 s0 = some z) : Cm l yX12_sayingsOf (.code yX12_sayingsOf cX12_sayingsOf 4 (some .int)) 0 WM w [.ref (wa w 0 0), .int v1] s0 (some (.int z)) s0 := by
  refine Cm.of (own := RX12) (by decide +kernel) rfl (Nat.le_of_ble_eq_true rfl) (L := [(0, .ref (wa w 0 0)), (1, .int v1)]) rfl KoM (fun x hl C => ?_)
  subst hl
  unfold M_sayingsOf at h
  refine r_iconst (v := 0) C dX12_sayingsOf_0 (by decide) ?_
  refine r_istore_n C dX12_sayingsOf_1 rfl (Nat.le_of_ble_eq_true rfl) (L' := [(2, _), (0, _), (1, _)]) rfl ?_
  refine r_iconst (v := 0) C dX12_sayingsOf_2 (by decide) ?_
  refine r_istore_n C dX12_sayingsOf_3 rfl (Nat.le_of_ble_eq_true rfl) (L' := [(3, _), (2, _), (0, _), (1, _)]) rfl ?_
  refine r_sub [2, 3, 1, 0] rfl ?_
  exact t_X12_sayingsOf_L4 C _ _ _ h
def M_newSaying_L51 (K77 : St → Option (Int32 × St)) (v6_6 : Int32) : Nat → Int32 → St → Option (Int32 × St)
  | 0, _, _ => none
  | n + 1, v7_7, s_8 => if 5 ≤ v7_7 then (K77 s_8) else (if inb ((5 * v6_6) + v7_7) 120 = true then (M_newSaying_L51 K77 v6_6 n) (v7_7 + 1) (sX s_8 22 0 (((5 * v6_6) + v7_7).toNatClampNeg) (-9)) else none)
def M_newSaying (v1 : Int32) (v2 : Int32) (v3 : Int32) (v4 : Int32) (v5 : Int32) (s0 : St) : Option (Int32 × St) :=
  if inb (s0.1 0 0 16) 24 = true then if inb (s0.1 0 0 16) 24 = true then if inb (s0.1 0 0 16) 24 = true then if inb (s0.1 0 0 16) 24 = true then if inb (s0.1 0 0 16) 24 = true then M_newSaying_L51 (fun (s_12 : St) => some (s0.1 0 0 16, sX s_12 0 0 16 ((s_12.1 0 0 16) + 1))) (s0.1 0 0 16) 1100 0 (sX (sX (sX (sX (sX s0 17 0 ((s0.1 0 0 16).toNatClampNeg) v1) 18 0 ((s0.1 0 0 16).toNatClampNeg) v2) 19 0 ((s0.1 0 0 16).toNatClampNeg) v3) 20 0 ((s0.1 0 0 16).toNatClampNeg) v4) 21 0 ((s0.1 0 0 16).toNatClampNeg) v5) else none else none else none else none else none
set_option maxHeartbeats 4000000 in
set_option maxRecDepth 100000 in
theorem t_X12_newSaying_L51 {x : Ctx} {w : Wp} {v6_6 : Int32} {z : Int32 × St}  {K77 : St → Option (Int32 × St)} (hK77 : ∀ (s_11 : St), K77 s_11 = some z → V x WM w 8 (QM x WM w (some (.int z.1)) z.2) s_11 77 [(0, .ref (wa w 0 0)), (6, .int v6_6)] []) (C : Cx x WM w cX12_newSaying 8 RX12 0 (some .int)) : ∀ (n : Nat) (v7_7 : Int32) (s_8 : St), M_newSaying_L51 K77 v6_6 n v7_7 s_8 = some z → V x WM w 8 (QM x WM w (some (.int z.1)) z.2) s_8 51 [(0, .ref (wa w 0 0)), (6, .int v6_6), (7, .int v7_7)] [] := by
  intro n
  induction n with
  | zero => intro v7_7 s_8 h; cases h
  | succ n ih =>
    intro v7_7 s_8 h
    unfold M_newSaying_L51 at h
    refine r_iload C dX12_newSaying_51 2 rfl ?_
    refine r_iconst (v := 5) C dX12_newSaying_53 (by decide) ?_
    refine r_icmp_ge (tgt := 77) C dX12_newSaying_54 (by decide) (fun c_9 => ?_) (fun c_9 => ?_)
    · have h := ip h c_9
      refine r_sub [0, 1] rfl ?_
      exact hK77 _ h
    · have h := iq h c_9
      refine r_aload_n C dX12_newSaying_57 rfl 0 rfl ?_
      refine gfX12_59 C dX12_newSaying_58 ?_
      refine r_iconst (v := 5) C dX12_newSaying_61 (by decide) ?_
      refine r_iload C dX12_newSaying_62 1 rfl ?_
      refine r_imul C dX12_newSaying_64 ?_
      refine r_iload C dX12_newSaying_65 2 rfl ?_
      refine r_iadd C dX12_newSaying_67 ?_
      refine r_bipush (v := (-9)) C dX12_newSaying_68 (by decide) ?_
      obtain ⟨g_10, h⟩ := gdE h
      refine stM_22 C g_10 dX12_newSaying_70 ?_
      refine r_iinc (v := v7_7 + 1) C dX12_newSaying_71 (j := 2) rfl rfl (Nat.le_of_ble_eq_true rfl) (L' := [(7, _), (0, _), (6, _)]) rfl ?_
      refine r_goto (tgt := 51) C dX12_newSaying_74 (by decide) ?_
      refine r_sub [1, 2, 0] rfl ?_
      exact ih _ _ h
set_option maxHeartbeats 4000000 in
set_option maxRecDepth 100000 in
theorem m_X12_newSaying {l : Launch} {w : Wp} {v1 : Int32} {v2 : Int32} {v3 : Int32} {v4 : Int32} {v5 : Int32}  {s0 : St} {z : Int32 × St} (h : M_newSaying v1 v2 v3 v4 v5 s0 = some z) : Cm l yX12_newSaying (.code yX12_newSaying cX12_newSaying 8 (some .int)) 0 WM w [.ref (wa w 0 0), .int v1, .int v2, .int v3, .int v4, .int v5] s0 (some (.int z.1)) z.2 := by
  refine Cm.of (own := RX12) (by decide +kernel) rfl (Nat.le_of_ble_eq_true rfl) (L := [(0, .ref (wa w 0 0)), (1, .int v1), (2, .int v2), (3, .int v3), (4, .int v4), (5, .int v5)]) rfl KoM (fun x hl C => ?_)
  subst hl
  unfold M_newSaying at h
  refine r_aload_n C dX12_newSaying_0 rfl 0 rfl ?_
  refine gfX12_131 C dX12_newSaying_1 ?_
  refine r_istore C dX12_newSaying_4 (Nat.le_of_ble_eq_true rfl) (L' := [(6, _), (0, _), (1, _), (2, _), (3, _), (4, _), (5, _)]) rfl ?_
  refine r_aload_n C dX12_newSaying_6 rfl 1 rfl ?_
  refine gfX12_44 C dX12_newSaying_7 ?_
  refine r_iload C dX12_newSaying_10 0 rfl ?_
  refine r_iload_n C dX12_newSaying_12 rfl 2 rfl ?_
  obtain ⟨g_1, h⟩ := gdE h
  refine stM_17 C g_1 dX12_newSaying_13 ?_
  refine r_aload_n C dX12_newSaying_14 rfl 1 rfl ?_
  refine gfX12_47 C dX12_newSaying_15 ?_
  refine r_iload C dX12_newSaying_18 0 rfl ?_
  refine r_iload_n C dX12_newSaying_20 rfl 3 rfl ?_
  obtain ⟨g_2, h⟩ := gdE h
  refine stM_18 C g_2 dX12_newSaying_21 ?_
  refine r_aload_n C dX12_newSaying_22 rfl 1 rfl ?_
  refine gfX12_50 C dX12_newSaying_23 ?_
  refine r_iload C dX12_newSaying_26 0 rfl ?_
  refine r_iload_n C dX12_newSaying_28 rfl 4 rfl ?_
  obtain ⟨g_3, h⟩ := gdE h
  refine stM_19 C g_3 dX12_newSaying_29 ?_
  refine r_aload_n C dX12_newSaying_30 rfl 1 rfl ?_
  refine gfX12_53 C dX12_newSaying_31 ?_
  refine r_iload C dX12_newSaying_34 0 rfl ?_
  refine r_iload C dX12_newSaying_36 5 rfl ?_
  obtain ⟨g_4, h⟩ := gdE h
  refine stM_20 C g_4 dX12_newSaying_38 ?_
  refine r_aload_n C dX12_newSaying_39 rfl 1 rfl ?_
  refine gfX12_56 C dX12_newSaying_40 ?_
  refine r_iload C dX12_newSaying_43 0 rfl ?_
  refine r_iload C dX12_newSaying_45 6 rfl ?_
  obtain ⟨g_5, h⟩ := gdE h
  refine stM_21 C g_5 dX12_newSaying_47 ?_
  refine r_iconst (v := 0) C dX12_newSaying_48 (by decide) ?_
  refine r_istore C dX12_newSaying_49 (Nat.le_of_ble_eq_true rfl) (L' := [(7, _), (6, _), (0, _), (1, _), (2, _), (3, _), (4, _), (5, _)]) rfl ?_
  refine r_sub [2, 1, 0] rfl ?_
  refine t_X12_newSaying_L51 (fun s_12 h => ?_) C _ _ _ h
  refine r_aload_n C dX12_newSaying_77 rfl 0 rfl ?_
  refine r_dup C dX12_newSaying_78 rfl ?_
  refine gfX12_131 C dX12_newSaying_79 ?_
  refine r_iconst (v := 1) C dX12_newSaying_82 (by decide) ?_
  refine r_iadd C dX12_newSaying_83 ?_
  refine pfX12_131 C dX12_newSaying_84 ?_
  refine r_iload C dX12_newSaying_87 1 rfl ?_
  cases h
  exact r_iret C dX12_newSaying_89
def M_isOf (v1 : Int32) (v2 : Int32) (s0 : St) : Option (Int32) :=
  if (M_isMaster v1 s0) = 0 then (some 0) else (if inb v1 8 = true then if inb v1 8 = true then some (if (M_in v2 (s0.1 13 0 v1.toNatClampNeg) (s0.1 14 0 v1.toNatClampNeg)) = 0 then 0 else 1 : Int32) else none else none)
set_option maxHeartbeats 4000000 in
set_option maxRecDepth 100000 in
theorem m_X12_isOf {l : Launch} {w : Wp} {v1 : Int32} {v2 : Int32}  {s0 : St} {z : Int32} (h : M_isOf v1 v2 s0 = some z) : Cm l yX12_isOf (.code yX12_isOf cX12_isOf 3 (some .boolean)) 2 WM w [.ref (wa w 0 0), .int v1, .int v2] s0 (some (.int z)) s0 := by
  refine Cm.of (own := RX12) (by decide +kernel) rfl (Nat.le_of_ble_eq_true rfl) (L := [(0, .ref (wa w 0 0)), (1, .int v1), (2, .int v2)]) rfl KoM (fun x hl C => ?_)
  subst hl
  unfold M_isOf at h
  refine r_aload_n C dX12_isOf_0 rfl 0 rfl ?_
  refine r_iload_n C dX12_isOf_1 rfl 1 rfl ?_
  refine kX12_137 C (m_X12_isMaster rfl) (by decide) (Nat.le_of_ble_eq_true rfl) dX12_isOf_2 ?_
  refine r_if_eq (tgt := 31) C dX12_isOf_5 (by decide) (fun c_1 => ?_) (fun c_1 => ?_)
  · have h := ip h c_1
    refine r_iconst (v := 0) C dX12_isOf_31 (by decide) ?_
    cases h
    exact r_zret C rfl dX12_isOf_32
  · have h := iq h c_1
    refine r_iload_n C dX12_isOf_8 rfl 2 rfl ?_
    refine r_aload_n C dX12_isOf_9 rfl 0 rfl ?_
    refine gfX12_35 C dX12_isOf_10 ?_
    refine r_iload_n C dX12_isOf_13 rfl 1 rfl ?_
    obtain ⟨g_2, h⟩ := gdE h
    refine ldM_13 C g_2 dX12_isOf_14 ?_
    refine r_aload_n C dX12_isOf_15 rfl 0 rfl ?_
    refine gfX12_38 C dX12_isOf_16 ?_
    refine r_iload_n C dX12_isOf_19 rfl 1 rfl ?_
    obtain ⟨g_3, h⟩ := gdE h
    refine ldM_14 C g_3 dX12_isOf_20 ?_
    refine kX12_97 C (m_X12_in rfl) (by decide) (Nat.le_of_ble_eq_true rfl) dX12_isOf_21 ?_
    refine r_em (st := []) 32 ((if (M_in v2 (s0.1 13 0 v1.toNatClampNeg) (s0.1 14 0 v1.toNatClampNeg)) = 0 then 0 else 1 : Int32)) (fun hM_5 => ?_) ?_
    · refine r_if_eq (tgt := 31) C dX12_isOf_24 (by decide) (fun c_4 => ?_) (fun c_4 => ?_)
      · refine r_iconst (v := 0) C dX12_isOf_31 (by decide) ?_
        exact (em_pos c_4 hM_5)
      · refine r_iconst (v := 1) C dX12_isOf_27 (by decide) ?_
        refine r_goto (tgt := 32) C dX12_isOf_28 (by decide) ?_
        exact (em_neg c_4 hM_5)
    cases h
    exact r_zret C (nb_ite rfl rfl) dX12_isOf_32
def M_saying_J63    (s_13 : St) : Option (Int32 × St) :=
  some ((-2), s_13)
def M_saying_J44  (v1_6 : Int32) (v2_7 : Int32) (v3_8 : Int32) (v4_9 : Int32) (v5_10 : Int32)  (s_11 : St) : Option (Int32 × St) :=
  if (s_11.1 0 0 16) = 24 then (M_saying_J63 s_11) else (Option.bind (M_sayingsOf v1_6 s_11) (fun r_14 => if r_14 = 9 then (M_saying_J63 s_11) else (Option.bind (M_newSaying v1_6 v2_7 v3_8 v4_9 v5_10 s_11) (fun r_16 => some (r_16.1, r_16.2)))))
def M_saying (v1 : Int32) (v2 : Int32) (v3 : Int32) (v4 : Int32) (v5 : Int32) (s0 : St) : Option (Int32 × St) :=
  Option.bind (M_isOf v1 v3 s0) (fun r_1 => if r_1 = 0 then (some ((-1), s0)) else (if (M_isCase v2 s0) = 0 then (some ((-1), s0)) else (if (M_in v4 0 1) = 0 then (some ((-1), s0)) else (if v5 = (-9) then (M_saying_J44 v1 v2 v3 v4 v5 s0) else (if (M_isTrait v5) = 0 then (some ((-1), s0)) else (M_saying_J44 v1 v2 v3 v4 v5 s0))))))
set_option maxHeartbeats 4000000 in
set_option maxRecDepth 100000 in
theorem t_X12_saying_J63 {x : Ctx} {w : Wp}   {s_13 : St} {z : Int32 × St}    (C : Cx x WM w cX12_saying 6 RX12 3 (some .int)) (h : M_saying_J63 s_13 = some z) : V x WM w 6 (QM x WM w (some (.int z.1)) z.2) s_13 63 [] [] := by
  unfold M_saying_J63 at h
  refine r_bipush (v := (-2)) C dX12_saying_63 (by decide) ?_
  refine r_goto (tgt := 79) C dX12_saying_65 (by decide) ?_
  cases h
  exact r_iret C dX12_saying_79
set_option maxHeartbeats 4000000 in
set_option maxRecDepth 100000 in
theorem t_X12_saying_J44 {x : Ctx} {w : Wp} {v1_6 : Int32} {v2_7 : Int32} {v3_8 : Int32} {v4_9 : Int32} {v5_10 : Int32}  {s_11 : St} {z : Int32 × St}    (C : Cx x WM w cX12_saying 6 RX12 3 (some .int)) (h : M_saying_J44 v1_6 v2_7 v3_8 v4_9 v5_10 s_11 = some z) : V x WM w 6 (QM x WM w (some (.int z.1)) z.2) s_11 44 [(0, .ref (wa w 0 0)), (1, .int v1_6), (2, .int v2_7), (3, .int v3_8), (4, .int v4_9), (5, .int v5_10)] [] := by
  unfold M_saying_J44 at h
  refine r_aload_n C dX12_saying_44 rfl 0 rfl ?_
  refine gfX12_131 C dX12_saying_45 ?_
  refine r_bipush (v := 24) C dX12_saying_48 (by decide) ?_
  refine r_icmp_eq (tgt := 63) C dX12_saying_50 (by decide) (fun c_12 => ?_) (fun c_12 => ?_)
  · have h := ip h c_12
    refine r_sub [] rfl ?_
    exact t_X12_saying_J63 C h
  · have h := iq h c_12
    refine r_aload_n C dX12_saying_53 rfl 0 rfl ?_
    refine r_iload_n C dX12_saying_54 rfl 1 rfl ?_
    obtain ⟨r_14, er_14, h⟩ := bdE h
    refine kX12_150 C (m_X12_sayingsOf er_14) (by decide) (Nat.le_of_ble_eq_true rfl) dX12_saying_55 ?_
    refine r_bipush (v := 9) C dX12_saying_58 (by decide) ?_
    refine r_icmp_ne (tgt := 68) C dX12_saying_60 (by decide) (fun c_15 => ?_) (fun c_15 => ?_)
    · have h := iq h c_15
      refine r_aload_n C dX12_saying_68 rfl 0 rfl ?_
      refine r_iload_n C dX12_saying_69 rfl 1 rfl ?_
      refine r_iload_n C dX12_saying_70 rfl 2 rfl ?_
      refine r_iload_n C dX12_saying_71 rfl 3 rfl ?_
      refine r_iload C dX12_saying_72 4 rfl ?_
      refine r_iload C dX12_saying_74 5 rfl ?_
      obtain ⟨r_16, er_16, h⟩ := bdE h
      refine kX12_153 C (m_X12_newSaying er_16) (by decide) (Nat.le_of_ble_eq_true rfl) dX12_saying_76 ?_
      cases h
      exact r_iret C dX12_saying_79
    · have h := ip h c_15
      refine r_sub [] rfl ?_
      exact t_X12_saying_J63 C h
set_option maxHeartbeats 4000000 in
set_option maxRecDepth 100000 in
theorem m_X12_saying {l : Launch} {w : Wp} {v1 : Int32} {v2 : Int32} {v3 : Int32} {v4 : Int32} {v5 : Int32}  {s0 : St} {z : Int32 × St} (h : M_saying v1 v2 v3 v4 v5 s0 = some z) : Cm l yX12_saying (.code yX12_saying cX12_saying 6 (some .int)) 3 WM w [.ref (wa w 0 0), .int v1, .int v2, .int v3, .int v4, .int v5] s0 (some (.int z.1)) z.2 := by
  refine Cm.of (own := RX12) (by decide +kernel) rfl (Nat.le_of_ble_eq_true rfl) (L := [(0, .ref (wa w 0 0)), (1, .int v1), (2, .int v2), (3, .int v3), (4, .int v4), (5, .int v5)]) rfl KoM (fun x hl C => ?_)
  subst hl
  unfold M_saying at h
  refine r_aload_n C dX12_saying_0 rfl 0 rfl ?_
  refine r_iload_n C dX12_saying_1 rfl 1 rfl ?_
  refine r_iload_n C dX12_saying_2 rfl 3 rfl ?_
  obtain ⟨r_1, er_1, h⟩ := bdE h
  refine kX12_140 C (m_X12_isOf er_1) (by decide) (Nat.le_of_ble_eq_true rfl) dX12_saying_3 ?_
  refine r_if_eq (tgt := 42) C dX12_saying_6 (by decide) (fun c_2 => ?_) (fun c_2 => ?_)
  · have h := ip h c_2
    refine r_iconst (v := (-1)) C dX12_saying_42 (by decide) ?_
    cases h
    exact r_iret C dX12_saying_43
  · have h := iq h c_2
    refine r_aload_n C dX12_saying_9 rfl 0 rfl ?_
    refine r_iload_n C dX12_saying_10 rfl 2 rfl ?_
    refine kX12_144 C (m_X12_isCase rfl) (by decide) (Nat.le_of_ble_eq_true rfl) dX12_saying_11 ?_
    refine r_if_eq (tgt := 42) C dX12_saying_14 (by decide) (fun c_3 => ?_) (fun c_3 => ?_)
    · have h := ip h c_3
      refine r_iconst (v := (-1)) C dX12_saying_42 (by decide) ?_
      cases h
      exact r_iret C dX12_saying_43
    · have h := iq h c_3
      refine r_iload C dX12_saying_17 4 rfl ?_
      refine r_iconst (v := 0) C dX12_saying_19 (by decide) ?_
      refine r_iconst (v := 1) C dX12_saying_20 (by decide) ?_
      refine kX12_97 C (m_X12_in rfl) (by decide) (Nat.le_of_ble_eq_true rfl) dX12_saying_21 ?_
      refine r_if_eq (tgt := 42) C dX12_saying_24 (by decide) (fun c_4 => ?_) (fun c_4 => ?_)
      · have h := ip h c_4
        refine r_iconst (v := (-1)) C dX12_saying_42 (by decide) ?_
        cases h
        exact r_iret C dX12_saying_43
      · have h := iq h c_4
        refine r_iload C dX12_saying_27 5 rfl ?_
        refine r_bipush (v := (-9)) C dX12_saying_29 (by decide) ?_
        refine r_icmp_eq (tgt := 44) C dX12_saying_31 (by decide) (fun c_5 => ?_) (fun c_5 => ?_)
        · have h := ip h c_5
          refine r_sub [0, 1, 2, 3, 4, 5] rfl ?_
          exact t_X12_saying_J44 C h
        · have h := iq h c_5
          refine r_iload C dX12_saying_34 5 rfl ?_
          refine kX12_147 C (m_X12_isTrait rfl) (by decide) (Nat.le_of_ble_eq_true rfl) dX12_saying_36 ?_
          refine r_if_ne (tgt := 44) C dX12_saying_39 (by decide) (fun c_17 => ?_) (fun c_17 => ?_)
          · have h := iq h c_17
            refine r_sub [0, 1, 2, 3, 4, 5] rfl ?_
            exact t_X12_saying_J44 C h
          · have h := ip h c_17
            refine r_iconst (v := (-1)) C dX12_saying_42 (by decide) ?_
            cases h
            exact r_iret C dX12_saying_43
def M_sayings_J87 (B32 : Int32 → Int32 → St → Option (Int32 × St)) (v1_19 : Int32) (v2_20 : Int32) (v3_21 : Int32) (v6_22 : Int32) (t_23 : Int32) (s_24 : St) : Option (Int32 × St) :=
  B32 t_23 (v6_22 + 1) s_24
def M_sayings_J86 (B32 : Int32 → Int32 → St → Option (Int32 × St)) (v1_14 : Int32) (v2_15 : Int32) (v3_16 : Int32) (v6_17 : Int32)  (s_18 : St) : Option (Int32 × St) :=
  M_sayings_J87 B32 v1_14 v2_15 v3_16 v6_17 0 s_18
def M_sayings_L32 (K95 : Int32 → St → Option (Int32 × St)) (v1_5 : Int32) (v2_6 : Int32) (v3_7 : Int32) : Nat → Int32 → Int32 → St → Option (Int32 × St)
  | 0, _, _, _ => none
  | n + 1, v5_8, v6_9, s_10 => if inb v3_7 6 = true then if (s_10.1 5 0 v3_7.toNatClampNeg) ≤ v6_9 then (K95 v5_8 s_10) else (if v5_8 = 0 then (M_sayings_J86 (M_sayings_L32 K95 v1_5 v2_6 v3_7 n) v1_5 v2_6 v3_7 v6_9 s_10) else (Option.bind (M_rowAt v3_7 v6_9 s_10) (fun r_31 => if (M_in r_31 (-128) 127) = 0 then (M_sayings_J86 (M_sayings_L32 K95 v1_5 v2_6 v3_7 n) v1_5 v2_6 v3_7 v6_9 s_10) else (Option.bind (M_rowAt v3_7 v6_9 s_10) (fun r_33 => (M_sayings_L32 K95 v1_5 v2_6 v3_7 n) (if (M_isCase (r_33 &&& 15) s_10) = 0 then 0 else 1 : Int32) (v6_9 + 1) s_10))))) else none
def M_sayings_L145 (K192 : St → Option (Int32 × St)) (v1_46 : Int32) (v2_47 : Int32) (v3_48 : Int32) : Nat → Int32 → St → Option (Int32 × St)
  | 0, _, _ => none
  | n + 1, v6_49, s_50 => if inb v3_48 6 = true then if (s_50.1 5 0 v3_48.toNatClampNeg) ≤ v6_49 then (K192 s_50) else (Option.bind (M_rowAt v3_48 v6_49 s_50) (fun r_53 => Option.bind (M_rowAt v3_48 v6_49 s_50) (fun r_54 => Option.bind (M_newSaying v1_46 (r_53 &&& 15) v2_47 ((r_54 >>> (4 &&& 31)) &&& 1) (-9) s_50) (fun r_55 => (M_sayings_L145 K192 v1_46 v2_47 v3_48 n) (v6_49 + 1) r_55.2)))) else none
def M_sayings (v1 : Int32) (v2 : Int32) (v3 : Int32) (s0 : St) : Option (Int32 × St) :=
  Option.bind (M_isOf v1 v2 s0) (fun r_1 => if r_1 = 0 then (some ((-1), s0)) else (Option.bind (M_askedRow v3 s0) (fun r_3 => if 0 ≤ r_3.1 then (M_sayings_L32 (fun (v5_38 : Int32) (s_39 : St) => if v5_38 = 0 then (Option.bind (M_meets 3 s_39) (fun r_59 => some (r_59.1, r_59.2))) else (if inb v3 6 = true then if 24 < ((s_39.1 0 0 16) + (s_39.1 5 0 v3.toNatClampNeg)) then (some ((-2), s_39)) else (Option.bind (M_sayingsOf v1 s_39) (fun r_43 => if inb v3 6 = true then if (r_43 + (s_39.1 5 0 v3.toNatClampNeg)) ≤ 9 then (M_sayings_L145 (fun (s_57 : St) => if inb v3 6 = true then some (s_57.1 5 0 v3.toNatClampNeg, s_57) else none) v1 v2 v3 1100 0 s_39) else (some ((-2), s_39)) else none)) else none)) v1 v2 v3 1100 1 0 r_3.2) else (some (r_3.1, r_3.2)))))
set_option maxHeartbeats 4000000 in
set_option maxRecDepth 100000 in
theorem t_X12_sayings_J87 {x : Ctx} {w : Wp} {v1_19 : Int32} {v2_20 : Int32} {v3_21 : Int32} {v6_22 : Int32} {t_23 : Int32} {s_24 : St} {z : Int32 × St}  {B32 : Int32 → Int32 → St → Option (Int32 × St)} (hB32 : ∀ (u5_25 : Int32) (u6_26 : Int32) (s_27 : St), B32 u5_25 u6_26 s_27 = some z → V x WM w 7 (QM x WM w (some (.int z.1)) z.2) s_27 32 [(0, .ref (wa w 0 0)), (1, .int v1_19), (2, .int v2_20), (3, .int v3_21), (5, .int u5_25), (6, .int u6_26)] []) (C : Cx x WM w cX12_sayings 7 RX12 3 (some .int)) (h : M_sayings_J87 B32 v1_19 v2_20 v3_21 v6_22 t_23 s_24 = some z) : V x WM w 7 (QM x WM w (some (.int z.1)) z.2) s_24 87 [(0, .ref (wa w 0 0)), (1, .int v1_19), (2, .int v2_20), (3, .int v3_21), (6, .int v6_22)] [.int t_23] := by
  unfold M_sayings_J87 at h
  refine r_istore C dX12_sayings_87 (Nat.le_of_ble_eq_true rfl) (L' := [(5, _), (0, _), (1, _), (2, _), (3, _), (6, _)]) rfl ?_
  refine r_iinc (v := v6_22 + 1) C dX12_sayings_89 (j := 5) rfl rfl (Nat.le_of_ble_eq_true rfl) (L' := [(6, _), (5, _), (0, _), (1, _), (2, _), (3, _)]) rfl ?_
  refine r_goto (tgt := 32) C dX12_sayings_92 (by decide) ?_
  refine r_sub [2, 3, 4, 5, 1, 0] rfl ?_
  exact hB32 _ _ _ h
set_option maxHeartbeats 4000000 in
set_option maxRecDepth 100000 in
theorem t_X12_sayings_J86 {x : Ctx} {w : Wp} {v1_14 : Int32} {v2_15 : Int32} {v3_16 : Int32} {v6_17 : Int32}  {s_18 : St} {z : Int32 × St}  {B32 : Int32 → Int32 → St → Option (Int32 × St)} (hB32 : ∀ (u5_28 : Int32) (u6_29 : Int32) (s_30 : St), B32 u5_28 u6_29 s_30 = some z → V x WM w 7 (QM x WM w (some (.int z.1)) z.2) s_30 32 [(0, .ref (wa w 0 0)), (1, .int v1_14), (2, .int v2_15), (3, .int v3_16), (5, .int u5_28), (6, .int u6_29)] []) (C : Cx x WM w cX12_sayings 7 RX12 3 (some .int)) (h : M_sayings_J86 B32 v1_14 v2_15 v3_16 v6_17 s_18 = some z) : V x WM w 7 (QM x WM w (some (.int z.1)) z.2) s_18 86 [(0, .ref (wa w 0 0)), (1, .int v1_14), (2, .int v2_15), (3, .int v3_16), (6, .int v6_17)] [] := by
  unfold M_sayings_J86 at h
  refine r_iconst (v := 0) C dX12_sayings_86 (by decide) ?_
  refine r_sub [0, 1, 2, 3, 4] rfl ?_
  exact t_X12_sayings_J87 hB32 C h
set_option maxHeartbeats 4000000 in
set_option maxRecDepth 100000 in
theorem t_X12_sayings_L32 {x : Ctx} {w : Wp} {v1_5 : Int32} {v2_6 : Int32} {v3_7 : Int32} {z : Int32 × St}  {K95 : Int32 → St → Option (Int32 × St)} (hK95 : ∀ (u5_36 : Int32) (s_37 : St), K95 u5_36 s_37 = some z → V x WM w 7 (QM x WM w (some (.int z.1)) z.2) s_37 95 [(0, .ref (wa w 0 0)), (1, .int v1_5), (2, .int v2_6), (3, .int v3_7), (5, .int u5_36)] []) (C : Cx x WM w cX12_sayings 7 RX12 3 (some .int)) : ∀ (n : Nat) (v5_8 : Int32) (v6_9 : Int32) (s_10 : St), M_sayings_L32 K95 v1_5 v2_6 v3_7 n v5_8 v6_9 s_10 = some z → V x WM w 7 (QM x WM w (some (.int z.1)) z.2) s_10 32 [(0, .ref (wa w 0 0)), (1, .int v1_5), (2, .int v2_6), (3, .int v3_7), (5, .int v5_8), (6, .int v6_9)] [] := by
  intro n
  induction n with
  | zero => intro v5_8 v6_9 s_10 h; cases h
  | succ n ih =>
    intro v5_8 v6_9 s_10 h
    unfold M_sayings_L32 at h
    refine r_iload C dX12_sayings_32 5 rfl ?_
    refine r_aload_n C dX12_sayings_34 rfl 0 rfl ?_
    refine gfX12_17 C dX12_sayings_35 ?_
    refine r_iload_n C dX12_sayings_38 rfl 3 rfl ?_
    obtain ⟨g_11, h⟩ := gdE h
    refine ldM_5 C g_11 dX12_sayings_39 ?_
    refine r_icmp_ge (tgt := 95) C dX12_sayings_40 (by decide) (fun c_12 => ?_) (fun c_12 => ?_)
    · have h := ip h c_12
      refine r_sub [0, 1, 2, 3, 4] rfl ?_
      exact hK95 _ _ h
    · have h := iq h c_12
      refine r_iload C dX12_sayings_43 4 rfl ?_
      refine r_if_eq (tgt := 86) C dX12_sayings_45 (by decide) (fun c_13 => ?_) (fun c_13 => ?_)
      · have h := ip h c_13
        refine r_sub [0, 1, 2, 3, 5] rfl ?_
        exact t_X12_sayings_J86 ih C h
      · have h := iq h c_13
        refine r_aload_n C dX12_sayings_48 rfl 0 rfl ?_
        refine r_iload_n C dX12_sayings_49 rfl 3 rfl ?_
        refine r_iload C dX12_sayings_50 5 rfl ?_
        obtain ⟨r_31, er_31, h⟩ := bdE h
        refine kX12_115 C (m_X12_rowAt er_31) (by decide) (Nat.le_of_ble_eq_true rfl) dX12_sayings_52 ?_
        refine r_bipush (v := (-128)) C dX12_sayings_55 (by decide) ?_
        refine r_bipush (v := 127) C dX12_sayings_57 (by decide) ?_
        refine kX12_97 C (m_X12_in rfl) (by decide) (Nat.le_of_ble_eq_true rfl) dX12_sayings_59 ?_
        refine r_if_eq (tgt := 86) C dX12_sayings_62 (by decide) (fun c_32 => ?_) (fun c_32 => ?_)
        · have h := ip h c_32
          refine r_sub [0, 1, 2, 3, 5] rfl ?_
          exact t_X12_sayings_J86 ih C h
        · have h := iq h c_32
          refine r_aload_n C dX12_sayings_65 rfl 0 rfl ?_
          refine r_aload_n C dX12_sayings_66 rfl 0 rfl ?_
          refine r_iload_n C dX12_sayings_67 rfl 3 rfl ?_
          refine r_iload C dX12_sayings_68 5 rfl ?_
          obtain ⟨r_33, er_33, h⟩ := bdE h
          refine kX12_115 C (m_X12_rowAt er_33) (by decide) (Nat.le_of_ble_eq_true rfl) dX12_sayings_70 ?_
          refine r_bipush (v := 15) C dX12_sayings_73 (by decide) ?_
          refine r_iand C dX12_sayings_75 ?_
          refine kX12_144 C (m_X12_isCase rfl) (by decide) (Nat.le_of_ble_eq_true rfl) dX12_sayings_76 ?_
          refine r_em (st := []) 87 ((if (M_isCase (r_33 &&& 15) s_10) = 0 then 0 else 1 : Int32)) (fun hM_35 => ?_) ?_
          · refine r_if_eq (tgt := 86) C dX12_sayings_79 (by decide) (fun c_34 => ?_) (fun c_34 => ?_)
            · refine r_iconst (v := 0) C dX12_sayings_86 (by decide) ?_
              exact (em_pos c_34 hM_35)
            · refine r_iconst (v := 1) C dX12_sayings_82 (by decide) ?_
              refine r_goto (tgt := 87) C dX12_sayings_83 (by decide) ?_
              exact (em_neg c_34 hM_35)
          refine r_istore C dX12_sayings_87 (Nat.le_of_ble_eq_true rfl) (L' := [(5, _), (0, _), (1, _), (2, _), (3, _), (6, _)]) rfl ?_
          refine r_iinc (v := v6_9 + 1) C dX12_sayings_89 (j := 5) rfl rfl (Nat.le_of_ble_eq_true rfl) (L' := [(6, _), (5, _), (0, _), (1, _), (2, _), (3, _)]) rfl ?_
          refine r_goto (tgt := 32) C dX12_sayings_92 (by decide) ?_
          refine r_sub [2, 3, 4, 5, 1, 0] rfl ?_
          exact ih _ _ _ h
set_option maxHeartbeats 4000000 in
set_option maxRecDepth 100000 in
theorem t_X12_sayings_L145 {x : Ctx} {w : Wp} {v1_46 : Int32} {v2_47 : Int32} {v3_48 : Int32} {z : Int32 × St}  {K192 : St → Option (Int32 × St)} (hK192 : ∀ (s_56 : St), K192 s_56 = some z → V x WM w 7 (QM x WM w (some (.int z.1)) z.2) s_56 192 [(0, .ref (wa w 0 0)), (3, .int v3_48)] []) (C : Cx x WM w cX12_sayings 7 RX12 3 (some .int)) : ∀ (n : Nat) (v6_49 : Int32) (s_50 : St), M_sayings_L145 K192 v1_46 v2_47 v3_48 n v6_49 s_50 = some z → V x WM w 7 (QM x WM w (some (.int z.1)) z.2) s_50 145 [(0, .ref (wa w 0 0)), (1, .int v1_46), (2, .int v2_47), (3, .int v3_48), (6, .int v6_49)] [] := by
  intro n
  induction n with
  | zero => intro v6_49 s_50 h; cases h
  | succ n ih =>
    intro v6_49 s_50 h
    unfold M_sayings_L145 at h
    refine r_iload C dX12_sayings_145 4 rfl ?_
    refine r_aload_n C dX12_sayings_147 rfl 0 rfl ?_
    refine gfX12_17 C dX12_sayings_148 ?_
    refine r_iload_n C dX12_sayings_151 rfl 3 rfl ?_
    obtain ⟨g_51, h⟩ := gdE h
    refine ldM_5 C g_51 dX12_sayings_152 ?_
    refine r_icmp_ge (tgt := 192) C dX12_sayings_153 (by decide) (fun c_52 => ?_) (fun c_52 => ?_)
    · have h := ip h c_52
      refine r_sub [0, 3] rfl ?_
      exact hK192 _ h
    · have h := iq h c_52
      refine r_aload_n C dX12_sayings_156 rfl 0 rfl ?_
      refine r_iload_n C dX12_sayings_157 rfl 1 rfl ?_
      refine r_aload_n C dX12_sayings_158 rfl 0 rfl ?_
      refine r_iload_n C dX12_sayings_159 rfl 3 rfl ?_
      refine r_iload C dX12_sayings_160 4 rfl ?_
      obtain ⟨r_53, er_53, h⟩ := bdE h
      refine kX12_115 C (m_X12_rowAt er_53) (by decide) (Nat.le_of_ble_eq_true rfl) dX12_sayings_162 ?_
      refine r_bipush (v := 15) C dX12_sayings_165 (by decide) ?_
      refine r_iand C dX12_sayings_167 ?_
      refine r_iload_n C dX12_sayings_168 rfl 2 rfl ?_
      refine r_aload_n C dX12_sayings_169 rfl 0 rfl ?_
      refine r_iload_n C dX12_sayings_170 rfl 3 rfl ?_
      refine r_iload C dX12_sayings_171 4 rfl ?_
      obtain ⟨r_54, er_54, h⟩ := bdE h
      refine kX12_115 C (m_X12_rowAt er_54) (by decide) (Nat.le_of_ble_eq_true rfl) dX12_sayings_173 ?_
      refine r_iconst (v := 4) C dX12_sayings_176 (by decide) ?_
      refine r_ishr C dX12_sayings_177 ?_
      refine r_iconst (v := 1) C dX12_sayings_178 (by decide) ?_
      refine r_iand C dX12_sayings_179 ?_
      refine r_bipush (v := (-9)) C dX12_sayings_180 (by decide) ?_
      obtain ⟨r_55, er_55, h⟩ := bdE h
      refine kX12_153 C (m_X12_newSaying er_55) (by decide) (Nat.le_of_ble_eq_true rfl) dX12_sayings_182 ?_
      refine r_pop C dX12_sayings_185 rfl ?_
      refine r_iinc (v := v6_49 + 1) C dX12_sayings_186 (j := 4) rfl rfl (Nat.le_of_ble_eq_true rfl) (L' := [(6, _), (0, _), (1, _), (2, _), (3, _)]) rfl ?_
      refine r_goto (tgt := 145) C dX12_sayings_189 (by decide) ?_
      refine r_sub [1, 2, 3, 4, 0] rfl ?_
      exact ih _ _ h
set_option maxHeartbeats 4000000 in
set_option maxRecDepth 100000 in
theorem m_X12_sayings {l : Launch} {w : Wp} {v1 : Int32} {v2 : Int32} {v3 : Int32}  {s0 : St} {z : Int32 × St} (h : M_sayings v1 v2 v3 s0 = some z) : Cm l yX12_sayings (.code yX12_sayings cX12_sayings 7 (some .int)) 3 WM w [.ref (wa w 0 0), .int v1, .int v2, .int v3] s0 (some (.int z.1)) z.2 := by
  refine Cm.of (own := RX12) (by decide +kernel) rfl (Nat.le_of_ble_eq_true rfl) (L := [(0, .ref (wa w 0 0)), (1, .int v1), (2, .int v2), (3, .int v3)]) rfl KoM (fun x hl C => ?_)
  subst hl
  unfold M_sayings at h
  refine r_aload_n C dX12_sayings_0 rfl 0 rfl ?_
  refine r_iload_n C dX12_sayings_1 rfl 1 rfl ?_
  refine r_iload_n C dX12_sayings_2 rfl 2 rfl ?_
  obtain ⟨r_1, er_1, h⟩ := bdE h
  refine kX12_140 C (m_X12_isOf er_1) (by decide) (Nat.le_of_ble_eq_true rfl) dX12_sayings_3 ?_
  refine r_if_ne (tgt := 11) C dX12_sayings_6 (by decide) (fun c_2 => ?_) (fun c_2 => ?_)
  · have h := iq h c_2
    refine r_aload_n C dX12_sayings_11 rfl 0 rfl ?_
    refine r_iload_n C dX12_sayings_12 rfl 3 rfl ?_
    obtain ⟨r_3, er_3, h⟩ := bdE h
    refine kX12_112 C (m_X12_askedRow er_3) (by decide) (Nat.le_of_ble_eq_true rfl) dX12_sayings_13 ?_
    refine r_istore C dX12_sayings_16 (Nat.le_of_ble_eq_true rfl) (L' := [(4, _), (0, _), (1, _), (2, _), (3, _)]) rfl ?_
    refine r_iload C dX12_sayings_18 0 rfl ?_
    refine r_if_ge (tgt := 26) C dX12_sayings_20 (by decide) (fun c_4 => ?_) (fun c_4 => ?_)
    · have h := ip h c_4
      refine r_iconst (v := 1) C dX12_sayings_26 (by decide) ?_
      refine r_istore C dX12_sayings_27 (Nat.le_of_ble_eq_true rfl) (L' := [(5, _), (4, _), (0, _), (1, _), (2, _), (3, _)]) rfl ?_
      refine r_iconst (v := 0) C dX12_sayings_29 (by decide) ?_
      refine r_istore C dX12_sayings_30 (Nat.le_of_ble_eq_true rfl) (L' := [(6, _), (5, _), (4, _), (0, _), (1, _), (2, _), (3, _)]) rfl ?_
      refine r_sub [3, 4, 5, 6, 1, 0] rfl ?_
      refine t_X12_sayings_L32 (fun v5_38 s_39 h => ?_) C _ _ _ _ h
      refine r_iload C dX12_sayings_95 4 rfl ?_
      refine r_if_ne (tgt := 106) C dX12_sayings_97 (by decide) (fun c_40 => ?_) (fun c_40 => ?_)
      · have h := iq h c_40
        refine r_aload_n C dX12_sayings_106 rfl 0 rfl ?_
        refine gfX12_131 C dX12_sayings_107 ?_
        refine r_aload_n C dX12_sayings_110 rfl 0 rfl ?_
        refine gfX12_17 C dX12_sayings_111 ?_
        refine r_iload_n C dX12_sayings_114 rfl 3 rfl ?_
        obtain ⟨g_41, h⟩ := gdE h
        refine ldM_5 C g_41 dX12_sayings_115 ?_
        refine r_iadd C dX12_sayings_116 ?_
        refine r_bipush (v := 24) C dX12_sayings_117 (by decide) ?_
        refine r_icmp_gt (tgt := 139) C dX12_sayings_119 (by decide) (fun c_42 => ?_) (fun c_42 => ?_)
        · have h := ip h c_42
          refine r_bipush (v := (-2)) C dX12_sayings_139 (by decide) ?_
          cases h
          exact r_iret C dX12_sayings_141
        · have h := iq h c_42
          refine r_aload_n C dX12_sayings_122 rfl 0 rfl ?_
          refine r_iload_n C dX12_sayings_123 rfl 1 rfl ?_
          obtain ⟨r_43, er_43, h⟩ := bdE h
          refine kX12_150 C (m_X12_sayingsOf er_43) (by decide) (Nat.le_of_ble_eq_true rfl) dX12_sayings_124 ?_
          refine r_aload_n C dX12_sayings_127 rfl 0 rfl ?_
          refine gfX12_17 C dX12_sayings_128 ?_
          refine r_iload_n C dX12_sayings_131 rfl 3 rfl ?_
          obtain ⟨g_44, h⟩ := gdE h
          refine ldM_5 C g_44 dX12_sayings_132 ?_
          refine r_iadd C dX12_sayings_133 ?_
          refine r_bipush (v := 9) C dX12_sayings_134 (by decide) ?_
          refine r_icmp_le (tgt := 142) C dX12_sayings_136 (by decide) (fun c_45 => ?_) (fun c_45 => ?_)
          · have h := ip h c_45
            refine r_iconst (v := 0) C dX12_sayings_142 (by decide) ?_
            refine r_istore C dX12_sayings_143 (Nat.le_of_ble_eq_true rfl) (L' := [(6, _), (0, _), (1, _), (2, _), (3, _), (5, _)]) rfl ?_
            refine r_sub [1, 2, 3, 4, 0] rfl ?_
            refine t_X12_sayings_L145 (fun s_57 h => ?_) C _ _ _ h
            refine r_aload_n C dX12_sayings_192 rfl 0 rfl ?_
            refine gfX12_17 C dX12_sayings_193 ?_
            refine r_iload_n C dX12_sayings_196 rfl 1 rfl ?_
            obtain ⟨g_58, h⟩ := gdE h
            refine ldM_5 C g_58 dX12_sayings_197 ?_
            cases h
            exact r_iret C dX12_sayings_198
          · have h := iq h c_45
            refine r_bipush (v := (-2)) C dX12_sayings_139 (by decide) ?_
            cases h
            exact r_iret C dX12_sayings_141
      · have h := ip h c_40
        refine r_aload_n C dX12_sayings_100 rfl 0 rfl ?_
        refine r_iconst (v := 3) C dX12_sayings_101 (by decide) ?_
        obtain ⟨r_59, er_59, h⟩ := bdE h
        refine kX12_105 C (m_X12_meets er_59) (by decide) (Nat.le_of_ble_eq_true rfl) dX12_sayings_102 ?_
        cases h
        exact r_iret C dX12_sayings_105
    · have h := iq h c_4
      refine r_iload C dX12_sayings_23 0 rfl ?_
      cases h
      exact r_iret C dX12_sayings_25
  · have h := ip h c_2
    refine r_iconst (v := (-1)) C dX12_sayings_9 (by decide) ?_
    cases h
    exact r_iret C dX12_sayings_10
def M_sayingTells (v1 : Int32) (v2 : Int32) (s0 : St) : Option (Int32) :=
  if v2 = 0 then (if inb v1 24 = true then some (s0.1 17 0 v1.toNatClampNeg) else none) else (if v2 = 1 then (if inb v1 24 = true then some (s0.1 18 0 v1.toNatClampNeg) else none) else (if v2 = 2 then (if inb v1 24 = true then some (s0.1 19 0 v1.toNatClampNeg) else none) else (if v2 = 3 then (if inb v1 24 = true then some (s0.1 20 0 v1.toNatClampNeg) else none) else (if inb v1 24 = true then some (s0.1 21 0 v1.toNatClampNeg) else none))))
set_option maxHeartbeats 4000000 in
set_option maxRecDepth 100000 in
theorem m_X12_sayingTells {l : Launch} {w : Wp} {v1 : Int32} {v2 : Int32}  {s0 : St} {z : Int32} (h : M_sayingTells v1 v2 s0 = some z) : Cm l yX12_sayingTells (.code yX12_sayingTells cX12_sayingTells 3 (some .int)) 0 WM w [.ref (wa w 0 0), .int v1, .int v2] s0 (some (.int z)) s0 := by
  refine Cm.of (own := RX12) (by decide +kernel) rfl (Nat.le_of_ble_eq_true rfl) (L := [(0, .ref (wa w 0 0)), (1, .int v1), (2, .int v2)]) rfl KoM (fun x hl C => ?_)
  subst hl
  unfold M_sayingTells at h
  refine r_iload_n C dX12_sayingTells_0 rfl 2 rfl ?_
  refine r_if_ne (tgt := 13) C dX12_sayingTells_1 (by decide) (fun c_1 => ?_) (fun c_1 => ?_)
  · have h := iq h c_1
    refine r_iload_n C dX12_sayingTells_13 rfl 2 rfl ?_
    refine r_iconst (v := 1) C dX12_sayingTells_14 (by decide) ?_
    refine r_icmp_ne (tgt := 27) C dX12_sayingTells_15 (by decide) (fun c_2 => ?_) (fun c_2 => ?_)
    · have h := iq h c_2
      refine r_iload_n C dX12_sayingTells_27 rfl 2 rfl ?_
      refine r_iconst (v := 2) C dX12_sayingTells_28 (by decide) ?_
      refine r_icmp_ne (tgt := 41) C dX12_sayingTells_29 (by decide) (fun c_3 => ?_) (fun c_3 => ?_)
      · have h := iq h c_3
        refine r_iload_n C dX12_sayingTells_41 rfl 2 rfl ?_
        refine r_iconst (v := 3) C dX12_sayingTells_42 (by decide) ?_
        refine r_icmp_ne (tgt := 55) C dX12_sayingTells_43 (by decide) (fun c_4 => ?_) (fun c_4 => ?_)
        · have h := iq h c_4
          refine r_aload_n C dX12_sayingTells_55 rfl 0 rfl ?_
          refine gfX12_56 C dX12_sayingTells_56 ?_
          refine r_iload_n C dX12_sayingTells_59 rfl 1 rfl ?_
          obtain ⟨g_5, h⟩ := gdE h
          refine ldM_21 C g_5 dX12_sayingTells_60 ?_
          cases h
          exact r_iret C dX12_sayingTells_61
        · have h := ip h c_4
          refine r_aload_n C dX12_sayingTells_46 rfl 0 rfl ?_
          refine gfX12_53 C dX12_sayingTells_47 ?_
          refine r_iload_n C dX12_sayingTells_50 rfl 1 rfl ?_
          obtain ⟨g_6, h⟩ := gdE h
          refine ldM_20 C g_6 dX12_sayingTells_51 ?_
          refine r_goto (tgt := 61) C dX12_sayingTells_52 (by decide) ?_
          cases h
          exact r_iret C dX12_sayingTells_61
      · have h := ip h c_3
        refine r_aload_n C dX12_sayingTells_32 rfl 0 rfl ?_
        refine gfX12_50 C dX12_sayingTells_33 ?_
        refine r_iload_n C dX12_sayingTells_36 rfl 1 rfl ?_
        obtain ⟨g_7, h⟩ := gdE h
        refine ldM_19 C g_7 dX12_sayingTells_37 ?_
        refine r_goto (tgt := 61) C dX12_sayingTells_38 (by decide) ?_
        cases h
        exact r_iret C dX12_sayingTells_61
    · have h := ip h c_2
      refine r_aload_n C dX12_sayingTells_18 rfl 0 rfl ?_
      refine gfX12_47 C dX12_sayingTells_19 ?_
      refine r_iload_n C dX12_sayingTells_22 rfl 1 rfl ?_
      obtain ⟨g_8, h⟩ := gdE h
      refine ldM_18 C g_8 dX12_sayingTells_23 ?_
      refine r_goto (tgt := 61) C dX12_sayingTells_24 (by decide) ?_
      cases h
      exact r_iret C dX12_sayingTells_61
  · have h := ip h c_1
    refine r_aload_n C dX12_sayingTells_4 rfl 0 rfl ?_
    refine gfX12_44 C dX12_sayingTells_5 ?_
    refine r_iload_n C dX12_sayingTells_8 rfl 1 rfl ?_
    obtain ⟨g_9, h⟩ := gdE h
    refine ldM_17 C g_9 dX12_sayingTells_9 ?_
    refine r_goto (tgt := 61) C dX12_sayingTells_10 (by decide) ?_
    cases h
    exact r_iret C dX12_sayingTells_61
def M_told (v1 : Int32) (v2 : Int32) (s0 : St) : Option (Int32 × St) :=
  if (M_isSaying v1 s0) = 0 then (some ((-1), s0)) else (if (M_in v2 0 4) = 0 then (some ((-1), s0)) else (Option.bind (M_sayingTells v1 v2 s0) (fun r_3 => Option.bind (M_ask r_3 1 s0) (fun r_4 => some (r_4.1, r_4.2)))))
set_option maxHeartbeats 4000000 in
set_option maxRecDepth 100000 in
theorem m_X12_told {l : Launch} {w : Wp} {v1 : Int32} {v2 : Int32}  {s0 : St} {z : Int32 × St} (h : M_told v1 v2 s0 = some z) : Cm l yX12_told (.code yX12_told cX12_told 3 (some .int)) 2 WM w [.ref (wa w 0 0), .int v1, .int v2] s0 (some (.int z.1)) z.2 := by
  refine Cm.of (own := RX12) (by decide +kernel) rfl (Nat.le_of_ble_eq_true rfl) (L := [(0, .ref (wa w 0 0)), (1, .int v1), (2, .int v2)]) rfl KoM (fun x hl C => ?_)
  subst hl
  unfold M_told at h
  refine r_aload_n C dX12_told_0 rfl 0 rfl ?_
  refine r_iload_n C dX12_told_1 rfl 1 rfl ?_
  refine kX12_157 C (m_X12_isSaying rfl) (by decide) (Nat.le_of_ble_eq_true rfl) dX12_told_2 ?_
  refine r_if_eq (tgt := 31) C dX12_told_5 (by decide) (fun c_1 => ?_) (fun c_1 => ?_)
  · have h := ip h c_1
    refine r_iconst (v := (-1)) C dX12_told_31 (by decide) ?_
    cases h
    exact r_iret C dX12_told_32
  · have h := iq h c_1
    refine r_iload_n C dX12_told_8 rfl 2 rfl ?_
    refine r_iconst (v := 0) C dX12_told_9 (by decide) ?_
    refine r_iconst (v := 4) C dX12_told_10 (by decide) ?_
    refine kX12_97 C (m_X12_in rfl) (by decide) (Nat.le_of_ble_eq_true rfl) dX12_told_11 ?_
    refine r_if_eq (tgt := 31) C dX12_told_14 (by decide) (fun c_2 => ?_) (fun c_2 => ?_)
    · have h := ip h c_2
      refine r_iconst (v := (-1)) C dX12_told_31 (by decide) ?_
      cases h
      exact r_iret C dX12_told_32
    · have h := iq h c_2
      refine r_aload_n C dX12_told_17 rfl 0 rfl ?_
      refine r_aload_n C dX12_told_18 rfl 0 rfl ?_
      refine r_iload_n C dX12_told_19 rfl 1 rfl ?_
      refine r_iload_n C dX12_told_20 rfl 2 rfl ?_
      obtain ⟨r_3, er_3, h⟩ := bdE h
      refine kX12_160 C (m_X12_sayingTells er_3) (by decide) (Nat.le_of_ble_eq_true rfl) dX12_told_21 ?_
      refine r_iconst (v := 1) C dX12_told_24 (by decide) ?_
      obtain ⟨r_4, er_4, h⟩ := bdE h
      refine kX12_119 C (m_X12_ask er_4) (by decide) (Nat.le_of_ble_eq_true rfl) dX12_told_25 ?_
      refine r_goto (tgt := 32) C dX12_told_28 (by decide) ?_
      cases h
      exact r_iret C dX12_told_32
def M_traits (v1 : Int32) (s0 : St) : Option (Int32) :=
  if (M_isCase v1 s0) = 0 then (some (-1)) else (if inb v1 12 = true then some (s0.1 11 0 v1.toNatClampNeg) else none)
set_option maxHeartbeats 4000000 in
set_option maxRecDepth 100000 in
theorem m_X12_traits {l : Launch} {w : Wp} {v1 : Int32}  {s0 : St} {z : Int32} (h : M_traits v1 s0 = some z) : Cm l yX12_traits (.code yX12_traits cX12_traits 2 (some .int)) 2 WM w [.ref (wa w 0 0), .int v1] s0 (some (.int z)) s0 := by
  refine Cm.of (own := RX12) (by decide +kernel) rfl (Nat.le_of_ble_eq_true rfl) (L := [(0, .ref (wa w 0 0)), (1, .int v1)]) rfl KoM (fun x hl C => ?_)
  subst hl
  unfold M_traits at h
  refine r_aload_n C dX12_traits_0 rfl 0 rfl ?_
  refine r_iload_n C dX12_traits_1 rfl 1 rfl ?_
  refine kX12_144 C (m_X12_isCase rfl) (by decide) (Nat.le_of_ble_eq_true rfl) dX12_traits_2 ?_
  refine r_if_eq (tgt := 17) C dX12_traits_5 (by decide) (fun c_1 => ?_) (fun c_1 => ?_)
  · have h := ip h c_1
    refine r_iconst (v := (-1)) C dX12_traits_17 (by decide) ?_
    cases h
    exact r_iret C dX12_traits_18
  · have h := iq h c_1
    refine r_aload_n C dX12_traits_8 rfl 0 rfl ?_
    refine gfX12_32 C dX12_traits_9 ?_
    refine r_iload_n C dX12_traits_12 rfl 1 rfl ?_
    obtain ⟨g_2, h⟩ := gdE h
    refine ldM_11 C g_2 dX12_traits_13 ?_
    refine r_goto (tgt := 18) C dX12_traits_14 (by decide) ?_
    cases h
    exact r_iret C dX12_traits_18
def M_pupils_L23 (K60 : Int32 → Option (Int32)) (v1_6 : Int32) (v2_7 : Int32) (v3_8 : Int32) (s0 : St) : Nat → Int32 → Int32 → Option (Int32)
  | 0, _, _ => none
  | n + 1, v4_9, v5_10 => if v5_10 = (-9) then (K60 v4_9) else (if inb v5_10 8 = true then (M_pupils_L23 K60 v1_6 v2_7 v3_8 s0 n) (if v4_9 = 0 then (if v5_10 = v1_6 then 1 else 0) else 1 : Int32) (s0.1 15 0 v5_10.toNatClampNeg) else none)
def M_pupils_L4  (v1_1 : Int32) (s0 : St) : Nat → Int32 → Int32 → Option (Int32)
  | 0, _, _ => none
  | n + 1, v2_2, v3_3 => if (s0.1 0 0 12) ≤ v3_3 then (some v2_2) else (if inb v3_3 8 = true then M_pupils_L23 (fun (v4_17 : Int32) => (M_pupils_L4 v1_1 s0 n) (v2_2 + (if v4_17 = 0 then 0 else 1 : Int32)) (v3_3 + 1)) v1_1 v2_2 v3_3 s0 1100 0 (s0.1 15 0 v3_3.toNatClampNeg) else none)
def M_pupils (v1 : Int32) (s0 : St) : Option (Int32) :=
  M_pupils_L4 v1 s0 1100 0 0
set_option maxHeartbeats 4000000 in
set_option maxRecDepth 100000 in
theorem t_X12_pupils_L23 {x : Ctx} {w : Wp} {v1_6 : Int32} {v2_7 : Int32} {v3_8 : Int32} {s0 : St} {z : Int32}  {K60 : Int32 → Option (Int32)} (hK60 : ∀ (u4_16 : Int32), K60 u4_16 = some z → V x WM w 6 (QM x WM w (some (.int z)) s0) s0 60 [(0, .ref (wa w 0 0)), (1, .int v1_6), (2, .int v2_7), (3, .int v3_8), (4, .int u4_16)] []) (C : Cx x WM w cX12_pupils 6 RX12 0 (some .int)) : ∀ (n : Nat) (v4_9 : Int32) (v5_10 : Int32), M_pupils_L23 K60 v1_6 v2_7 v3_8 s0 n v4_9 v5_10 = some z → V x WM w 6 (QM x WM w (some (.int z)) s0) s0 23 [(0, .ref (wa w 0 0)), (1, .int v1_6), (2, .int v2_7), (3, .int v3_8), (4, .int v4_9), (5, .int v5_10)] [] := by
  intro n
  induction n with
  | zero => intro v4_9 v5_10 h; cases h
  | succ n ih =>
    intro v4_9 v5_10 h
    unfold M_pupils_L23 at h
    refine r_iload C dX12_pupils_23 5 rfl ?_
    refine r_bipush (v := (-9)) C dX12_pupils_25 (by decide) ?_
    refine r_icmp_eq (tgt := 60) C dX12_pupils_27 (by decide) (fun c_11 => ?_) (fun c_11 => ?_)
    · have h := ip h c_11
      refine r_sub [0, 1, 2, 3, 4] rfl ?_
      exact hK60 _ h
    · have h := iq h c_11
      refine r_iload C dX12_pupils_30 4 rfl ?_
      refine r_em (st := []) 46 ((if v4_9 = 0 then (if v5_10 = v1_6 then 1 else 0) else 1 : Int32)) (fun hM_14 => ?_) ?_
      · refine r_if_ne (tgt := 41) C dX12_pupils_32 (by decide) (fun c_13 => ?_) (fun c_13 => ?_)
        · refine r_iconst (v := 1) C dX12_pupils_41 (by decide) ?_
          refine r_goto (tgt := 46) C dX12_pupils_42 (by decide) ?_
          exact (em_neg c_13 hM_14)
        · refine r_iload C dX12_pupils_35 5 rfl ?_
          refine r_iload_n C dX12_pupils_37 rfl 1 rfl ?_
          refine r_icmp_ne (tgt := 45) C dX12_pupils_38 (by decide) (fun c_12 => ?_) (fun c_12 => ?_)
          · refine r_iconst (v := 0) C dX12_pupils_45 (by decide) ?_
            exact (em_neg c_12 (em_pos c_13 hM_14))
          · refine r_iconst (v := 1) C dX12_pupils_41 (by decide) ?_
            refine r_goto (tgt := 46) C dX12_pupils_42 (by decide) ?_
            exact (em_pos c_12 (em_pos c_13 hM_14))
      refine r_istore C dX12_pupils_46 (Nat.le_of_ble_eq_true rfl) (L' := [(4, _), (0, _), (1, _), (2, _), (3, _), (5, _)]) rfl ?_
      refine r_aload_n C dX12_pupils_48 rfl 1 rfl ?_
      refine gfX12_41 C dX12_pupils_49 ?_
      refine r_iload C dX12_pupils_52 5 rfl ?_
      obtain ⟨g_15, h⟩ := gdE h
      refine ldM_15 C g_15 dX12_pupils_54 ?_
      refine r_istore C dX12_pupils_55 (Nat.le_of_ble_eq_true rfl) (L' := [(5, _), (4, _), (0, _), (1, _), (2, _), (3, _)]) rfl ?_
      refine r_goto (tgt := 23) C dX12_pupils_57 (by decide) ?_
      refine r_sub [2, 3, 4, 5, 1, 0] rfl ?_
      exact ih _ _ h
set_option maxHeartbeats 4000000 in
set_option maxRecDepth 100000 in
theorem t_X12_pupils_L4 {x : Ctx} {w : Wp} {v1_1 : Int32} {s0 : St} {z : Int32}    (C : Cx x WM w cX12_pupils 6 RX12 0 (some .int)) : ∀ (n : Nat) (v2_2 : Int32) (v3_3 : Int32), M_pupils_L4 v1_1 s0 n v2_2 v3_3 = some z → V x WM w 6 (QM x WM w (some (.int z)) s0) s0 4 [(0, .ref (wa w 0 0)), (1, .int v1_1), (2, .int v2_2), (3, .int v3_3)] [] := by
  intro n
  induction n with
  | zero => intro v2_2 v3_3 h; cases h
  | succ n ih =>
    intro v2_2 v3_3 h
    unfold M_pupils_L4 at h
    refine r_iload_n C dX12_pupils_4 rfl 3 rfl ?_
    refine r_aload_n C dX12_pupils_5 rfl 0 rfl ?_
    refine gfX12_128 C dX12_pupils_6 ?_
    refine r_icmp_ge (tgt := 79) C dX12_pupils_9 (by decide) (fun c_4 => ?_) (fun c_4 => ?_)
    · have h := ip h c_4
      refine r_iload_n C dX12_pupils_79 rfl 2 rfl ?_
      cases h
      exact r_iret C dX12_pupils_80
    · have h := iq h c_4
      refine r_iconst (v := 0) C dX12_pupils_12 (by decide) ?_
      refine r_istore C dX12_pupils_13 (Nat.le_of_ble_eq_true rfl) (L' := [(4, _), (0, _), (1, _), (2, _), (3, _)]) rfl ?_
      refine r_aload_n C dX12_pupils_15 rfl 1 rfl ?_
      refine gfX12_41 C dX12_pupils_16 ?_
      refine r_iload_n C dX12_pupils_19 rfl 4 rfl ?_
      obtain ⟨g_5, h⟩ := gdE h
      refine ldM_15 C g_5 dX12_pupils_20 ?_
      refine r_istore C dX12_pupils_21 (Nat.le_of_ble_eq_true rfl) (L' := [(5, _), (4, _), (0, _), (1, _), (2, _), (3, _)]) rfl ?_
      refine r_sub [2, 3, 4, 5, 1, 0] rfl ?_
      refine t_X12_pupils_L23 (fun v4_17 h => ?_) C _ _ _ h
      refine r_iload_n C dX12_pupils_60 rfl 2 rfl ?_
      refine r_iload C dX12_pupils_61 4 rfl ?_
      refine r_em (st := [.int v2_2]) 71 ((if v4_17 = 0 then 0 else 1 : Int32)) (fun hM_19 => ?_) ?_
      · refine r_if_eq (tgt := 70) C dX12_pupils_63 (by decide) (fun c_18 => ?_) (fun c_18 => ?_)
        · refine r_iconst (v := 0) C dX12_pupils_70 (by decide) ?_
          exact (em_pos c_18 hM_19)
        · refine r_iconst (v := 1) C dX12_pupils_66 (by decide) ?_
          refine r_goto (tgt := 71) C dX12_pupils_67 (by decide) ?_
          exact (em_neg c_18 hM_19)
      refine r_iadd C dX12_pupils_71 ?_
      refine r_istore_n C dX12_pupils_72 rfl (Nat.le_of_ble_eq_true rfl) (L' := [(2, _), (0, _), (1, _), (3, _), (4, _)]) rfl ?_
      refine r_iinc (v := v3_3 + 1) C dX12_pupils_73 (j := 3) rfl rfl (Nat.le_of_ble_eq_true rfl) (L' := [(3, _), (2, _), (0, _), (1, _), (4, _)]) rfl ?_
      refine r_goto (tgt := 4) C dX12_pupils_76 (by decide) ?_
      refine r_sub [2, 3, 1, 0] rfl ?_
      exact ih _ _ h
set_option maxHeartbeats 4000000 in
set_option maxRecDepth 100000 in
theorem m_X12_pupils {l : Launch} {w : Wp} {v1 : Int32}  {s0 : St} {z : Int32} (h : M_pupils v1 s0 = some z) : Cm l yX12_pupils (.code yX12_pupils cX12_pupils 6 (some .int)) 0 WM w [.ref (wa w 0 0), .int v1] s0 (some (.int z)) s0 := by
  refine Cm.of (own := RX12) (by decide +kernel) rfl (Nat.le_of_ble_eq_true rfl) (L := [(0, .ref (wa w 0 0)), (1, .int v1)]) rfl KoM (fun x hl C => ?_)
  subst hl
  unfold M_pupils at h
  refine r_iconst (v := 0) C dX12_pupils_0 (by decide) ?_
  refine r_istore_n C dX12_pupils_1 rfl (Nat.le_of_ble_eq_true rfl) (L' := [(2, _), (0, _), (1, _)]) rfl ?_
  refine r_iconst (v := 0) C dX12_pupils_2 (by decide) ?_
  refine r_istore_n C dX12_pupils_3 rfl (Nat.le_of_ble_eq_true rfl) (L' := [(3, _), (2, _), (0, _), (1, _)]) rfl ?_
  refine r_sub [2, 3, 1, 0] rfl ?_
  exact t_X12_pupils_L4 C _ _ _ h
