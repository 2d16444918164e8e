def Ct_ofTheLater_J56 (B6 : Int32 → Int32 → St → Option (Int32 × St)) (v1_12 : Int32) (v3_13 : Int32) (v4_14 : Int32)  (s_15 : St) : Option (Int32 × St) :=
  B6 v3_13 (v4_14 + 1) s_15
def Ct_ofTheLater_J53 (B6 : Int32 → Int32 → St → Option (Int32 × St)) (v1_9 : Int32) (v4_10 : Int32)  (s_11 : St) : Option (Int32 × St) :=
  Ct_ofTheLater_J56 B6 v1_9 v4_10 v4_10 s_11
def Ct_ofTheLater_L6 (K62 : Int32 → St → Option (Int32 × St)) (v1_1 : Int32) : Nat → Int32 → Int32 → St → Option (Int32 × St)
  | 0, _, _, _ => none
  | n + 1, v3_2, v4_3, s_4 => if (s_4.1 3 0 5) ≤ v4_3 then (K62 v3_2 s_4) else (if inb v4_3 8 = true then if (Ms_hasSpoken v4_3.toNatClampNeg s_4) = 0 then (Ct_ofTheLater_J56 (Ct_ofTheLater_L6 K62 v1_1 n) v1_1 v3_2 v4_3 s_4) else (if v3_2 = (-9) then (Ct_ofTheLater_J53 (Ct_ofTheLater_L6 K62 v1_1 n) v1_1 v4_3 s_4) else (if inb v4_3 8 = true then if inb v3_2 8 = true then if (s_4.1 22 v4_3.toNatClampNeg 1) ≤ (s_4.1 22 v3_2.toNatClampNeg 1) then (Ct_ofTheLater_J56 (Ct_ofTheLater_L6 K62 v1_1 n) v1_1 v3_2 v4_3 s_4) else (Ct_ofTheLater_J53 (Ct_ofTheLater_L6 K62 v1_1 n) v1_1 v4_3 s_4) else none else none)) else none)
def Ct_ofTheLater (v1 : Int32) (s0 : St) : Option (Int32 × St) :=
  Ct_ofTheLater_L6 (fun (v3_27 : Int32) (s_28 : St) => if v3_27 = (-9) then (some ((-9), sX s_28 5 0 0 v3_27)) else (if inb v3_27 8 = true then Option.bind (Ru_verdict ((sX s_28 5 0 0 v3_27).1 24 v3_27.toNatClampNeg 2) v1 (sX s_28 5 0 0 v3_27)) (fun r_31 => some (r_31, sX s_28 5 0 0 v3_27)) else none)) v1 1100 (-9) 0 s0
set_option maxHeartbeats 4000000 in
set_option maxRecDepth 100000 in
theorem t_X2_ofTheLater_J56 {x : Ctx} {w : Wp} {v1_12 : Int32} {v3_13 : Int32} {v4_14 : Int32}  {s_15 : St} {z : Int32 × St}  {B6 : Int32 → Int32 → St → Option (Int32 × St)} (hB6 : ∀ (u3_16 : Int32) (u4_17 : Int32) (s_18 : St), B6 u3_16 u4_17 s_18 = some z → V x WC w 5 (QM x WC w (some (.int z.1)) z.2) s_18 6 [(0, .ref (wa w 5 0)), (1, .int v1_12), (2, .ref (wa w 15 0)), (3, .int u3_16), (4, .int u4_17)] []) (C : Cx x WC w cX2_ofTheLater 5 RX2 1 (some .int)) (h : Ct_ofTheLater_J56 B6 v1_12 v3_13 v4_14 s_15 = some z) : V x WC w 5 (QM x WC w (some (.int z.1)) z.2) s_15 56 [(0, .ref (wa w 5 0)), (1, .int v1_12), (2, .ref (wa w 15 0)), (3, .int v3_13), (4, .int v4_14)] [] := by
  unfold Ct_ofTheLater_J56 at h
  refine r_iinc (v := v4_14 + 1) C dX2_ofTheLater_56 (j := 4) rfl rfl (Nat.le_of_ble_eq_true rfl) (L' := [(4, _), (0, _), (1, _), (2, _), (3, _)]) rfl ?_
  refine r_goto (tgt := 6) C dX2_ofTheLater_59 (by decide) ?_
  refine r_sub [1, 2, 3, 4, 0] rfl ?_
  exact hB6 _ _ _ h
set_option maxHeartbeats 4000000 in
set_option maxRecDepth 100000 in
theorem t_X2_ofTheLater_J53 {x : Ctx} {w : Wp} {v1_9 : Int32} {v4_10 : Int32}  {s_11 : St} {z : Int32 × St}  {B6 : Int32 → Int32 → St → Option (Int32 × St)} (hB6 : ∀ (u3_19 : Int32) (u4_20 : Int32) (s_21 : St), B6 u3_19 u4_20 s_21 = some z → V x WC w 5 (QM x WC w (some (.int z.1)) z.2) s_21 6 [(0, .ref (wa w 5 0)), (1, .int v1_9), (2, .ref (wa w 15 0)), (3, .int u3_19), (4, .int u4_20)] []) (C : Cx x WC w cX2_ofTheLater 5 RX2 1 (some .int)) (h : Ct_ofTheLater_J53 B6 v1_9 v4_10 s_11 = some z) : V x WC w 5 (QM x WC w (some (.int z.1)) z.2) s_11 53 [(0, .ref (wa w 5 0)), (1, .int v1_9), (2, .ref (wa w 15 0)), (4, .int v4_10)] [] := by
  unfold Ct_ofTheLater_J53 at h
  refine r_iload C dX2_ofTheLater_53 3 rfl ?_
  refine r_istore_n C dX2_ofTheLater_55 rfl (Nat.le_of_ble_eq_true rfl) (L' := [(3, _), (0, _), (1, _), (2, _), (4, _)]) rfl ?_
  refine r_sub [1, 2, 3, 0, 4] rfl ?_
  exact t_X2_ofTheLater_J56 hB6 C h
set_option maxHeartbeats 4000000 in
set_option maxRecDepth 100000 in
theorem t_X2_ofTheLater_L6 {x : Ctx} {w : Wp} {v1_1 : Int32} {z : Int32 × St}  {K62 : Int32 → St → Option (Int32 × St)} (hK62 : ∀ (u3_25 : Int32) (s_26 : St), K62 u3_25 s_26 = some z → V x WC w 5 (QM x WC w (some (.int z.1)) z.2) s_26 62 [(0, .ref (wa w 5 0)), (1, .int v1_1), (2, .ref (wa w 15 0)), (3, .int u3_25)] []) (C : Cx x WC w cX2_ofTheLater 5 RX2 1 (some .int)) : ∀ (n : Nat) (v3_2 : Int32) (v4_3 : Int32) (s_4 : St), Ct_ofTheLater_L6 K62 v1_1 n v3_2 v4_3 s_4 = some z → V x WC w 5 (QM x WC w (some (.int z.1)) z.2) s_4 6 [(0, .ref (wa w 5 0)), (1, .int v1_1), (2, .ref (wa w 15 0)), (3, .int v3_2), (4, .int v4_3)] [] := by
  intro n
  induction n with
  | zero => intro v3_2 v4_3 s_4 h; cases h
  | succ n ih =>
    intro v3_2 v4_3 s_4 h
    unfold Ct_ofTheLater_L6 at h
    refine r_iload C dX2_ofTheLater_6 4 rfl ?_
    refine r_aload_n C dX2_ofTheLater_8 rfl 0 rfl ?_
    refine gfX2_15 C dX2_ofTheLater_9 ?_
    refine gfX2_27 C dX2_ofTheLater_12 ?_
    refine r_icmp_ge (tgt := 62) C dX2_ofTheLater_15 (by decide) (fun c_5 => ?_) (fun c_5 => ?_)
    · have h := ip h c_5
      refine r_sub [0, 1, 2, 3] rfl ?_
      exact hK62 _ _ h
    · have h := iq h c_5
      refine r_aload_n C dX2_ofTheLater_18 rfl 2 rfl ?_
      refine r_iload C dX2_ofTheLater_19 4 rfl ?_
      obtain ⟨g_6, h⟩ := gdE h
      refine la_15 C g_6 dX2_ofTheLater_21 ?_
      refine kX2_32 C (inb_lt g_6) (m_X3_hasSpoken (inb_lt g_6) rfl) (by decide) (Nat.le_of_ble_eq_true rfl) dX2_ofTheLater_22 ?_
      refine r_if_ne (tgt := 31) C dX2_ofTheLater_25 (by decide) (fun c_7 => ?_) (fun c_7 => ?_)
      · have h := iq h c_7
        refine r_iload_n C dX2_ofTheLater_31 rfl 3 rfl ?_
        refine r_bipush (v := (-9)) C dX2_ofTheLater_32 (by decide) ?_
        refine r_icmp_eq (tgt := 53) C dX2_ofTheLater_34 (by decide) (fun c_8 => ?_) (fun c_8 => ?_)
        · have h := ip h c_8
          refine r_sub [0, 1, 2, 4] rfl ?_
          exact t_X2_ofTheLater_J53 ih C h
        · have h := iq h c_8
          refine r_aload_n C dX2_ofTheLater_37 rfl 2 rfl ?_
          refine r_iload C dX2_ofTheLater_38 4 rfl ?_
          obtain ⟨g_22, h⟩ := gdE h
          refine la_15 C g_22 dX2_ofTheLater_40 ?_
          refine gfX2_61 C (inb_lt g_22) dX2_ofTheLater_41 ?_
          refine r_aload_n C dX2_ofTheLater_44 rfl 2 rfl ?_
          refine r_iload_n C dX2_ofTheLater_45 rfl 3 rfl ?_
          obtain ⟨g_23, h⟩ := gdE h
          refine la_15 C g_23 dX2_ofTheLater_46 ?_
          refine gfX2_61 C (inb_lt g_23) dX2_ofTheLater_47 ?_
          refine r_icmp_le (tgt := 56) C dX2_ofTheLater_50 (by decide) (fun c_24 => ?_) (fun c_24 => ?_)
          · have h := ip h c_24
            refine r_sub [0, 1, 2, 3, 4] rfl ?_
            exact t_X2_ofTheLater_J56 ih C h
          · have h := iq h c_24
            refine r_sub [0, 1, 2, 4] rfl ?_
            exact t_X2_ofTheLater_J53 ih C h
      · have h := ip h c_7
        refine r_goto (tgt := 56) C dX2_ofTheLater_28 (by decide) ?_
        refine r_sub [0, 1, 2, 3, 4] rfl ?_
        exact t_X2_ofTheLater_J56 ih C h
set_option maxHeartbeats 4000000 in
set_option maxRecDepth 100000 in
theorem m_X2_ofTheLater {l : Launch} {w : Wp} {v1 : Int32}  {s0 : St} {z : Int32 × St} (h : Ct_ofTheLater v1 s0 = some z) : Cm l yX2_ofTheLater (.code yX2_ofTheLater cX2_ofTheLater 5 (some .int)) 1 WC w [.ref (wa w 5 0), .int v1, .ref (wa w 15 0)] s0 (some (.int z.1)) z.2 := by
  refine Cm.of (own := RX2) (by decide +kernel) rfl (Nat.le_of_ble_eq_true rfl) (L := [(0, .ref (wa w 5 0)), (1, .int v1), (2, .ref (wa w 15 0))]) rfl KoC (fun x hl C => ?_)
  subst hl
  unfold Ct_ofTheLater at h
  refine r_bipush (v := (-9)) C dX2_ofTheLater_0 (by decide) ?_
  refine r_istore_n C dX2_ofTheLater_2 rfl (Nat.le_of_ble_eq_true rfl) (L' := [(3, _), (0, _), (1, _), (2, _)]) rfl ?_
  refine r_iconst (v := 0) C dX2_ofTheLater_3 (by decide) ?_
  refine r_istore C dX2_ofTheLater_4 (Nat.le_of_ble_eq_true rfl) (L' := [(4, _), (3, _), (0, _), (1, _), (2, _)]) rfl ?_
  refine r_sub [2, 3, 4, 1, 0] rfl ?_
  refine t_X2_ofTheLater_L6 (fun v3_27 s_28 h => ?_) C _ _ _ _ h
  refine r_aload_n C dX2_ofTheLater_62 rfl 0 rfl ?_
  refine r_iload_n C dX2_ofTheLater_63 rfl 3 rfl ?_
  refine pfX2_9 C dX2_ofTheLater_64 ?_
  refine r_iload_n C dX2_ofTheLater_67 rfl 3 rfl ?_
  refine r_bipush (v := (-9)) C dX2_ofTheLater_68 (by decide) ?_
  refine r_icmp_ne (tgt := 78) C dX2_ofTheLater_70 (by decide) (fun c_29 => ?_) (fun c_29 => ?_)
  · have h := iq h c_29
    refine r_aload_n C dX2_ofTheLater_78 rfl 0 rfl ?_
    refine gfX2_15 C dX2_ofTheLater_79 ?_
    refine gfX2_42 C dX2_ofTheLater_82 ?_
    refine r_aload_n C dX2_ofTheLater_85 rfl 2 rfl ?_
    refine r_iload_n C dX2_ofTheLater_86 rfl 3 rfl ?_
    obtain ⟨g_30, h⟩ := gdE h
    refine la_15 C g_30 dX2_ofTheLater_87 ?_
    refine gfX2_46 C (inb_lt g_30) dX2_ofTheLater_88 ?_
    refine gfX2_50 C (inb_lt g_30) dX2_ofTheLater_91 ?_
    refine r_iload_n C dX2_ofTheLater_94 rfl 1 rfl ?_
    obtain ⟨r_31, er_31, h⟩ := bdE h
    refine kX2_55 C (m_X8_verdict er_31) (by decide) (Nat.le_of_ble_eq_true rfl) dX2_ofTheLater_95 ?_
    cases h
    exact r_iret C dX2_ofTheLater_98
  · have h := ip h c_29
    refine r_bipush (v := (-9)) C dX2_ofTheLater_73 (by decide) ?_
    refine r_goto (tgt := 98) C dX2_ofTheLater_75 (by decide) ?_
    cases h
    exact r_iret C dX2_ofTheLater_98
def Ct_ofTheMore_J97 (B9 : Int32 → Int32 → Int32 → St → Option (Int32 × St)) (v1_22 : Int32) (v2_23 : Int32) (v4_24 : Int32) (v5_25 : Int32) (v6_26 : Int32)  (s_27 : St) : Option (Int32 × St) :=
  B9 v4_24 v5_25 (v6_26 + 1) s_27
def Ct_ofTheMore_J53 (B9 : Int32 → Int32 → Int32 → St → Option (Int32 × St)) (v1_12 : Int32) (v2_13 : Int32) (v4_14 : Int32) (v5_15 : Int32) (v6_16 : Int32) (t_17 : Int32) (s_18 : St) : Option (Int32 × St) :=
  if inb v6_16 8 = true then Option.bind (Ru_verdict (s_18.1 24 v6_16.toNatClampNeg 2) v2_13 s_18) (fun r_20 => if r_20 = 1 then (Ct_ofTheMore_J97 B9 v1_12 v2_13 (v4_14 + t_17) v5_15 v6_16 s_18) else (Ct_ofTheMore_J97 B9 v1_12 v2_13 v4_14 (v5_15 + t_17) v6_16 s_18)) else none
def Ct_ofTheMore_L9 (K103 : Int32 → Int32 → St → Option (Int32 × St)) (v1_1 : Int32) (v2_2 : Int32) : Nat → Int32 → Int32 → Int32 → St → Option (Int32 × St)
  | 0, _, _, _, _ => none
  | n + 1, v4_3, v5_4, v6_5, s_6 => if (s_6.1 3 0 5) ≤ v6_5 then (K103 v4_3 v5_4 s_6) else (if inb v6_5 8 = true then if (Ms_hasSpoken v6_5.toNatClampNeg s_6) = 0 then (Ct_ofTheMore_J97 (Ct_ofTheMore_L9 K103 v1_1 v2_2 n) v1_1 v2_2 v4_3 v5_4 v6_5 s_6) else (if v1_1 = 0 then (Ct_ofTheMore_J53 (Ct_ofTheMore_L9 K103 v1_1 v2_2 n) v1_1 v2_2 v4_3 v5_4 v6_5 1 s_6) else (Option.bind (Bk_pupils v6_5 s_6) (fun r_11 => Ct_ofTheMore_J53 (Ct_ofTheMore_L9 K103 v1_1 v2_2 n) v1_1 v2_2 v4_3 v5_4 v6_5 (r_11 + 1) s_6))) else none)
def Ct_ofTheMore (v1 : Int32) (v2 : Int32) (s0 : St) : Option (Int32 × St) :=
  Ct_ofTheMore_L9 (fun (v4_39 : Int32) (v5_40 : Int32) (s_41 : St) => some ((if v4_39 = v5_40 then (-9) else (if v4_39 ≤ v5_40 then 0 else 1) : Int32), sX s_41 5 0 0 v4_39)) v1 v2 1100 0 0 0 s0
set_option maxHeartbeats 4000000 in
set_option maxRecDepth 100000 in
theorem t_X2_ofTheMore_J97 {x : Ctx} {w : Wp} {v1_22 : Int32} {v2_23 : Int32} {v4_24 : Int32} {v5_25 : Int32} {v6_26 : Int32}  {s_27 : St} {z : Int32 × St}  {B9 : Int32 → Int32 → Int32 → St → Option (Int32 × St)} (hB9 : ∀ (u4_28 : Int32) (u5_29 : Int32) (u6_30 : Int32) (s_31 : St), B9 u4_28 u5_29 u6_30 s_31 = some z → V x WC w 8 (QM x WC w (some (.int z.1)) z.2) s_31 9 [(0, .ref (wa w 5 0)), (1, .int v1_22), (2, .int v2_23), (3, .ref (wa w 15 0)), (4, .int u4_28), (5, .int u5_29), (6, .int u6_30)] []) (C : Cx x WC w cX2_ofTheMore 8 RX2 1 (some .int)) (h : Ct_ofTheMore_J97 B9 v1_22 v2_23 v4_24 v5_25 v6_26 s_27 = some z) : V x WC w 8 (QM x WC w (some (.int z.1)) z.2) s_27 97 [(0, .ref (wa w 5 0)), (1, .int v1_22), (2, .int v2_23), (3, .ref (wa w 15 0)), (4, .int v4_24), (5, .int v5_25), (6, .int v6_26)] [] := by
  unfold Ct_ofTheMore_J97 at h
  refine r_iinc (v := v6_26 + 1) C dX2_ofTheMore_97 (j := 6) rfl rfl (Nat.le_of_ble_eq_true rfl) (L' := [(6, _), (0, _), (1, _), (2, _), (3, _), (4, _), (5, _)]) rfl ?_
  refine r_goto (tgt := 9) C dX2_ofTheMore_100 (by decide) ?_
  refine r_sub [1, 2, 3, 4, 5, 6, 0] rfl ?_
  exact hB9 _ _ _ _ h
set_option maxHeartbeats 4000000 in
set_option maxRecDepth 100000 in
theorem t_X2_ofTheMore_J53 {x : Ctx} {w : Wp} {v1_12 : Int32} {v2_13 : Int32} {v4_14 : Int32} {v5_15 : Int32} {v6_16 : Int32} {t_17 : Int32} {s_18 : St} {z : Int32 × St}  {B9 : Int32 → Int32 → Int32 → St → Option (Int32 × St)} (hB9 : ∀ (u4_32 : Int32) (u5_33 : Int32) (u6_34 : Int32) (s_35 : St), B9 u4_32 u5_33 u6_34 s_35 = some z → V x WC w 8 (QM x WC w (some (.int z.1)) z.2) s_35 9 [(0, .ref (wa w 5 0)), (1, .int v1_12), (2, .int v2_13), (3, .ref (wa w 15 0)), (4, .int u4_32), (5, .int u5_33), (6, .int u6_34)] []) (C : Cx x WC w cX2_ofTheMore 8 RX2 1 (some .int)) (h : Ct_ofTheMore_J53 B9 v1_12 v2_13 v4_14 v5_15 v6_16 t_17 s_18 = some z) : V x WC w 8 (QM x WC w (some (.int z.1)) z.2) s_18 53 [(0, .ref (wa w 5 0)), (1, .int v1_12), (2, .int v2_13), (3, .ref (wa w 15 0)), (4, .int v4_14), (5, .int v5_15), (6, .int v6_16)] [.int t_17] := by
  unfold Ct_ofTheMore_J53 at h
  refine r_istore C dX2_ofTheMore_53 (Nat.le_of_ble_eq_true rfl) (L' := [(7, _), (0, _), (1, _), (2, _), (3, _), (4, _), (5, _), (6, _)]) rfl ?_
  refine r_aload_n C dX2_ofTheMore_55 rfl 1 rfl ?_
  refine gfX2_15 C dX2_ofTheMore_56 ?_
  refine gfX2_42 C dX2_ofTheMore_59 ?_
  refine r_aload_n C dX2_ofTheMore_62 rfl 4 rfl ?_
  refine r_iload C dX2_ofTheMore_63 7 rfl ?_
  obtain ⟨g_19, h⟩ := gdE h
  refine la_15 C g_19 dX2_ofTheMore_65 ?_
  refine gfX2_46 C (inb_lt g_19) dX2_ofTheMore_66 ?_
  refine gfX2_50 C (inb_lt g_19) dX2_ofTheMore_69 ?_
  refine r_iload_n C dX2_ofTheMore_72 rfl 3 rfl ?_
  obtain ⟨r_20, er_20, h⟩ := bdE h
  refine kX2_55 C (m_X8_verdict er_20) (by decide) (Nat.le_of_ble_eq_true rfl) dX2_ofTheMore_73 ?_
  refine r_iconst (v := 1) C dX2_ofTheMore_76 (by decide) ?_
  refine r_icmp_ne (tgt := 90) C dX2_ofTheMore_77 (by decide) (fun c_21 => ?_) (fun c_21 => ?_)
  · have h := iq h c_21
    refine r_iload C dX2_ofTheMore_90 6 rfl ?_
    refine r_iload C dX2_ofTheMore_92 0 rfl ?_
    refine r_iadd C dX2_ofTheMore_94 ?_
    refine r_istore C dX2_ofTheMore_95 (Nat.le_of_ble_eq_true rfl) (L' := [(5, _), (7, _), (0, _), (1, _), (2, _), (3, _), (4, _), (6, _)]) rfl ?_
    refine r_sub [2, 3, 4, 5, 6, 0, 7] rfl ?_
    exact t_X2_ofTheMore_J97 hB9 C h
  · have h := ip h c_21
    refine r_iload C dX2_ofTheMore_80 5 rfl ?_
    refine r_iload C dX2_ofTheMore_82 0 rfl ?_
    refine r_iadd C dX2_ofTheMore_84 ?_
    refine r_istore C dX2_ofTheMore_85 (Nat.le_of_ble_eq_true rfl) (L' := [(4, _), (7, _), (0, _), (1, _), (2, _), (3, _), (5, _), (6, _)]) rfl ?_
    refine r_goto (tgt := 97) C dX2_ofTheMore_87 (by decide) ?_
    refine r_sub [2, 3, 4, 5, 0, 6, 7] rfl ?_
    exact t_X2_ofTheMore_J97 hB9 C h
set_option maxHeartbeats 4000000 in
set_option maxRecDepth 100000 in
theorem t_X2_ofTheMore_L9 {x : Ctx} {w : Wp} {v1_1 : Int32} {v2_2 : Int32} {z : Int32 × St}  {K103 : Int32 → Int32 → St → Option (Int32 × St)} (hK103 : ∀ (u4_36 : Int32) (u5_37 : Int32) (s_38 : St), K103 u4_36 u5_37 s_38 = some z → V x WC w 8 (QM x WC w (some (.int z.1)) z.2) s_38 103 [(0, .ref (wa w 5 0)), (4, .int u4_36), (5, .int u5_37)] []) (C : Cx x WC w cX2_ofTheMore 8 RX2 1 (some .int)) : ∀ (n : Nat) (v4_3 : Int32) (v5_4 : Int32) (v6_5 : Int32) (s_6 : St), Ct_ofTheMore_L9 K103 v1_1 v2_2 n v4_3 v5_4 v6_5 s_6 = some z → V x WC w 8 (QM x WC w (some (.int z.1)) z.2) s_6 9 [(0, .ref (wa w 5 0)), (1, .int v1_1), (2, .int v2_2), (3, .ref (wa w 15 0)), (4, .int v4_3), (5, .int v5_4), (6, .int v6_5)] [] := by
  intro n
  induction n with
  | zero => intro v4_3 v5_4 v6_5 s_6 h; cases h
  | succ n ih =>
    intro v4_3 v5_4 v6_5 s_6 h
    unfold Ct_ofTheMore_L9 at h
    refine r_iload C dX2_ofTheMore_9 6 rfl ?_
    refine r_aload_n C dX2_ofTheMore_11 rfl 0 rfl ?_
    refine gfX2_15 C dX2_ofTheMore_12 ?_
    refine gfX2_27 C dX2_ofTheMore_15 ?_
    refine r_icmp_ge (tgt := 103) C dX2_ofTheMore_18 (by decide) (fun c_7 => ?_) (fun c_7 => ?_)
    · have h := ip h c_7
      refine r_sub [0, 4, 5] rfl ?_
      exact hK103 _ _ _ h
    · have h := iq h c_7
      refine r_aload_n C dX2_ofTheMore_21 rfl 3 rfl ?_
      refine r_iload C dX2_ofTheMore_22 6 rfl ?_
      obtain ⟨g_8, h⟩ := gdE h
      refine la_15 C g_8 dX2_ofTheMore_24 ?_
      refine kX2_32 C (inb_lt g_8) (m_X3_hasSpoken (inb_lt g_8) rfl) (by decide) (Nat.le_of_ble_eq_true rfl) dX2_ofTheMore_25 ?_
      refine r_if_ne (tgt := 34) C dX2_ofTheMore_28 (by decide) (fun c_9 => ?_) (fun c_9 => ?_)
      · have h := iq h c_9
        refine r_iload_n C dX2_ofTheMore_34 rfl 1 rfl ?_
        refine r_if_ne (tgt := 42) C dX2_ofTheMore_35 (by decide) (fun c_10 => ?_) (fun c_10 => ?_)
        · have h := iq h c_10
          refine r_aload_n C dX2_ofTheMore_42 rfl 0 rfl ?_
          refine gfX2_15 C dX2_ofTheMore_43 ?_
          refine r_iload C dX2_ofTheMore_46 6 rfl ?_
          obtain ⟨r_11, er_11, h⟩ := bdE h
          refine kX2_38 C (m_X1_pupils er_11) (by decide) (Nat.le_of_ble_eq_true rfl) dX2_ofTheMore_48 ?_
          refine r_iconst (v := 1) C dX2_ofTheMore_51 (by decide) ?_
          refine r_iadd C dX2_ofTheMore_52 ?_
          refine r_sub [0, 1, 2, 3, 4, 5, 6] rfl ?_
          exact t_X2_ofTheMore_J53 ih C h
        · have h := ip h c_10
          refine r_iconst (v := 1) C dX2_ofTheMore_38 (by decide) ?_
          refine r_goto (tgt := 53) C dX2_ofTheMore_39 (by decide) ?_
          refine r_sub [0, 1, 2, 3, 4, 5, 6] rfl ?_
          exact t_X2_ofTheMore_J53 ih C h
      · have h := ip h c_9
        refine r_goto (tgt := 97) C dX2_ofTheMore_31 (by decide) ?_
        refine r_sub [0, 1, 2, 3, 4, 5, 6] rfl ?_
        exact t_X2_ofTheMore_J97 ih C h
set_option maxHeartbeats 4000000 in
set_option maxRecDepth 100000 in
theorem m_X2_ofTheMore {l : Launch} {w : Wp} {v1 : Int32} {v2 : Int32}  {s0 : St} {z : Int32 × St} (h : Ct_ofTheMore v1 v2 s0 = some z) : Cm l yX2_ofTheMore (.code yX2_ofTheMore cX2_ofTheMore 8 (some .int)) 1 WC w [.ref (wa w 5 0), .int v1, .int v2, .ref (wa w 15 0)] s0 (some (.int z.1)) z.2 := by
  refine Cm.of (own := RX2) (by decide +kernel) rfl (Nat.le_of_ble_eq_true rfl) (L := [(0, .ref (wa w 5 0)), (1, .int v1), (2, .int v2), (3, .ref (wa w 15 0))]) rfl KoC (fun x hl C => ?_)
  subst hl
  unfold Ct_ofTheMore at h
  refine r_iconst (v := 0) C dX2_ofTheMore_0 (by decide) ?_
  refine r_istore C dX2_ofTheMore_1 (Nat.le_of_ble_eq_true rfl) (L' := [(4, _), (0, _), (1, _), (2, _), (3, _)]) rfl ?_
  refine r_iconst (v := 0) C dX2_ofTheMore_3 (by decide) ?_
  refine r_istore C dX2_ofTheMore_4 (Nat.le_of_ble_eq_true rfl) (L' := [(5, _), (4, _), (0, _), (1, _), (2, _), (3, _)]) rfl ?_
  refine r_iconst (v := 0) C dX2_ofTheMore_6 (by decide) ?_
  refine r_istore C dX2_ofTheMore_7 (Nat.le_of_ble_eq_true rfl) (L' := [(6, _), (5, _), (4, _), (0, _), (1, _), (2, _), (3, _)]) rfl ?_
  refine r_sub [3, 4, 5, 6, 2, 1, 0] rfl ?_
  refine t_X2_ofTheMore_L9 (fun v4_39 v5_40 s_41 h => ?_) C _ _ _ _ _ h
  refine r_aload_n C dX2_ofTheMore_103 rfl 0 rfl ?_
  refine r_iload C dX2_ofTheMore_104 1 rfl ?_
  refine pfX2_9 C dX2_ofTheMore_106 ?_
  refine r_iload C dX2_ofTheMore_109 1 rfl ?_
  refine r_iload C dX2_ofTheMore_111 2 rfl ?_
  refine r_em (st := []) 133 ((if v4_39 = v5_40 then (-9) else (if v4_39 ≤ v5_40 then 0 else 1) : Int32)) (fun hM_44 => ?_) ?_
  · refine r_icmp_ne (tgt := 121) C dX2_ofTheMore_113 (by decide) (fun c_43 => ?_) (fun c_43 => ?_)
    · refine r_iload C dX2_ofTheMore_121 1 rfl ?_
      refine r_iload C dX2_ofTheMore_123 2 rfl ?_
      refine r_icmp_le (tgt := 132) C dX2_ofTheMore_125 (by decide) (fun c_42 => ?_) (fun c_42 => ?_)
      · refine r_iconst (v := 0) C dX2_ofTheMore_132 (by decide) ?_
        exact (em_pos c_42 (em_neg c_43 hM_44))
      · refine r_iconst (v := 1) C dX2_ofTheMore_128 (by decide) ?_
        refine r_goto (tgt := 133) C dX2_ofTheMore_129 (by decide) ?_
        exact (em_neg c_42 (em_neg c_43 hM_44))
    · refine r_bipush (v := (-9)) C dX2_ofTheMore_116 (by decide) ?_
      refine r_goto (tgt := 133) C dX2_ofTheMore_118 (by decide) ?_
      exact (em_pos c_43 hM_44)
  cases h
  exact r_iret C dX2_ofTheMore_133
def Ct_ruling (v1 : Int32) (v2 : Int32) (s0 : St) : Option (Int32 × St) :=
  if v1 = 1 then (Option.bind (Ct_ofTheLater v2 s0) (fun r_3 => some (r_3.1, r_3.2))) else (Option.bind (Ct_ofTheMore v1 v2 s0) (fun r_2 => some (r_2.1, r_2.2)))
set_option maxHeartbeats 4000000 in
set_option maxRecDepth 100000 in
theorem m_X2_ruling {l : Launch} {w : Wp} {v1 : Int32} {v2 : Int32}  {s0 : St} {z : Int32 × St} (h : Ct_ruling v1 v2 s0 = some z) : Cm l yX2_ruling (.code yX2_ruling cX2_ruling 4 (some .int)) 2 WC w [.ref (wa w 5 0), .int v1, .int v2, .ref (wa w 15 0)] s0 (some (.int z.1)) z.2 := by
  refine Cm.of (own := RX2) (by decide +kernel) rfl (Nat.le_of_ble_eq_true rfl) (L := [(0, .ref (wa w 5 0)), (1, .int v1), (2, .int v2), (3, .ref (wa w 15 0))]) rfl KoC (fun x hl C => ?_)
  subst hl
  unfold Ct_ruling at h
  refine r_iload_n C dX2_ruling_0 rfl 1 rfl ?_
  refine r_iconst (v := 1) C dX2_ruling_1 (by decide) ?_
  refine r_icmp_ne (tgt := 14) C dX2_ruling_2 (by decide) (fun c_1 => ?_) (fun c_1 => ?_)
  · have h := iq h c_1
    refine r_aload_n C dX2_ruling_14 rfl 0 rfl ?_
    refine r_iload_n C dX2_ruling_15 rfl 1 rfl ?_
    refine r_iload_n C dX2_ruling_16 rfl 2 rfl ?_
    refine r_aload_n C dX2_ruling_17 rfl 3 rfl ?_
    obtain ⟨r_2, er_2, h⟩ := bdE h
    refine kX2_23 C (m_X2_ofTheMore er_2) (by decide) (Nat.le_of_ble_eq_true rfl) dX2_ruling_18 ?_
    cases h
    exact r_iret C dX2_ruling_21
  · have h := ip h c_1
    refine r_aload_n C dX2_ruling_5 rfl 0 rfl ?_
    refine r_iload_n C dX2_ruling_6 rfl 2 rfl ?_
    refine r_aload_n C dX2_ruling_7 rfl 3 rfl ?_
    obtain ⟨r_3, er_3, h⟩ := bdE h
    refine kX2_19 C (m_X2_ofTheLater er_3) (by decide) (Nat.le_of_ble_eq_true rfl) dX2_ruling_8 ?_
    refine r_goto (tgt := 21) C dX2_ruling_11 (by decide) ?_
    cases h
    exact r_iret C dX2_ruling_21
def Mi_lastCheap (n : Nat) (s0 : St) : Option (Int32) :=
  if (s0.1 24 n 5) ≤ 0 then (some (-9)) else (if inb ((s0.1 24 n 5) - 1) 244 = true then some (s0.1 25 n (((s0.1 24 n 5) - 1).toNatClampNeg)) else none)
set_option maxHeartbeats 4000000 in
set_option maxRecDepth 100000 in
theorem m_X4_lastCheap {l : Launch} {w : Wp} {n : Nat} (hn : n < 8) {s0 : St} {z : Int32} (h : Mi_lastCheap n s0 = some z) : Cm l yX4_lastCheap (.code yX4_lastCheap cX4_lastCheap 1 (some .int)) 0 WC w [.ref (wa w 24 n)] s0 (some (.int z)) s0 := by
  refine Cm.of (own := RX4) (by decide +kernel) rfl (Nat.le_of_ble_eq_true rfl) (L := [(0, .ref (wa w 24 n))]) rfl KoC (fun x hl C => ?_)
  subst hl
  unfold Mi_lastCheap at h
  refine r_aload_n C dX4_lastCheap_0 rfl 0 rfl ?_
  refine gfX4_29 C hn dX4_lastCheap_1 ?_
  refine r_if_le (tgt := 21) C dX4_lastCheap_4 (by decide) (fun c_1 => ?_) (fun c_1 => ?_)
  · have h := ip h c_1
    refine r_bipush (v := (-9)) C dX4_lastCheap_21 (by decide) ?_
    cases h
    exact r_iret C dX4_lastCheap_23
  · have h := iq h c_1
    refine r_aload_n C dX4_lastCheap_7 rfl 0 rfl ?_
    refine gfX4_25 C hn dX4_lastCheap_8 ?_
    refine r_aload_n C dX4_lastCheap_11 rfl 0 rfl ?_
    refine gfX4_29 C hn dX4_lastCheap_12 ?_
    refine r_iconst (v := 1) C dX4_lastCheap_15 (by decide) ?_
    refine r_isub C dX4_lastCheap_16 ?_
    obtain ⟨g_2, h⟩ := gdE h
    refine ldC_25 C hn g_2 dX4_lastCheap_17 ?_
    refine r_goto (tgt := 23) C dX4_lastCheap_18 (by decide) ?_
    cases h
    exact r_iret C dX4_lastCheap_23
def Mv_figure (n : Nat) (v1 : Int32) (s0 : St) : Int32 :=
  if v1 = 0 then (s0.1 28 n 0) else (if v1 = 1 then (s0.1 28 n 1) else (s0.1 28 n 2))
set_option maxHeartbeats 4000000 in
set_option maxRecDepth 100000 in
theorem m_X5_figure {l : Launch} {w : Wp} {n : Nat} {v1 : Int32} (hn : n < 40) {s0 : St} {z : Int32} (h : Mv_figure n v1 s0 = z) : Cm l yX5_figure (.code yX5_figure cX5_figure 2 (some .int)) 0 WC w [.ref (wa w 28 n), .int v1] s0 (some (.int z)) s0 := by
  refine Cm.of (own := RX5) (by decide +kernel) rfl (Nat.le_of_ble_eq_true rfl) (L := [(0, .ref (wa w 28 n)), (1, .int v1)]) rfl KoC (fun x hl C => ?_)
  subst hl
  unfold Mv_figure at h
  refine r_iload_n C dX5_figure_0 rfl 1 rfl ?_
  by_cases c_1 : v1 = 0
  · have h := ip h c_1
    refine r_look (off := 27) (tgt := 28) C dX5_figure_1 (by decide) (lk_at c_1 (by decide)) (by decide) ?_
    refine r_aload_n C dX5_figure_28 rfl 0 rfl ?_
    refine gfX5_9 C hn dX5_figure_29 ?_
    subst h
    exact r_iret C dX5_figure_32
  have h := iq h c_1
  by_cases c_2 : v1 = 1
  · have h := ip h c_2
    refine r_look (off := 32) (tgt := 33) C dX5_figure_1 (by decide) (lk_at c_2 (by decide)) (by decide) ?_
    refine r_aload_n C dX5_figure_33 rfl 0 rfl ?_
    refine gfX5_15 C hn dX5_figure_34 ?_
    subst h
    exact r_iret C dX5_figure_37
  have h := iq h c_2
  refine r_look (off := 37) (tgt := 38) C dX5_figure_1 (by decide) (by have q0 : ¬ (0 : Int) = Int32.toInt v1 := fun z => tq_ne (k := 0) (by decide) c_1 z.symm; have q1 : ¬ (1 : Int) = Int32.toInt v1 := fun z => tq_ne (k := 1) (by decide) c_2 z.symm; simp [Op.lookupswitch.offset, q0, q1]) (by decide) ?_
  refine r_aload_n C dX5_figure_38 rfl 0 rfl ?_
  refine gfX5_18 C hn dX5_figure_39 ?_
  subst h
  exact r_iret C dX5_figure_42
def Pg_takes (v1 : Int32) (v2 : Int32) (v3 : Int32) (s0 : St) : Int32 :=
  if v2 = 1 then (if (Bk_hasSaying v3 s0) = 0 then 0 else (if v3 = v1 then 0 else 1) : Int32) else (if v2 = 2 then (Q_within v3 5) else (if v2 = 3 then (Bk_hasMaster v3 s0) else (if v2 = 4 then (Q_within v3 5) else (if v2 = 5 then (Q_within v3 1000) else 1))))
set_option maxHeartbeats 4000000 in
set_option maxRecDepth 100000 in
theorem m_X6_takes {l : Launch} {w : Wp} {v1 : Int32} {v2 : Int32} {v3 : Int32}  {s0 : St} {z : Int32} (h : Pg_takes v1 v2 v3 s0 = z) : Cm l yX6_takes (.code yX6_takes cX6_takes 4 (some .boolean)) 2 WC w [.ref (wa w 4 0), .int v1, .int v2, .int v3] s0 (some (.int z)) s0 := by
  refine Cm.of (own := RX6) (by decide +kernel) rfl (Nat.le_of_ble_eq_true rfl) (L := [(0, .ref (wa w 4 0)), (1, .int v1), (2, .int v2), (3, .int v3)]) rfl KoC (fun x hl C => ?_)
  subst hl
  unfold Pg_takes at h
  refine r_iload_n C dX6_takes_0 rfl 2 rfl ?_
  by_cases c_1 : v2 = 1
  · have h := ip h c_1
    refine r_tabIn (tgt := 36) C dX6_takes_1 c_1 (by decide) (by decide) rfl (by decide) ?_
    refine r_aload_n C dX6_takes_36 rfl 0 rfl ?_
    refine gfX6_27 C dX6_takes_37 ?_
    refine r_iload_n C dX6_takes_40 rfl 3 rfl ?_
    refine kX6_32 C (m_X1_hasSaying rfl) (by decide) (Nat.le_of_ble_eq_true rfl) dX6_takes_41 ?_
    refine r_em (st := []) 57 ((if (Bk_hasSaying v3 s0) = 0 then 0 else (if v3 = v1 then 0 else 1) : Int32)) (fun hM_4 => ?_) ?_
    · refine r_if_eq (tgt := 56) C dX6_takes_44 (by decide) (fun c_3 => ?_) (fun c_3 => ?_)
      · refine r_iconst (v := 0) C dX6_takes_56 (by decide) ?_
        exact (em_pos c_3 hM_4)
      · refine r_iload_n C dX6_takes_47 rfl 3 rfl ?_
        refine r_iload_n C dX6_takes_48 rfl 1 rfl ?_
        refine r_icmp_eq (tgt := 56) C dX6_takes_49 (by decide) (fun c_2 => ?_) (fun c_2 => ?_)
        · refine r_iconst (v := 0) C dX6_takes_56 (by decide) ?_
          exact (em_pos c_2 (em_neg c_3 hM_4))
        · refine r_iconst (v := 1) C dX6_takes_52 (by decide) ?_
          refine r_goto (tgt := 57) C dX6_takes_53 (by decide) ?_
          exact (em_neg c_2 (em_neg c_3 hM_4))
    subst h
    exact r_zret C (nb_ite rfl (nb_ite rfl rfl)) dX6_takes_57
  have h := iq h c_1
  by_cases c_5 : v2 = 2
  · have h := ip h c_5
    refine r_tabIn (tgt := 58) C dX6_takes_1 c_5 (by decide) (by decide) rfl (by decide) ?_
    refine r_iload_n C dX6_takes_58 rfl 3 rfl ?_
    refine r_iconst (v := 5) C dX6_takes_59 (by decide) ?_
    refine kX6_38 C (m_X11_within rfl) (by decide) (Nat.le_of_ble_eq_true rfl) dX6_takes_60 ?_
    subst h
    exact r_zret C nb_X11_within dX6_takes_63
  have h := iq h c_5
  by_cases c_6 : v2 = 3
  · have h := ip h c_6
    refine r_tabIn (tgt := 64) C dX6_takes_1 c_6 (by decide) (by decide) rfl (by decide) ?_
    refine r_aload_n C dX6_takes_64 rfl 0 rfl ?_
    refine gfX6_27 C dX6_takes_65 ?_
    refine r_iload_n C dX6_takes_68 rfl 3 rfl ?_
    refine kX6_42 C (m_X1_hasMaster rfl) (by decide) (Nat.le_of_ble_eq_true rfl) dX6_takes_69 ?_
    subst h
    exact r_zret C nb_X1_hasMaster dX6_takes_72
  have h := iq h c_6
  by_cases c_7 : v2 = 4
  · have h := ip h c_7
    refine r_tabIn (tgt := 73) C dX6_takes_1 c_7 (by decide) (by decide) rfl (by decide) ?_
    refine r_iload_n C dX6_takes_73 rfl 3 rfl ?_
    refine r_iconst (v := 5) C dX6_takes_74 (by decide) ?_
    refine kX6_38 C (m_X11_within rfl) (by decide) (Nat.le_of_ble_eq_true rfl) dX6_takes_75 ?_
    subst h
    exact r_zret C nb_X11_within dX6_takes_78
  have h := iq h c_7
  by_cases c_8 : v2 = 5
  · have h := ip h c_8
    refine r_tabIn (tgt := 79) C dX6_takes_1 c_8 (by decide) (by decide) rfl (by decide) ?_
    refine r_iload_n C dX6_takes_79 rfl 3 rfl ?_
    refine r_sipush (v := 1000) C dX6_takes_80 (by decide) ?_
    refine kX6_38 C (m_X11_within rfl) (by decide) (Nat.le_of_ble_eq_true rfl) dX6_takes_83 ?_
    subst h
    exact r_zret C nb_X11_within dX6_takes_86
  have h := iq h c_8
  refine r_tabOut (tgt := 87) C dX6_takes_1 (by have q0 := tq_ne (k := 1) (by decide) c_1; have q1 := tq_ne (k := 2) (by decide) c_5; have q2 := tq_ne (k := 3) (by decide) c_6; have q3 := tq_ne (k := 4) (by decide) c_7; have q4 := tq_ne (k := 5) (by decide) c_8; omega) (by decide) ?_
  refine r_iconst (v := 1) C dX6_takes_87 (by decide) ?_
  subst h
  exact r_zret C rfl dX6_takes_88
theorem nb_X6_takes {v1 : Int32} {v2 : Int32} {v3 : Int32} {s0 : St} : narrow .boolean (.int (Pg_takes v1 v2 v3 s0)) = .int (Pg_takes v1 v2 v3 s0) := by
  unfold Pg_takes
  exact (nb_ite (nb_ite rfl (nb_ite rfl rfl)) (nb_ite nb_X11_within (nb_ite nb_X1_hasMaster (nb_ite nb_X11_within (nb_ite nb_X11_within rfl)))))
def Pg_addMove (v1 : Int32) (v2 : Int32) (v3 : Int32) (s0 : St) : Option (Int32 × St) :=
  if inb (s0.1 4 0 1) 40 = true then some (((sX (sX (sX (sX s0 28 ((s0.1 4 0 1).toNatClampNeg) 0 v2) 28 ((s0.1 4 0 1).toNatClampNeg) 1 v1) 28 ((s0.1 4 0 1).toNatClampNeg) 2 (if v2 = 0 then 0 else (if v2 = 6 then 0 else v3) : Int32)) 4 0 1 (((sX (sX (sX s0 28 ((s0.1 4 0 1).toNatClampNeg) 0 v2) 28 ((s0.1 4 0 1).toNatClampNeg) 1 v1) 28 ((s0.1 4 0 1).toNatClampNeg) 2 (if v2 = 0 then 0 else (if v2 = 6 then 0 else v3) : Int32)).1 4 0 1) + 1)).1 4 0 1) - 1, sX (sX (sX (sX s0 28 ((s0.1 4 0 1).toNatClampNeg) 0 v2) 28 ((s0.1 4 0 1).toNatClampNeg) 1 v1) 28 ((s0.1 4 0 1).toNatClampNeg) 2 (if v2 = 0 then 0 else (if v2 = 6 then 0 else v3) : Int32)) 4 0 1 (((sX (sX (sX s0 28 ((s0.1 4 0 1).toNatClampNeg) 0 v2) 28 ((s0.1 4 0 1).toNatClampNeg) 1 v1) 28 ((s0.1 4 0 1).toNatClampNeg) 2 (if v2 = 0 then 0 else (if v2 = 6 then 0 else v3) : Int32)).1 4 0 1) + 1)) else none
set_option maxHeartbeats 4000000 in
set_option maxRecDepth 100000 in
theorem m_X6_addMove {l : Launch} {w : Wp} {v1 : Int32} {v2 : Int32} {v3 : Int32}  {s0 : St} {z : Int32 × St} (h : Pg_addMove v1 v2 v3 s0 = some z) : Cm l yX6_addMove (.code yX6_addMove cX6_addMove 5 (some .int)) 0 WC w [.ref (wa w 4 0), .int v1, .int v2, .int v3] s0 (some (.int z.1)) z.2 := by
  refine Cm.of (own := RX6) (by decide +kernel) rfl (Nat.le_of_ble_eq_true rfl) (L := [(0, .ref (wa w 4 0)), (1, .int v1), (2, .int v2), (3, .int v3)]) rfl KoC (fun x hl C => ?_)
  subst hl
  unfold Pg_addMove at h
  refine r_aload_n C dX6_addMove_0 rfl 0 rfl ?_
  refine gfX6_11 C dX6_addMove_1 ?_
  refine r_aload_n C dX6_addMove_4 rfl 0 rfl ?_
  refine gfX6_17 C dX6_addMove_5 ?_
  obtain ⟨g_1, h⟩ := gdE h
  refine la_17 C g_1 dX6_addMove_8 ?_
  refine r_astore C dX6_addMove_9 (Nat.le_of_ble_eq_true rfl) (L' := [(4, _), (0, _), (1, _), (2, _), (3, _)]) rfl ?_
  refine r_aload C dX6_addMove_11 0 rfl ?_
  refine r_iload_n C dX6_addMove_13 rfl 3 rfl ?_
  refine pfX6_45 C (inb_lt g_1) dX6_addMove_14 ?_
  refine r_aload C dX6_addMove_17 0 rfl ?_
  refine r_iload_n C dX6_addMove_19 rfl 2 rfl ?_
  refine pfX6_48 C (inb_lt g_1) dX6_addMove_20 ?_
  refine r_aload C dX6_addMove_23 0 rfl ?_
  refine r_iload_n C dX6_addMove_25 rfl 3 rfl ?_
  refine r_em (st := [.ref (wa w 28 ((s0.1 4 0 1).toNatClampNeg))]) 40 ((if v2 = 0 then 0 else (if v2 = 6 then 0 else v3) : Int32)) (fun hM_4 => ?_) ?_
  · refine r_if_eq (tgt := 35) C dX6_addMove_26 (by decide) (fun c_3 => ?_) (fun c_3 => ?_)
    · refine r_iconst (v := 0) C dX6_addMove_35 (by decide) ?_
      refine r_goto (tgt := 40) C dX6_addMove_36 (by decide) ?_
      exact (em_pos c_3 hM_4)
    · refine r_iload_n C dX6_addMove_29 rfl 3 rfl ?_
      refine r_bipush (v := 6) C dX6_addMove_30 (by decide) ?_
      refine r_icmp_ne (tgt := 39) C dX6_addMove_32 (by decide) (fun c_2 => ?_) (fun c_2 => ?_)
      · refine r_iload_n C dX6_addMove_39 rfl 4 rfl ?_
        exact (em_neg c_2 (em_neg c_3 hM_4))
      · refine r_iconst (v := 0) C dX6_addMove_35 (by decide) ?_
        refine r_goto (tgt := 40) C dX6_addMove_36 (by decide) ?_
        exact (em_pos c_2 (em_neg c_3 hM_4))
  refine pfX6_51 C (inb_lt g_1) dX6_addMove_40 ?_
  refine r_aload_n C dX6_addMove_43 rfl 1 rfl ?_
  refine r_dup C dX6_addMove_44 rfl ?_
  refine gfX6_17 C dX6_addMove_45 ?_
  refine r_iconst (v := 1) C dX6_addMove_48 (by decide) ?_
  refine r_iadd C dX6_addMove_49 ?_
  refine pfX6_17 C dX6_addMove_50 ?_
  refine r_aload_n C dX6_addMove_53 rfl 1 rfl ?_
  refine gfX6_17 C dX6_addMove_54 ?_
  refine r_iconst (v := 1) C dX6_addMove_57 (by decide) ?_
  refine r_isub C dX6_addMove_58 ?_
  cases h
  exact r_iret C dX6_addMove_59
def Pg_objections_J28 (B4 : Int32 → Int32 → Option (Int32)) (v1_6 : Int32) (v2_7 : Int32)  (s0 : St) : Option (Int32) :=
  B4 v1_6 (v2_7 + 1)
def Pg_objections_L4   (s0 : St) : Nat → Int32 → Int32 → Option (Int32)
  | 0, _, _ => none
  | n + 1, v1_1, v2_2 => if (s0.1 4 0 1) ≤ v2_2 then (some v1_1) else (if inb v2_2 40 = true then if (s0.1 28 v2_2.toNatClampNeg 0) = 1 then (Pg_objections_J28 (Pg_objections_L4 s0 n) (v1_1 + 1) v2_2 s0) else (Pg_objections_J28 (Pg_objections_L4 s0 n) v1_1 v2_2 s0) else none)
def Pg_objections  (s0 : St) : Option (Int32) :=
  Pg_objections_L4 s0 1100 0 0
set_option maxHeartbeats 4000000 in
set_option maxRecDepth 100000 in
theorem t_X6_objections_J28 {x : Ctx} {w : Wp} {v1_6 : Int32} {v2_7 : Int32}  {s0 : St} {z : Int32}  {B4 : Int32 → Int32 → Option (Int32)} (hB4 : ∀ (u1_8 : Int32) (u2_9 : Int32), B4 u1_8 u2_9 = some z → V x WC w 3 (QM x WC w (some (.int z)) s0) s0 4 [(0, .ref (wa w 4 0)), (1, .int u1_8), (2, .int u2_9)] []) (C : Cx x WC w cX6_objections 3 RX6 0 (some .int)) (h : Pg_objections_J28 B4 v1_6 v2_7 s0 = some z) : V x WC w 3 (QM x WC w (some (.int z)) s0) s0 28 [(0, .ref (wa w 4 0)), (1, .int v1_6), (2, .int v2_7)] [] := by
  unfold Pg_objections_J28 at h
  refine r_iinc (v := v2_7 + 1) C dX6_objections_28 (j := 2) rfl rfl (Nat.le_of_ble_eq_true rfl) (L' := [(2, _), (0, _), (1, _)]) rfl ?_
  refine r_goto (tgt := 4) C dX6_objections_31 (by decide) ?_
  refine r_sub [1, 2, 0] rfl ?_
  exact hB4 _ _ h
set_option maxHeartbeats 4000000 in
set_option maxRecDepth 100000 in
theorem t_X6_objections_L4 {x : Ctx} {w : Wp}  {s0 : St} {z : Int32}    (C : Cx x WC w cX6_objections 3 RX6 0 (some .int)) : ∀ (n : Nat) (v1_1 : Int32) (v2_2 : Int32), Pg_objections_L4 s0 n v1_1 v2_2 = some z → V x WC w 3 (QM x WC w (some (.int z)) s0) s0 4 [(0, .ref (wa w 4 0)), (1, .int v1_1), (2, .int v2_2)] [] := by
  intro n
  induction n with
  | zero => intro v1_1 v2_2 h; cases h
  | succ n ih =>
    intro v1_1 v2_2 h
    unfold Pg_objections_L4 at h
    refine r_iload_n C dX6_objections_4 rfl 2 rfl ?_
    refine r_aload_n C dX6_objections_5 rfl 0 rfl ?_
    refine gfX6_17 C dX6_objections_6 ?_
    refine r_icmp_ge (tgt := 34) C dX6_objections_9 (by decide) (fun c_3 => ?_) (fun c_3 => ?_)
    · have h := ip h c_3
      refine r_iload_n C dX6_objections_34 rfl 1 rfl ?_
      cases h
      exact r_iret C dX6_objections_35
    · have h := iq h c_3
      refine r_aload_n C dX6_objections_12 rfl 0 rfl ?_
      refine gfX6_11 C dX6_objections_13 ?_
      refine r_iload_n C dX6_objections_16 rfl 2 rfl ?_
      obtain ⟨g_4, h⟩ := gdE h
      refine la_17 C g_4 dX6_objections_17 ?_
      refine gfX6_45 C (inb_lt g_4) dX6_objections_18 ?_
      refine r_iconst (v := 1) C dX6_objections_21 (by decide) ?_
      refine r_icmp_ne (tgt := 28) C dX6_objections_22 (by decide) (fun c_5 => ?_) (fun c_5 => ?_)
      · have h := iq h c_5
        refine r_sub [0, 1, 2] rfl ?_
        exact t_X6_objections_J28 ih C h
      · have h := ip h c_5
        refine r_iinc (v := v1_1 + 1) C dX6_objections_25 (j := 1) rfl rfl (Nat.le_of_ble_eq_true rfl) (L' := [(1, _), (0, _), (2, _)]) rfl ?_
        refine r_sub [1, 0, 2] rfl ?_
        exact t_X6_objections_J28 ih C h
set_option maxHeartbeats 4000000 in
set_option maxRecDepth 100000 in
theorem m_X6_objections {l : Launch} {w : Wp}   {s0 : St} {z : Int32} (h : Pg_objections s0 = some z) : Cm l yX6_objections (.code yX6_objections cX6_objections 3 (some .int)) 0 WC w [.ref (wa w 4 0)] s0 (some (.int z)) s0 := by
  refine Cm.of (own := RX6) (by decide +kernel) rfl (Nat.le_of_ble_eq_true rfl) (L := [(0, .ref (wa w 4 0))]) rfl KoC (fun x hl C => ?_)
  subst hl
  unfold Pg_objections at h
  refine r_iconst (v := 0) C dX6_objections_0 (by decide) ?_
  refine r_istore_n C dX6_objections_1 rfl (Nat.le_of_ble_eq_true rfl) (L' := [(1, _), (0, _)]) rfl ?_
  refine r_iconst (v := 0) C dX6_objections_2 (by decide) ?_
  refine r_istore_n C dX6_objections_3 rfl (Nat.le_of_ble_eq_true rfl) (L' := [(2, _), (1, _), (0, _)]) rfl ?_
  refine r_sub [2, 1, 0] rfl ?_
  exact t_X6_objections_L4 C _ _ _ h
def Pg_sayingsFrom_J54 (B5 : Int32 → Int32 → Option (Int32)) (v1_8 : Int32) (v2_9 : Int32) (v3_10 : Int32) (v4_11 : Int32)  (s0 : St) : Option (Int32) :=
  B5 v3_10 (v4_11 + 1)
def Pg_sayingsFrom_L5  (v1_1 : Int32) (v2_2 : Int32) (s0 : St) : Nat → Int32 → Int32 → Option (Int32)
  | 0, _, _ => none
  | n + 1, v3_3, v4_4 => if (s0.1 3 0 7) ≤ v4_4 then (some v3_3) else (if inb v4_4 24 = true then if (s0.1 26 v4_4.toNatClampNeg 0) = v1_1 then (if inb v4_4 24 = true then if (s0.1 26 v4_4.toNatClampNeg 2) < v2_2 then (Pg_sayingsFrom_J54 (Pg_sayingsFrom_L5 v1_1 v2_2 s0 n) v1_1 v2_2 v3_3 v4_4 s0) else (Pg_sayingsFrom_J54 (Pg_sayingsFrom_L5 v1_1 v2_2 s0 n) v1_1 v2_2 (v3_3 + 1) v4_4 s0) else none) else (Pg_sayingsFrom_J54 (Pg_sayingsFrom_L5 v1_1 v2_2 s0 n) v1_1 v2_2 v3_3 v4_4 s0) else none)
def Pg_sayingsFrom (v1 : Int32) (v2 : Int32) (s0 : St) : Option (Int32) :=
  Pg_sayingsFrom_L5 v1 v2 s0 1100 0 0
set_option maxHeartbeats 4000000 in
set_option maxRecDepth 100000 in
theorem t_X6_sayingsFrom_J54 {x : Ctx} {w : Wp} {v1_8 : Int32} {v2_9 : Int32} {v3_10 : Int32} {v4_11 : Int32}  {s0 : St} {z : Int32}  {B5 : Int32 → Int32 → Option (Int32)} (hB5 : ∀ (u3_12 : Int32) (u4_13 : Int32), B5 u3_12 u4_13 = some z → V x WC w 5 (QM x WC w (some (.int z)) s0) s0 5 [(0, .ref (wa w 4 0)), (1, .int v1_8), (2, .int v2_9), (3, .int u3_12), (4, .int u4_13)] []) (C : Cx x WC w cX6_sayingsFrom 5 RX6 0 (some .int)) (h : Pg_sayingsFrom_J54 B5 v1_8 v2_9 v3_10 v4_11 s0 = some z) : V x WC w 5 (QM x WC w (some (.int z)) s0) s0 54 [(0, .ref (wa w 4 0)), (1, .int v1_8), (2, .int v2_9), (3, .int v3_10), (4, .int v4_11)] [] := by
  unfold Pg_sayingsFrom_J54 at h
  refine r_iinc (v := v4_11 + 1) C dX6_sayingsFrom_54 (j := 4) rfl rfl (Nat.le_of_ble_eq_true rfl) (L' := [(4, _), (0, _), (1, _), (2, _), (3, _)]) rfl ?_
  refine r_goto (tgt := 5) C dX6_sayingsFrom_57 (by decide) ?_
  refine r_sub [1, 2, 3, 4, 0] rfl ?_
  exact hB5 _ _ h
set_option maxHeartbeats 4000000 in
set_option maxRecDepth 100000 in
theorem t_X6_sayingsFrom_L5 {x : Ctx} {w : Wp} {v1_1 : Int32} {v2_2 : Int32} {s0 : St} {z : Int32}    (C : Cx x WC w cX6_sayingsFrom 5 RX6 0 (some .int)) : ∀ (n : Nat) (v3_3 : Int32) (v4_4 : Int32), Pg_sayingsFrom_L5 v1_1 v2_2 s0 n v3_3 v4_4 = some z → V x WC w 5 (QM x WC w (some (.int z)) s0) s0 5 [(0, .ref (wa w 4 0)), (1, .int v1_1), (2, .int v2_2), (3, .int v3_3), (4, .int v4_4)] [] := by
  intro n
  induction n with
  | zero => intro v3_3 v4_4 h; cases h
  | succ n ih =>
    intro v3_3 v4_4 h
    unfold Pg_sayingsFrom_L5 at h
    refine r_iload C dX6_sayingsFrom_5 4 rfl ?_
    refine r_aload_n C dX6_sayingsFrom_7 rfl 0 rfl ?_
    refine gfX6_27 C dX6_sayingsFrom_8 ?_
    refine gfX6_108 C dX6_sayingsFrom_11 ?_
    refine r_icmp_ge (tgt := 60) C dX6_sayingsFrom_14 (by decide) (fun c_5 => ?_) (fun c_5 => ?_)
    · have h := ip h c_5
      refine r_iload_n C dX6_sayingsFrom_60 rfl 3 rfl ?_
      cases h
      exact r_iret C dX6_sayingsFrom_61
    · have h := iq h c_5
      refine r_aload_n C dX6_sayingsFrom_17 rfl 0 rfl ?_
      refine gfX6_27 C dX6_sayingsFrom_18 ?_
      refine gfX6_54 C dX6_sayingsFrom_21 ?_
      refine r_iload C dX6_sayingsFrom_24 4 rfl ?_
      obtain ⟨g_6, h⟩ := gdE h
      refine la_16 C g_6 dX6_sayingsFrom_26 ?_
      refine gfX6_88 C (inb_lt g_6) dX6_sayingsFrom_27 ?_
      refine r_iload_n C dX6_sayingsFrom_30 rfl 1 rfl ?_
      refine r_icmp_ne (tgt := 54) C dX6_sayingsFrom_31 (by decide) (fun c_7 => ?_) (fun c_7 => ?_)
      · have h := iq h c_7
        refine r_sub [0, 1, 2, 3, 4] rfl ?_
        exact t_X6_sayingsFrom_J54 ih C h
      · have h := ip h c_7
        refine r_aload_n C dX6_sayingsFrom_34 rfl 0 rfl ?_
        refine gfX6_27 C dX6_sayingsFrom_35 ?_
        refine gfX6_54 C dX6_sayingsFrom_38 ?_
        refine r_iload C dX6_sayingsFrom_41 4 rfl ?_
        obtain ⟨g_14, h⟩ := gdE h
        refine la_16 C g_14 dX6_sayingsFrom_43 ?_
        refine gfX6_111 C (inb_lt g_14) dX6_sayingsFrom_44 ?_
        refine r_iload_n C dX6_sayingsFrom_47 rfl 2 rfl ?_
        refine r_icmp_lt (tgt := 54) C dX6_sayingsFrom_48 (by decide) (fun c_15 => ?_) (fun c_15 => ?_)
        · have h := ip h c_15
          refine r_sub [0, 1, 2, 3, 4] rfl ?_
          exact t_X6_sayingsFrom_J54 ih C h
        · have h := iq h c_15
          refine r_iinc (v := v3_3 + 1) C dX6_sayingsFrom_51 (j := 3) rfl rfl (Nat.le_of_ble_eq_true rfl) (L' := [(3, _), (0, _), (1, _), (2, _), (4, _)]) rfl ?_
          refine r_sub [1, 2, 3, 0, 4] rfl ?_
          exact t_X6_sayingsFrom_J54 ih C h
set_option maxHeartbeats 4000000 in
set_option maxRecDepth 100000 in
theorem m_X6_sayingsFrom {l : Launch} {w : Wp} {v1 : Int32} {v2 : Int32}  {s0 : St} {z : Int32} (h : Pg_sayingsFrom v1 v2 s0 = some z) : Cm l yX6_sayingsFrom (.code yX6_sayingsFrom cX6_sayingsFrom 5 (some .int)) 0 WC w [.ref (wa w 4 0), .int v1, .int v2] s0 (some (.int z)) s0 := by
  refine Cm.of (own := RX6) (by decide +kernel) rfl (Nat.le_of_ble_eq_true rfl) (L := [(0, .ref (wa w 4 0)), (1, .int v1), (2, .int v2)]) rfl KoC (fun x hl C => ?_)
  subst hl
  unfold Pg_sayingsFrom at h
  refine r_iconst (v := 0) C dX6_sayingsFrom_0 (by decide) ?_
  refine r_istore_n C dX6_sayingsFrom_1 rfl (Nat.le_of_ble_eq_true rfl) (L' := [(3, _), (0, _), (1, _), (2, _)]) rfl ?_
  refine r_iconst (v := 0) C dX6_sayingsFrom_2 (by decide) ?_
  refine r_istore C dX6_sayingsFrom_3 (Nat.le_of_ble_eq_true rfl) (L' := [(4, _), (3, _), (0, _), (1, _), (2, _)]) rfl ?_
  refine r_sub [2, 3, 4, 1, 0] rfl ?_
  exact t_X6_sayingsFrom_L5 C _ _ _ h
def Pg_markOf (v1 : Nat) (s0 : St) : Option (Int32) :=
  if inb (s0.1 28 v1 1) 24 = true then Option.bind (Bk_caseTraits (s0.1 28 v1 1) s0) (fun r_2 => if (s0.1 28 v1 0) = 1 then (Option.bind (Bk_caseTraits (s0.1 28 v1 2) s0) (fun r_4 => some (Int_bitCount (r_2 ^^^ r_4)))) else (if (s0.1 28 v1 0) = 2 then (some ((ush r_2 (s0.1 28 v1 2)) &&& 1)) else (if (s0.1 28 v1 0) = 3 then (if inb (s0.1 28 v1 2) 8 = true then Option.bind (Ru_verdict (s0.1 24 ((s0.1 28 v1 2).toNatClampNeg) 2) r_2 s0) (fun r_8 => some r_8) else none) else (if (s0.1 28 v1 0) = 4 then (some (r_2 ^^^ (1 <<< ((s0.1 28 v1 2) &&& 31)))) else (if (s0.1 28 v1 0) = 5 then (Option.bind (Pg_sayingsFrom (s0.1 26 ((s0.1 28 v1 1).toNatClampNeg) 0) (s0.1 28 v1 2) s0) (fun r_11 => some r_11)) else (if inb (s0.1 26 ((s0.1 28 v1 1).toNatClampNeg) 0) 8 = true then Option.bind (Bk_strainOf (s0.1 28 v1 1) (s0.1 24 ((s0.1 26 ((s0.1 28 v1 1).toNatClampNeg) 0).toNatClampNeg) 2) s0) (fun r_13 => some (Bn_sumOf r_13 s0)) else none)))))) else none
set_option maxHeartbeats 4000000 in
set_option maxRecDepth 100000 in
theorem m_X6_markOf {l : Launch} {w : Wp} {v1 : Nat} (hv1 : v1 < 40) {s0 : St} {z : Int32} (h : Pg_markOf v1 s0 = some z) : Cm l yX6_markOf (.code yX6_markOf cX6_markOf 5 (some .int)) 3 WC w [.ref (wa w 4 0), .ref (wa w 28 v1), .ref (wa w 15 0)] s0 (some (.int z)) s0 := by
  refine Cm.of (own := RX6) (by decide +kernel) rfl (Nat.le_of_ble_eq_true rfl) (L := [(0, .ref (wa w 4 0)), (1, .ref (wa w 28 v1)), (2, .ref (wa w 15 0))]) rfl KoC (fun x hl C => ?_)
  subst hl
  unfold Pg_markOf at h
  refine r_aload_n C dX6_markOf_0 rfl 0 rfl ?_
  refine gfX6_27 C dX6_markOf_1 ?_
  refine gfX6_54 C dX6_markOf_4 ?_
  refine r_aload_n C dX6_markOf_7 rfl 1 rfl ?_
  refine gfX6_48 C hv1 dX6_markOf_8 ?_
  obtain ⟨g_1, h⟩ := gdE h
  refine la_16 C g_1 dX6_markOf_11 ?_
  refine r_astore_n C dX6_markOf_12 rfl (Nat.le_of_ble_eq_true rfl) (L' := [(3, _), (0, _), (1, _), (2, _)]) rfl ?_
  refine r_aload_n C dX6_markOf_13 rfl 1 rfl ?_
  refine gfX6_27 C dX6_markOf_14 ?_
  refine r_aload_n C dX6_markOf_17 rfl 2 rfl ?_
  refine gfX6_48 C hv1 dX6_markOf_18 ?_
  obtain ⟨r_2, er_2, h⟩ := bdE h
  refine kX6_58 C (m_X1_caseTraits er_2) (by decide) (Nat.le_of_ble_eq_true rfl) dX6_markOf_21 ?_
  refine r_istore C dX6_markOf_24 (Nat.le_of_ble_eq_true rfl) (L' := [(4, _), (3, _), (0, _), (1, _), (2, _)]) rfl ?_
  refine r_aload_n C dX6_markOf_26 rfl 3 rfl ?_
  refine gfX6_45 C hv1 dX6_markOf_27 ?_
  by_cases c_3 : (s0.1 28 v1 0) = 1
  · have h := ip h c_3
    refine r_tabIn (tgt := 64) C dX6_markOf_30 c_3 (by decide) (by decide) rfl (by decide) ?_
    refine r_iload C dX6_markOf_64 0 rfl ?_
    refine r_aload_n C dX6_markOf_66 rfl 2 rfl ?_
    refine gfX6_27 C dX6_markOf_67 ?_
    refine r_aload_n C dX6_markOf_70 rfl 3 rfl ?_
    refine gfX6_51 C hv1 dX6_markOf_71 ?_
    obtain ⟨r_4, er_4, h⟩ := bdE h
    refine kX6_58 C (m_X1_caseTraits er_4) (by decide) (Nat.le_of_ble_eq_true rfl) dX6_markOf_74 ?_
    refine r_ixor C dX6_markOf_77 ?_
    refine kX6_62 C (m_J6_bitCount_0f7a4 rfl) (by decide) (Nat.le_of_ble_eq_true rfl) dX6_markOf_78 ?_
    cases h
    exact r_iret C dX6_markOf_81
  have h := iq h c_3
  by_cases c_5 : (s0.1 28 v1 0) = 2
  · have h := ip h c_5
    refine r_tabIn (tgt := 82) C dX6_markOf_30 c_5 (by decide) (by decide) rfl (by decide) ?_
    refine r_iload C dX6_markOf_82 0 rfl ?_
    refine r_aload_n C dX6_markOf_84 rfl 3 rfl ?_
    refine gfX6_51 C hv1 dX6_markOf_85 ?_
    refine r_iushr (v := ush r_2 (s0.1 28 v1 2)) C dX6_markOf_88 rfl ?_
    refine r_iconst (v := 1) C dX6_markOf_89 (by decide) ?_
    refine r_iand C dX6_markOf_90 ?_
    cases h
    exact r_iret C dX6_markOf_91
  have h := iq h c_5
  by_cases c_6 : (s0.1 28 v1 0) = 3
  · have h := ip h c_6
    refine r_tabIn (tgt := 92) C dX6_markOf_30 c_6 (by decide) (by decide) rfl (by decide) ?_
    refine r_aload_n C dX6_markOf_92 rfl 2 rfl ?_
    refine gfX6_27 C dX6_markOf_93 ?_
    refine gfX6_67 C dX6_markOf_96 ?_
    refine r_aload_n C dX6_markOf_99 rfl 4 rfl ?_
    refine r_aload_n C dX6_markOf_100 rfl 3 rfl ?_
    refine gfX6_51 C hv1 dX6_markOf_101 ?_
    obtain ⟨g_7, h⟩ := gdE h
    refine la_15 C g_7 dX6_markOf_104 ?_
    refine gfX6_71 C (inb_lt g_7) dX6_markOf_105 ?_
    refine gfX6_77 C (inb_lt g_7) dX6_markOf_108 ?_
    refine r_iload C dX6_markOf_111 0 rfl ?_
    obtain ⟨r_8, er_8, h⟩ := bdE h
    refine kX6_82 C (m_X8_verdict er_8) (by decide) (Nat.le_of_ble_eq_true rfl) dX6_markOf_113 ?_
    cases h
    exact r_iret C dX6_markOf_116
  have h := iq h c_6
  by_cases c_9 : (s0.1 28 v1 0) = 4
  · have h := ip h c_9
    refine r_tabIn (tgt := 117) C dX6_markOf_30 c_9 (by decide) (by decide) rfl (by decide) ?_
    refine r_iload C dX6_markOf_117 0 rfl ?_
    refine r_iconst (v := 1) C dX6_markOf_119 (by decide) ?_
    refine r_aload_n C dX6_markOf_120 rfl 3 rfl ?_
    refine gfX6_51 C hv1 dX6_markOf_121 ?_
    refine r_ishl C dX6_markOf_124 ?_
    refine r_ixor C dX6_markOf_125 ?_
    cases h
    exact r_iret C dX6_markOf_126
  have h := iq h c_9
  by_cases c_10 : (s0.1 28 v1 0) = 5
  · have h := ip h c_10
    refine r_tabIn (tgt := 127) C dX6_markOf_30 c_10 (by decide) (by decide) rfl (by decide) ?_
    refine r_aload_n C dX6_markOf_127 rfl 2 rfl ?_
    refine r_aload_n C dX6_markOf_128 rfl 1 rfl ?_
    refine gfX6_88 C (inb_lt g_1) dX6_markOf_129 ?_
    refine r_aload_n C dX6_markOf_132 rfl 3 rfl ?_
    refine gfX6_51 C hv1 dX6_markOf_133 ?_
    obtain ⟨r_11, er_11, h⟩ := bdE h
    refine kX6_93 C (m_X6_sayingsFrom er_11) (by decide) (Nat.le_of_ble_eq_true rfl) dX6_markOf_136 ?_
    cases h
    exact r_iret C dX6_markOf_139
  have h := iq h c_10
  refine r_tabOut (tgt := 140) C dX6_markOf_30 (by have q0 := tq_ne (k := 1) (by decide) c_3; have q1 := tq_ne (k := 2) (by decide) c_5; have q2 := tq_ne (k := 3) (by decide) c_6; have q3 := tq_ne (k := 4) (by decide) c_9; have q4 := tq_ne (k := 5) (by decide) c_10; omega) (by decide) ?_
  refine r_aload_n C dX6_markOf_140 rfl 2 rfl ?_
  refine gfX6_27 C dX6_markOf_141 ?_
  refine gfX6_96 C dX6_markOf_144 ?_
  refine r_aload_n C dX6_markOf_147 rfl 2 rfl ?_
  refine gfX6_27 C dX6_markOf_148 ?_
  refine r_aload_n C dX6_markOf_151 rfl 3 rfl ?_
  refine gfX6_48 C hv1 dX6_markOf_152 ?_
  refine r_aload_n C dX6_markOf_155 rfl 4 rfl ?_
  refine r_aload_n C dX6_markOf_156 rfl 1 rfl ?_
  refine gfX6_88 C (inb_lt g_1) dX6_markOf_157 ?_
  obtain ⟨g_12, h⟩ := gdE h
  refine la_15 C g_12 dX6_markOf_160 ?_
  refine gfX6_71 C (inb_lt g_12) dX6_markOf_161 ?_
  refine gfX6_77 C (inb_lt g_12) dX6_markOf_164 ?_
  obtain ⟨r_13, er_13, h⟩ := bdE h
  refine kX6_100 C (m_X1_strainOf er_13) (by decide) (Nat.le_of_ble_eq_true rfl) dX6_markOf_167 ?_
  refine kX6_103 C (m_X0_sumOf rfl) (by decide) (Nat.le_of_ble_eq_true rfl) dX6_markOf_170 ?_
  cases h
  exact r_iret C dX6_markOf_173
def Pg_lastOpen_J35 (B4 : Int32 → Option (Int32)) (v2_6 : Int32) (v3_7 : Int32)  (s0 : St) : Option (Int32) :=
  B4 (v3_7 + (-1))
def Pg_lastOpen_L4  (v2_1 : Int32) (s0 : St) : Nat → Int32 → Option (Int32)
  | 0, _ => none
  | n + 1, v3_2 => if v3_2 < 0 then (some (-9)) else (if inb v3_2 40 = true then if (s0.1 28 v3_2.toNatClampNeg 3) = 0 then (Pg_lastOpen_J35 (Pg_lastOpen_L4 v2_1 s0 n) v2_1 v3_2 s0) else (if inb v3_2 40 = true then if (s0.1 28 v3_2.toNatClampNeg 1) = v2_1 then (some v3_2) else (Pg_lastOpen_J35 (Pg_lastOpen_L4 v2_1 s0 n) v2_1 v3_2 s0) else none) else none)
def Pg_lastOpen (v1 : Int32) (v2 : Int32) (s0 : St) : Option (Int32) :=
  Pg_lastOpen_L4 v2 s0 1100 (v1 - 1)
set_option maxHeartbeats 4000000 in
set_option maxRecDepth 100000 in
theorem t_X6_lastOpen_J35 {x : Ctx} {w : Wp} {v2_6 : Int32} {v3_7 : Int32}  {s0 : St} {z : Int32}  {B4 : Int32 → Option (Int32)} (hB4 : ∀ (u3_8 : Int32), B4 u3_8 = some z → V x WC w 4 (QM x WC w (some (.int z)) s0) s0 4 [(0, .ref (wa w 4 0)), (2, .int v2_6), (3, .int u3_8)] []) (C : Cx x WC w cX6_lastOpen 4 RX6 0 (some .int)) (h : Pg_lastOpen_J35 B4 v2_6 v3_7 s0 = some z) : V x WC w 4 (QM x WC w (some (.int z)) s0) s0 35 [(0, .ref (wa w 4 0)), (2, .int v2_6), (3, .int v3_7)] [] := by
  unfold Pg_lastOpen_J35 at h
  refine r_iinc (v := v3_7 + (-1)) C dX6_lastOpen_35 (j := 2) rfl rfl (Nat.le_of_ble_eq_true rfl) (L' := [(3, _), (0, _), (2, _)]) rfl ?_
  refine r_goto (tgt := 4) C dX6_lastOpen_38 (by decide) ?_
  refine r_sub [1, 2, 0] rfl ?_
  exact hB4 _ h
set_option maxHeartbeats 4000000 in
set_option maxRecDepth 100000 in
theorem t_X6_lastOpen_L4 {x : Ctx} {w : Wp} {v2_1 : Int32} {s0 : St} {z : Int32}    (C : Cx x WC w cX6_lastOpen 4 RX6 0 (some .int)) : ∀ (n : Nat) (v3_2 : Int32), Pg_lastOpen_L4 v2_1 s0 n v3_2 = some z → V x WC w 4 (QM x WC w (some (.int z)) s0) s0 4 [(0, .ref (wa w 4 0)), (2, .int v2_1), (3, .int v3_2)] [] := by
  intro n
  induction n with
  | zero => intro v3_2 h; cases h
  | succ n ih =>
    intro v3_2 h
    unfold Pg_lastOpen_L4 at h
    refine r_iload_n C dX6_lastOpen_4 rfl 2 rfl ?_
    refine r_if_lt (tgt := 41) C dX6_lastOpen_5 (by decide) (fun c_3 => ?_) (fun c_3 => ?_)
    · have h := ip h c_3
      refine r_bipush (v := (-9)) C dX6_lastOpen_41 (by decide) ?_
      cases h
      exact r_iret C dX6_lastOpen_43
    · have h := iq h c_3
      refine r_aload_n C dX6_lastOpen_8 rfl 0 rfl ?_
      refine gfX6_11 C dX6_lastOpen_9 ?_
      refine r_iload_n C dX6_lastOpen_12 rfl 2 rfl ?_
      obtain ⟨g_4, h⟩ := gdE h
      refine la_17 C g_4 dX6_lastOpen_13 ?_
      refine gfX6_114 C (inb_lt g_4) dX6_lastOpen_14 ?_
      refine r_if_eq (tgt := 35) C dX6_lastOpen_17 (by decide) (fun c_5 => ?_) (fun c_5 => ?_)
      · have h := ip h c_5
        refine r_sub [0, 1, 2] rfl ?_
        exact t_X6_lastOpen_J35 ih C h
      · have h := iq h c_5
        refine r_aload_n C dX6_lastOpen_20 rfl 0 rfl ?_
        refine gfX6_11 C dX6_lastOpen_21 ?_
        refine r_iload_n C dX6_lastOpen_24 rfl 2 rfl ?_
        obtain ⟨g_9, h⟩ := gdE h
        refine la_17 C g_9 dX6_lastOpen_25 ?_
        refine gfX6_48 C (inb_lt g_9) dX6_lastOpen_26 ?_
        refine r_iload_n C dX6_lastOpen_29 rfl 1 rfl ?_
        refine r_icmp_ne (tgt := 35) C dX6_lastOpen_30 (by decide) (fun c_10 => ?_) (fun c_10 => ?_)
        · have h := iq h c_10
          refine r_sub [0, 1, 2] rfl ?_
          exact t_X6_lastOpen_J35 ih C h
        · have h := ip h c_10
          refine r_iload_n C dX6_lastOpen_33 rfl 2 rfl ?_
          cases h
          exact r_iret C dX6_lastOpen_34
set_option maxHeartbeats 4000000 in
set_option maxRecDepth 100000 in
theorem m_X6_lastOpen {l : Launch} {w : Wp} {v1 : Int32} {v2 : Int32}  {s0 : St} {z : Int32} (h : Pg_lastOpen v1 v2 s0 = some z) : Cm l yX6_lastOpen (.code yX6_lastOpen cX6_lastOpen 4 (some .int)) 0 WC w [.ref (wa w 4 0), .int v1, .int v2] s0 (some (.int z)) s0 := by
  refine Cm.of (own := RX6) (by decide +kernel) rfl (Nat.le_of_ble_eq_true rfl) (L := [(0, .ref (wa w 4 0)), (1, .int v1), (2, .int v2)]) rfl KoC (fun x hl C => ?_)
  subst hl
  unfold Pg_lastOpen at h
  refine r_iload_n C dX6_lastOpen_0 rfl 1 rfl ?_
  refine r_iconst (v := 1) C dX6_lastOpen_1 (by decide) ?_
  refine r_isub C dX6_lastOpen_2 ?_
  refine r_istore_n C dX6_lastOpen_3 rfl (Nat.le_of_ble_eq_true rfl) (L' := [(3, _), (0, _), (1, _), (2, _)]) rfl ?_
  refine r_sub [1, 3, 0] rfl ?_
  exact t_X6_lastOpen_L4 C _ _ h
def Ru_fitting (v1 : Int32) (v2 : Int32) (v3 : Int32) (v4 : Int32) (s0 : St) : Option (Int32) :=
  Option.bind (Ru_verdict v1 v2 s0) (fun r_1 => if r_1 = v3 then (Option.bind (Ru_looksAt v1 v4 s0) (fun r_3 => some (if r_3 = 0 then 0 else 1 : Int32))) else (some 0))
set_option maxHeartbeats 4000000 in
set_option maxRecDepth 100000 in
theorem m_X8_fitting {l : Launch} {w : Wp} {v1 : Int32} {v2 : Int32} {v3 : Int32} {v4 : Int32}  {s0 : St} {z : Int32} (h : Ru_fitting v1 v2 v3 v4 s0 = some z) : Cm l yX8_fitting (.code yX8_fitting cX8_fitting 5 (some .boolean)) 1 WC w [.ref (wa w 7 0), .int v1, .int v2, .int v3, .int v4] s0 (some (.int z)) s0 := by
  refine Cm.of (own := RX8) (by decide +kernel) rfl (Nat.le_of_ble_eq_true rfl) (L := [(0, .ref (wa w 7 0)), (1, .int v1), (2, .int v2), (3, .int v3), (4, .int v4)]) rfl KoC (fun x hl C => ?_)
  subst hl
  unfold Ru_fitting at h
  refine r_aload_n C dX8_fitting_0 rfl 0 rfl ?_
  refine r_iload_n C dX8_fitting_1 rfl 1 rfl ?_
  refine r_iload_n C dX8_fitting_2 rfl 2 rfl ?_
  obtain ⟨r_1, er_1, h⟩ := bdE h
  refine kX8_24 C (m_X8_verdict er_1) (by decide) (Nat.le_of_ble_eq_true rfl) dX8_fitting_3 ?_
  refine r_iload_n C dX8_fitting_6 rfl 3 rfl ?_
  refine r_icmp_ne (tgt := 24) C dX8_fitting_7 (by decide) (fun c_2 => ?_) (fun c_2 => ?_)
  · have h := iq h c_2
    refine r_iconst (v := 0) C dX8_fitting_24 (by decide) ?_
    cases h
    exact r_zret C rfl dX8_fitting_25
  · have h := ip h c_2
    refine r_aload_n C dX8_fitting_10 rfl 0 rfl ?_
    refine r_iload_n C dX8_fitting_11 rfl 1 rfl ?_
    refine r_iload C dX8_fitting_12 4 rfl ?_
    obtain ⟨r_3, er_3, h⟩ := bdE h
    refine kX8_28 C (m_X8_looksAt er_3) (by decide) (Nat.le_of_ble_eq_true rfl) dX8_fitting_14 ?_
    refine r_em (st := []) 25 ((if r_3 = 0 then 0 else 1 : Int32)) (fun hM_5 => ?_) ?_
    · refine r_if_eq (tgt := 24) C dX8_fitting_17 (by decide) (fun c_4 => ?_) (fun c_4 => ?_)
      · refine r_iconst (v := 0) C dX8_fitting_24 (by decide) ?_
        exact (em_pos c_4 hM_5)
      · refine r_iconst (v := 1) C dX8_fitting_20 (by decide) ?_
        refine r_goto (tgt := 25) C dX8_fitting_21 (by decide) ?_
        exact (em_neg c_4 hM_5)
    cases h
    exact r_zret C (nb_ite rfl rfl) dX8_fitting_25
def Pg_fitsSomeCheap_L3  (n1_1 : Nat) (v2_2 : Int32) (n3_3 : Nat) (s0 : St) : Nat → Int32 → Option (Int32)
  | 0, _ => none
  | n + 1, v4_4 => if (s0.1 24 n3_3 5) ≤ v4_4 then (some 0) else (if inb v4_4 244 = true then Option.bind (Ru_fitting (s0.1 25 n3_3 v4_4.toNatClampNeg) v2_2 (s0.1 26 n1_1 3) (s0.1 26 n1_1 4) s0) (fun r_7 => if r_7 = 0 then ((Pg_fitsSomeCheap_L3 n1_1 v2_2 n3_3 s0 n) (v4_4 + 1)) else (some 1)) else none)
def Pg_fitsSomeCheap (v1 : Nat) (v2 : Int32) (v3 : Nat) (s0 : St) : Option (Int32) :=
  Pg_fitsSomeCheap_L3 v1 v2 v3 s0 1100 0
set_option maxHeartbeats 4000000 in
set_option maxRecDepth 100000 in
theorem t_X6_fitsSomeCheap_L3 {x : Ctx} {w : Wp} {n1_1 : Nat} {v2_2 : Int32} {n3_3 : Nat} {s0 : St} {z : Int32} (hn1_1 : n1_1 < 24) (hn3_3 : n3_3 < 8)   (C : Cx x WC w cX6_fitsSomeCheap 5 RX6 2 (some .boolean)) : ∀ (n : Nat) (v4_4 : Int32), Pg_fitsSomeCheap_L3 n1_1 v2_2 n3_3 s0 n v4_4 = some z → V x WC w 5 (QM x WC w (some (.int z)) s0) s0 3 [(0, .ref (wa w 4 0)), (1, .ref (wa w 26 n1_1)), (2, .int v2_2), (3, .ref (wa w 24 n3_3)), (4, .int v4_4)] [] := by
  intro n
  induction n with
  | zero => intro v4_4 h; cases h
  | succ n ih =>
    intro v4_4 h
    unfold Pg_fitsSomeCheap_L3 at h
    refine r_iload C dX6_fitsSomeCheap_3 4 rfl ?_
    refine r_aload_n C dX6_fitsSomeCheap_5 rfl 3 rfl ?_
    refine gfX6_132 C hn3_3 dX6_fitsSomeCheap_6 ?_
    refine r_icmp_ge (tgt := 49) C dX6_fitsSomeCheap_9 (by decide) (fun c_5 => ?_) (fun c_5 => ?_)
    · have h := ip h c_5
      refine r_iconst (v := 0) C dX6_fitsSomeCheap_49 (by decide) ?_
      cases h
      exact r_zret C rfl dX6_fitsSomeCheap_50
    · have h := iq h c_5
      refine r_aload_n C dX6_fitsSomeCheap_12 rfl 0 rfl ?_
      refine gfX6_27 C dX6_fitsSomeCheap_13 ?_
      refine gfX6_67 C dX6_fitsSomeCheap_16 ?_
      refine r_aload_n C dX6_fitsSomeCheap_19 rfl 3 rfl ?_
      refine gfX6_135 C hn3_3 dX6_fitsSomeCheap_20 ?_
      refine r_iload C dX6_fitsSomeCheap_23 4 rfl ?_
      obtain ⟨g_6, h⟩ := gdE h
      refine ldC_25 C hn3_3 g_6 dX6_fitsSomeCheap_25 ?_
      refine r_iload_n C dX6_fitsSomeCheap_26 rfl 2 rfl ?_
      refine r_aload_n C dX6_fitsSomeCheap_27 rfl 1 rfl ?_
      refine gfX6_125 C hn1_1 dX6_fitsSomeCheap_28 ?_
      refine r_aload_n C dX6_fitsSomeCheap_31 rfl 1 rfl ?_
      refine gfX6_139 C hn1_1 dX6_fitsSomeCheap_32 ?_
      obtain ⟨r_7, er_7, h⟩ := bdE h
      refine kX6_142 C (m_X8_fitting er_7) (by decide) (Nat.le_of_ble_eq_true rfl) dX6_fitsSomeCheap_35 ?_
      refine r_if_eq (tgt := 43) C dX6_fitsSomeCheap_38 (by decide) (fun c_8 => ?_) (fun c_8 => ?_)
      · have h := ip h c_8
        refine r_iinc (v := v4_4 + 1) C dX6_fitsSomeCheap_43 (j := 4) rfl rfl (Nat.le_of_ble_eq_true rfl) (L' := [(4, _), (0, _), (1, _), (2, _), (3, _)]) rfl ?_
        refine r_goto (tgt := 3) C dX6_fitsSomeCheap_46 (by decide) ?_
        refine r_sub [1, 2, 3, 4, 0] rfl ?_
        exact ih _ h
      · have h := iq h c_8
        refine r_iconst (v := 1) C dX6_fitsSomeCheap_41 (by decide) ?_
        cases h
        exact r_zret C rfl dX6_fitsSomeCheap_42
set_option maxHeartbeats 4000000 in
set_option maxRecDepth 100000 in
theorem m_X6_fitsSomeCheap {l : Launch} {w : Wp} {v1 : Nat} {v2 : Int32} {v3 : Nat} (hv1 : v1 < 24) (hv3 : v3 < 8) {s0 : St} {z : Int32} (h : Pg_fitsSomeCheap v1 v2 v3 s0 = some z) : Cm l yX6_fitsSomeCheap (.code yX6_fitsSomeCheap cX6_fitsSomeCheap 5 (some .boolean)) 2 WC w [.ref (wa w 4 0), .ref (wa w 26 v1), .int v2, .ref (wa w 24 v3)] s0 (some (.int z)) s0 := by
  refine Cm.of (own := RX6) (by decide +kernel) rfl (Nat.le_of_ble_eq_true rfl) (L := [(0, .ref (wa w 4 0)), (1, .ref (wa w 26 v1)), (2, .int v2), (3, .ref (wa w 24 v3))]) rfl KoC (fun x hl C => ?_)
  subst hl
  unfold Pg_fitsSomeCheap at h
  refine r_iconst (v := 0) C dX6_fitsSomeCheap_0 (by decide) ?_
  refine r_istore C dX6_fitsSomeCheap_1 (Nat.le_of_ble_eq_true rfl) (L' := [(4, _), (0, _), (1, _), (2, _), (3, _)]) rfl ?_
  refine r_sub [1, 2, 3, 4, 0] rfl ?_
  exact t_X6_fitsSomeCheap_L3 hv1 hv3 C _ _ h
