def Bk_sumIfOtherwise (v1 : Int32) (s0 : St) : Option (Int32 × St) :=
  if inb v1 24 = true then if inb ((sX s0 26 v1.toNatClampNeg 3 (1 - (s0.1 26 v1.toNatClampNeg 3))).1 26 v1.toNatClampNeg 0) 8 = true then Option.bind (Bn_weigh (((sX s0 26 v1.toNatClampNeg 3 (1 - (s0.1 26 v1.toNatClampNeg 3))).1 26 v1.toNatClampNeg 0).toNatClampNeg) (sX s0 26 v1.toNatClampNeg 3 (1 - (s0.1 26 v1.toNatClampNeg 3)))) (fun r_3 => Option.bind (Bn_takeTwoRules r_3) (fun r_4 => some ((sX r_4 26 v1.toNatClampNeg 3 (1 - (r_4.1 26 v1.toNatClampNeg 3))).1 10 0 5, sX r_4 26 v1.toNatClampNeg 3 (1 - (r_4.1 26 v1.toNatClampNeg 3))))) else none else none
set_option maxHeartbeats 4000000 in
set_option maxRecDepth 100000 in
theorem m_X1_sumIfOtherwise {l : Launch} {w : Wp} {v1 : Int32}  {s0 : St} {z : Int32 × St} (h : Bk_sumIfOtherwise v1 s0 = some z) : Cm l yX1_sumIfOtherwise (.code yX1_sumIfOtherwise cX1_sumIfOtherwise 3 (some .int)) 3 WC w [.ref (wa w 3 0), .int v1] s0 (some (.int z.1)) z.2 := by
  refine Cm.of (own := RX1) (by decide +kernel) rfl (Nat.le_of_ble_eq_true rfl) (L := [(0, .ref (wa w 3 0)), (1, .int v1)]) rfl KoC (fun x hl C => ?_)
  subst hl
  unfold Bk_sumIfOtherwise at h
  refine r_aload_n C dX1_sumIfOtherwise_0 rfl 0 rfl ?_
  refine gfX1_46 C dX1_sumIfOtherwise_1 ?_
  refine r_iload_n C dX1_sumIfOtherwise_4 rfl 1 rfl ?_
  obtain ⟨g_1, h⟩ := gdE h
  refine la_16 C g_1 dX1_sumIfOtherwise_5 ?_
  refine r_astore_n C dX1_sumIfOtherwise_6 rfl (Nat.le_of_ble_eq_true rfl) (L' := [(2, _), (0, _), (1, _)]) rfl ?_
  refine r_aload_n C dX1_sumIfOtherwise_7 rfl 0 rfl ?_
  refine r_iconst (v := 1) C dX1_sumIfOtherwise_8 (by decide) ?_
  refine r_aload_n C dX1_sumIfOtherwise_9 rfl 0 rfl ?_
  refine gfX1_87 C (inb_lt g_1) dX1_sumIfOtherwise_10 ?_
  refine r_isub C dX1_sumIfOtherwise_13 ?_
  refine pfX1_87 C (inb_lt g_1) dX1_sumIfOtherwise_14 ?_
  refine r_aload_n C dX1_sumIfOtherwise_17 rfl 1 rfl ?_
  refine gfX1_23 C dX1_sumIfOtherwise_18 ?_
  refine r_aload_n C dX1_sumIfOtherwise_21 rfl 1 rfl ?_
  refine gfX1_37 C dX1_sumIfOtherwise_22 ?_
  refine r_aload_n C dX1_sumIfOtherwise_25 rfl 0 rfl ?_
  refine gfX1_78 C (inb_lt g_1) dX1_sumIfOtherwise_26 ?_
  obtain ⟨g_2, h⟩ := gdE h
  refine la_15 C g_2 dX1_sumIfOtherwise_29 ?_
  refine r_aload_n C dX1_sumIfOtherwise_30 rfl 1 rfl ?_
  refine gfX1_46 C dX1_sumIfOtherwise_31 ?_
  refine r_aload_n C dX1_sumIfOtherwise_34 rfl 1 rfl ?_
  refine gfX1_27 C dX1_sumIfOtherwise_35 ?_
  obtain ⟨r_3, er_3, h⟩ := bdE h
  refine kX1_126 C (m_X0_weigh (inb_lt g_2) er_3) (by decide) (Nat.le_of_ble_eq_true rfl) dX1_sumIfOtherwise_38 ?_
  refine r_aload_n C dX1_sumIfOtherwise_41 rfl 1 rfl ?_
  refine gfX1_23 C dX1_sumIfOtherwise_42 ?_
  obtain ⟨r_4, er_4, h⟩ := bdE h
  refine kX1_130 C (m_X0_takeTwoRules er_4) (by decide) (Nat.le_of_ble_eq_true rfl) dX1_sumIfOtherwise_45 ?_
  refine r_aload_n C dX1_sumIfOtherwise_48 rfl 0 rfl ?_
  refine r_iconst (v := 1) C dX1_sumIfOtherwise_49 (by decide) ?_
  refine r_aload_n C dX1_sumIfOtherwise_50 rfl 0 rfl ?_
  refine gfX1_87 C (inb_lt g_1) dX1_sumIfOtherwise_51 ?_
  refine r_isub C dX1_sumIfOtherwise_54 ?_
  refine pfX1_87 C (inb_lt g_1) dX1_sumIfOtherwise_55 ?_
  refine r_aload_n C dX1_sumIfOtherwise_58 rfl 1 rfl ?_
  refine gfX1_23 C dX1_sumIfOtherwise_59 ?_
  refine gfX1_141 C dX1_sumIfOtherwise_62 ?_
  cases h
  exact r_iret C dX1_sumIfOtherwise_65
def Ms_hasSpoken (n : Nat) (s0 : St) : Int32 :=
  (if (s0.1 22 n 5) ≤ 0 then 0 else 1 : Int32)
set_option maxHeartbeats 4000000 in
set_option maxRecDepth 100000 in
theorem m_X3_hasSpoken {l : Launch} {w : Wp} {n : Nat} (hn : n < 8) {s0 : St} {z : Int32} (h : Ms_hasSpoken n s0 = z) : Cm l yX3_hasSpoken (.code yX3_hasSpoken cX3_hasSpoken 1 (some .boolean)) 0 WC w [.ref (wa w 22 n)] s0 (some (.int z)) s0 := by
  refine Cm.of (own := RX3) (by decide +kernel) rfl (Nat.le_of_ble_eq_true rfl) (L := [(0, .ref (wa w 22 n))]) rfl KoC (fun x hl C => ?_)
  subst hl
  unfold Ms_hasSpoken at h
  refine r_aload_n C dX3_hasSpoken_0 rfl 0 rfl ?_
  refine gfX3_28 C hn dX3_hasSpoken_1 ?_
  refine r_em (st := []) 12 ((if (s0.1 22 n 5) ≤ 0 then 0 else 1 : Int32)) (fun hM_2 => ?_) ?_
  · refine r_if_le (tgt := 11) C dX3_hasSpoken_4 (by decide) (fun c_1 => ?_) (fun c_1 => ?_)
    · refine r_iconst (v := 0) C dX3_hasSpoken_11 (by decide) ?_
      exact (em_pos c_1 hM_2)
    · refine r_iconst (v := 1) C dX3_hasSpoken_7 (by decide) ?_
      refine r_goto (tgt := 12) C dX3_hasSpoken_8 (by decide) ?_
      exact (em_neg c_1 hM_2)
  subst h
  exact r_zret C (nb_ite rfl rfl) dX3_hasSpoken_12
theorem nb_X3_hasSpoken {n : Nat} {s0 : St} : narrow .boolean (.int (Ms_hasSpoken n s0)) = .int (Ms_hasSpoken n s0) := by
  unfold Ms_hasSpoken
  exact (nb_ite rfl rfl)
def Bk_opponents_J84 (B13 : Int32 → Int32 → Option (Int32)) (v1_9 : Int32) (n3_10 : Nat) (v4_11 : Int32) (v5_12 : Int32)  (s0 : St) : Option (Int32) :=
  B13 v4_11 (v5_12 + 1)
def Bk_opponents_L13  (v1_2 : Int32) (n3_3 : Nat) (s0 : St) : Nat → Int32 → Int32 → Option (Int32)
  | 0, _, _ => none
  | n + 1, v4_4, v5_5 => if (s0.1 3 0 5) ≤ v5_5 then (some v4_4) else (if inb v5_5 8 = true then if v5_5 = (s0.1 26 n3_3 0) then (Bk_opponents_J84 (Bk_opponents_L13 v1_2 n3_3 s0 n) v1_2 n3_3 v4_4 v5_5 s0) else (if (Ms_hasSpoken v5_5.toNatClampNeg s0) = 0 then (Bk_opponents_J84 (Bk_opponents_L13 v1_2 n3_3 s0 n) v1_2 n3_3 v4_4 v5_5 s0) else (Option.bind (Bk_caseTraits v1_2 s0) (fun r_16 => Option.bind (Ru_verdict (s0.1 24 v5_5.toNatClampNeg 2) r_16 s0) (fun r_17 => if r_17 = (s0.1 26 n3_3 3) then (Bk_opponents_J84 (Bk_opponents_L13 v1_2 n3_3 s0 n) v1_2 n3_3 v4_4 v5_5 s0) else (Bk_opponents_J84 (Bk_opponents_L13 v1_2 n3_3 s0 n) v1_2 n3_3 (v4_4 ||| (1 <<< (v5_5 &&& 31))) v5_5 s0))))) else none)
def Bk_opponents (v1 : Int32) (s0 : St) : Option (Int32) :=
  if inb v1 24 = true then Bk_opponents_L13 v1 v1.toNatClampNeg s0 1100 0 0 else none
set_option maxHeartbeats 4000000 in
set_option maxRecDepth 100000 in
theorem t_X1_opponents_J84 {x : Ctx} {w : Wp} {v1_9 : Int32} {n3_10 : Nat} {v4_11 : Int32} {v5_12 : Int32}  {s0 : St} {z : Int32} (hn3_10 : n3_10 < 24) {B13 : Int32 → Int32 → Option (Int32)} (hB13 : ∀ (u4_13 : Int32) (u5_14 : Int32), B13 u4_13 u5_14 = some z → V x WC w 7 (QM x WC w (some (.int z)) s0) s0 13 [(0, .ref (wa w 3 0)), (1, .int v1_9), (2, .ref (wa w 15 0)), (3, .ref (wa w 26 n3_10)), (4, .int u4_13), (5, .int u5_14)] []) (C : Cx x WC w cX1_opponents 7 RX1 1 (some .int)) (h : Bk_opponents_J84 B13 v1_9 n3_10 v4_11 v5_12 s0 = some z) : V x WC w 7 (QM x WC w (some (.int z)) s0) s0 84 [(0, .ref (wa w 3 0)), (1, .int v1_9), (2, .ref (wa w 15 0)), (3, .ref (wa w 26 n3_10)), (4, .int v4_11), (5, .int v5_12)] [] := by
  unfold Bk_opponents_J84 at h
  refine r_iinc (v := v5_12 + 1) C dX1_opponents_84 (j := 5) rfl rfl (Nat.le_of_ble_eq_true rfl) (L' := [(5, _), (0, _), (1, _), (2, _), (3, _), (4, _)]) rfl ?_
  refine r_goto (tgt := 13) C dX1_opponents_87 (by decide) ?_
  refine r_sub [1, 2, 3, 4, 5, 0] rfl ?_
  exact hB13 _ _ h
set_option maxHeartbeats 4000000 in
set_option maxRecDepth 100000 in
theorem t_X1_opponents_L13 {x : Ctx} {w : Wp} {v1_2 : Int32} {n3_3 : Nat} {s0 : St} {z : Int32} (hn3_3 : n3_3 < 24)   (C : Cx x WC w cX1_opponents 7 RX1 1 (some .int)) : ∀ (n : Nat) (v4_4 : Int32) (v5_5 : Int32), Bk_opponents_L13 v1_2 n3_3 s0 n v4_4 v5_5 = some z → V x WC w 7 (QM x WC w (some (.int z)) s0) s0 13 [(0, .ref (wa w 3 0)), (1, .int v1_2), (2, .ref (wa w 15 0)), (3, .ref (wa w 26 n3_3)), (4, .int v4_4), (5, .int v5_5)] [] := by
  intro n
  induction n with
  | zero => intro v4_4 v5_5 h; cases h
  | succ n ih =>
    intro v4_4 v5_5 h
    unfold Bk_opponents_L13 at h
    refine r_iload C dX1_opponents_13 5 rfl ?_
    refine r_aload_n C dX1_opponents_15 rfl 0 rfl ?_
    refine gfX1_41 C dX1_opponents_16 ?_
    refine r_icmp_ge (tgt := 90) C dX1_opponents_19 (by decide) (fun c_6 => ?_) (fun c_6 => ?_)
    · have h := ip h c_6
      refine r_iload C dX1_opponents_90 4 rfl ?_
      cases h
      exact r_iret C dX1_opponents_92
    · have h := iq h c_6
      refine r_aload_n C dX1_opponents_22 rfl 2 rfl ?_
      refine r_iload C dX1_opponents_23 5 rfl ?_
      obtain ⟨g_7, h⟩ := gdE h
      refine la_15 C g_7 dX1_opponents_25 ?_
      refine r_astore C dX1_opponents_26 (Nat.le_of_ble_eq_true rfl) (L' := [(6, _), (0, _), (1, _), (2, _), (3, _), (4, _), (5, _)]) rfl ?_
      refine r_iload C dX1_opponents_28 6 rfl ?_
      refine r_aload_n C dX1_opponents_30 rfl 4 rfl ?_
      refine gfX1_78 C hn3_3 dX1_opponents_31 ?_
      refine r_icmp_eq (tgt := 84) C dX1_opponents_34 (by decide) (fun c_8 => ?_) (fun c_8 => ?_)
      · have h := ip h c_8
        refine r_sub [1, 2, 3, 4, 5, 6] rfl ?_
        exact t_X1_opponents_J84 hn3_3 ih C h
      · have h := iq h c_8
        refine r_aload C dX1_opponents_37 0 rfl ?_
        refine kX1_144 C (inb_lt g_7) (m_X3_hasSpoken (inb_lt g_7) rfl) (by decide) (Nat.le_of_ble_eq_true rfl) dX1_opponents_39 ?_
        refine r_if_ne (tgt := 48) C dX1_opponents_42 (by decide) (fun c_15 => ?_) (fun c_15 => ?_)
        · have h := iq h c_15
          refine r_aload_n C dX1_opponents_48 rfl 1 rfl ?_
          refine gfX1_12 C dX1_opponents_49 ?_
          refine r_aload C dX1_opponents_52 0 rfl ?_
          refine gfX1_96 C (inb_lt g_7) dX1_opponents_54 ?_
          refine gfX1_148 C (inb_lt g_7) dX1_opponents_57 ?_
          refine r_aload_n C dX1_opponents_60 rfl 1 rfl ?_
          refine r_iload_n C dX1_opponents_61 rfl 2 rfl ?_
          obtain ⟨r_16, er_16, h⟩ := bdE h
          refine kX1_119 C (m_X1_caseTraits er_16) (by decide) (Nat.le_of_ble_eq_true rfl) dX1_opponents_62 ?_
          obtain ⟨r_17, er_17, h⟩ := bdE h
          refine kX1_151 C (m_X8_verdict er_17) (by decide) (Nat.le_of_ble_eq_true rfl) dX1_opponents_65 ?_
          refine r_aload_n C dX1_opponents_68 rfl 4 rfl ?_
          refine gfX1_87 C hn3_3 dX1_opponents_69 ?_
          refine r_icmp_eq (tgt := 84) C dX1_opponents_72 (by decide) (fun c_18 => ?_) (fun c_18 => ?_)
          · have h := ip h c_18
            refine r_sub [1, 2, 3, 4, 5, 6] rfl ?_
            exact t_X1_opponents_J84 hn3_3 ih C h
          · have h := iq h c_18
            refine r_iload C dX1_opponents_75 5 rfl ?_
            refine r_iconst (v := 1) C dX1_opponents_77 (by decide) ?_
            refine r_iload C dX1_opponents_78 6 rfl ?_
            refine r_ishl C dX1_opponents_80 ?_
            refine r_ior C dX1_opponents_81 ?_
            refine r_istore C dX1_opponents_82 (Nat.le_of_ble_eq_true rfl) (L' := [(4, _), (6, _), (0, _), (1, _), (2, _), (3, _), (5, _)]) rfl ?_
            refine r_sub [2, 3, 4, 5, 0, 6] rfl ?_
            exact t_X1_opponents_J84 hn3_3 ih C h
        · have h := ip h c_15
          refine r_goto (tgt := 84) C dX1_opponents_45 (by decide) ?_
          refine r_sub [1, 2, 3, 4, 5, 6] rfl ?_
          exact t_X1_opponents_J84 hn3_3 ih C h
set_option maxHeartbeats 4000000 in
set_option maxRecDepth 100000 in
theorem m_X1_opponents {l : Launch} {w : Wp} {v1 : Int32}  {s0 : St} {z : Int32} (h : Bk_opponents v1 s0 = some z) : Cm l yX1_opponents (.code yX1_opponents cX1_opponents 7 (some .int)) 1 WC w [.ref (wa w 3 0), .int v1, .ref (wa w 15 0)] s0 (some (.int z)) s0 := by
  refine Cm.of (own := RX1) (by decide +kernel) rfl (Nat.le_of_ble_eq_true rfl) (L := [(0, .ref (wa w 3 0)), (1, .int v1), (2, .ref (wa w 15 0))]) rfl KoC (fun x hl C => ?_)
  subst hl
  unfold Bk_opponents at h
  refine r_aload_n C dX1_opponents_0 rfl 0 rfl ?_
  refine gfX1_46 C dX1_opponents_1 ?_
  refine r_iload_n C dX1_opponents_4 rfl 1 rfl ?_
  obtain ⟨g_1, h⟩ := gdE h
  refine la_16 C g_1 dX1_opponents_5 ?_
  refine r_astore_n C dX1_opponents_6 rfl (Nat.le_of_ble_eq_true rfl) (L' := [(3, _), (0, _), (1, _), (2, _)]) rfl ?_
  refine r_iconst (v := 0) C dX1_opponents_7 (by decide) ?_
  refine r_istore C dX1_opponents_8 (Nat.le_of_ble_eq_true rfl) (L' := [(4, _), (3, _), (0, _), (1, _), (2, _)]) rfl ?_
  refine r_iconst (v := 0) C dX1_opponents_10 (by decide) ?_
  refine r_istore C dX1_opponents_11 (Nat.le_of_ble_eq_true rfl) (L' := [(5, _), (4, _), (3, _), (0, _), (1, _), (2, _)]) rfl ?_
  refine r_sub [3, 4, 5, 2, 1, 0] rfl ?_
  exact t_X1_opponents_L13 (inb_lt g_1) C _ _ _ h
def Mi_mayOwe (n : Nat) (v1 : Int32) (s0 : St) : Int32 :=
  (if ((ush (s0.1 24 n 6) v1) &&& 1) = 1 then 1 else 0 : Int32)
set_option maxHeartbeats 4000000 in
set_option maxRecDepth 100000 in
theorem m_X4_mayOwe {l : Launch} {w : Wp} {n : Nat} {v1 : Int32} (hn : n < 8) {s0 : St} {z : Int32} (h : Mi_mayOwe n v1 s0 = z) : Cm l yX4_mayOwe (.code yX4_mayOwe cX4_mayOwe 2 (some .boolean)) 0 WC w [.ref (wa w 24 n), .int v1] s0 (some (.int z)) s0 := by
  refine Cm.of (own := RX4) (by decide +kernel) rfl (Nat.le_of_ble_eq_true rfl) (L := [(0, .ref (wa w 24 n)), (1, .int v1)]) rfl KoC (fun x hl C => ?_)
  subst hl
  unfold Mi_mayOwe at h
  refine r_aload_n C dX4_mayOwe_0 rfl 0 rfl ?_
  refine gfX4_32 C hn dX4_mayOwe_1 ?_
  refine r_iload_n C dX4_mayOwe_4 rfl 1 rfl ?_
  refine r_iushr (v := ush (s0.1 24 n 6) v1) C dX4_mayOwe_5 rfl ?_
  refine r_iconst (v := 1) C dX4_mayOwe_6 (by decide) ?_
  refine r_iand C dX4_mayOwe_7 ?_
  refine r_iconst (v := 1) C dX4_mayOwe_8 (by decide) ?_
  refine r_em (st := []) 17 ((if ((ush (s0.1 24 n 6) v1) &&& 1) = 1 then 1 else 0 : Int32)) (fun hM_2 => ?_) ?_
  · refine r_icmp_ne (tgt := 16) C dX4_mayOwe_9 (by decide) (fun c_1 => ?_) (fun c_1 => ?_)
    · refine r_iconst (v := 0) C dX4_mayOwe_16 (by decide) ?_
      exact (em_neg c_1 hM_2)
    · refine r_iconst (v := 1) C dX4_mayOwe_12 (by decide) ?_
      refine r_goto (tgt := 17) C dX4_mayOwe_13 (by decide) ?_
      exact (em_pos c_1 hM_2)
  subst h
  exact r_zret C (nb_ite rfl rfl) dX4_mayOwe_17
theorem nb_X4_mayOwe {n : Nat} {v1 : Int32} {s0 : St} : narrow .boolean (.int (Mi_mayOwe n v1 s0)) = .int (Mi_mayOwe n v1 s0) := by
  unfold Mi_mayOwe
  exact (nb_ite rfl rfl)
def Mi_mayNotOwe (n : Nat) (v1 : Int32) (s0 : St) : Int32 :=
  (if ((ush (s0.1 24 n 7) v1) &&& 1) = 1 then 1 else 0 : Int32)
set_option maxHeartbeats 4000000 in
set_option maxRecDepth 100000 in
theorem m_X4_mayNotOwe {l : Launch} {w : Wp} {n : Nat} {v1 : Int32} (hn : n < 8) {s0 : St} {z : Int32} (h : Mi_mayNotOwe n v1 s0 = z) : Cm l yX4_mayNotOwe (.code yX4_mayNotOwe cX4_mayNotOwe 2 (some .boolean)) 0 WC w [.ref (wa w 24 n), .int v1] s0 (some (.int z)) s0 := by
  refine Cm.of (own := RX4) (by decide +kernel) rfl (Nat.le_of_ble_eq_true rfl) (L := [(0, .ref (wa w 24 n)), (1, .int v1)]) rfl KoC (fun x hl C => ?_)
  subst hl
  unfold Mi_mayNotOwe at h
  refine r_aload_n C dX4_mayNotOwe_0 rfl 0 rfl ?_
  refine gfX4_35 C hn dX4_mayNotOwe_1 ?_
  refine r_iload_n C dX4_mayNotOwe_4 rfl 1 rfl ?_
  refine r_iushr (v := ush (s0.1 24 n 7) v1) C dX4_mayNotOwe_5 rfl ?_
  refine r_iconst (v := 1) C dX4_mayNotOwe_6 (by decide) ?_
  refine r_iand C dX4_mayNotOwe_7 ?_
  refine r_iconst (v := 1) C dX4_mayNotOwe_8 (by decide) ?_
  refine r_em (st := []) 17 ((if ((ush (s0.1 24 n 7) v1) &&& 1) = 1 then 1 else 0 : Int32)) (fun hM_2 => ?_) ?_
  · refine r_icmp_ne (tgt := 16) C dX4_mayNotOwe_9 (by decide) (fun c_1 => ?_) (fun c_1 => ?_)
    · refine r_iconst (v := 0) C dX4_mayNotOwe_16 (by decide) ?_
      exact (em_neg c_1 hM_2)
    · refine r_iconst (v := 1) C dX4_mayNotOwe_12 (by decide) ?_
      refine r_goto (tgt := 17) C dX4_mayNotOwe_13 (by decide) ?_
      exact (em_pos c_1 hM_2)
  subst h
  exact r_zret C (nb_ite rfl rfl) dX4_mayNotOwe_17
theorem nb_X4_mayNotOwe {n : Nat} {v1 : Int32} {s0 : St} : narrow .boolean (.int (Mi_mayNotOwe n v1 s0)) = .int (Mi_mayNotOwe n v1 s0) := by
  unfold Mi_mayNotOwe
  exact (nb_ite rfl rfl)
def Bk_knownToAll_J60 (B8 : Int32 → Int32 → Int32 → Option (Int32)) (v1_8 : Int32) (v3_9 : Int32) (v4_10 : Int32) (v5_11 : Int32)  (s0 : St) : Option (Int32) :=
  B8 v3_9 v4_10 (v5_11 + 1)
def Bk_knownToAll_L8 (K66 : Int32 → Int32 → Option (Int32)) (v1_1 : Int32) (s0 : St) : Nat → Int32 → Int32 → Int32 → Option (Int32)
  | 0, _, _, _ => none
  | n + 1, v3_2, v4_3, v5_4 => if (s0.1 3 0 5) ≤ v5_4 then (K66 v3_2 v4_3) else (if inb v5_4 8 = true then if (Ms_hasSpoken v5_4.toNatClampNeg s0) = 0 then (Bk_knownToAll_J60 (Bk_knownToAll_L8 K66 v1_1 s0 n) v1_1 v3_2 v4_3 v5_4 s0) else (Bk_knownToAll_J60 (Bk_knownToAll_L8 K66 v1_1 s0 n) v1_1 (v3_2 ||| (Mi_mayOwe v5_4.toNatClampNeg v1_1 s0)) (v4_3 ||| (Mi_mayNotOwe v5_4.toNatClampNeg v1_1 s0)) v5_4 s0) else none)
def Bk_knownToAll (v1 : Int32) (s0 : St) : Option (Int32) :=
  Bk_knownToAll_L8 (fun (v3_17 : Int32) (v4_18 : Int32) => some (if v3_17 = 0 then 1 else (if v4_18 = 0 then 1 else 0) : Int32)) v1 s0 1100 0 0 0
set_option maxHeartbeats 4000000 in
set_option maxRecDepth 100000 in
theorem t_X1_knownToAll_J60 {x : Ctx} {w : Wp} {v1_8 : Int32} {v3_9 : Int32} {v4_10 : Int32} {v5_11 : Int32}  {s0 : St} {z : Int32}  {B8 : Int32 → Int32 → Int32 → Option (Int32)} (hB8 : ∀ (u3_12 : Int32) (u4_13 : Int32) (u5_14 : Int32), B8 u3_12 u4_13 u5_14 = some z → V x WC w 7 (QM x WC w (some (.int z)) s0) s0 8 [(0, .ref (wa w 3 0)), (1, .int v1_8), (2, .ref (wa w 15 0)), (3, .int u3_12), (4, .int u4_13), (5, .int u5_14)] []) (C : Cx x WC w cX1_knownToAll 7 RX1 1 (some .boolean)) (h : Bk_knownToAll_J60 B8 v1_8 v3_9 v4_10 v5_11 s0 = some z) : V x WC w 7 (QM x WC w (some (.int z)) s0) s0 60 [(0, .ref (wa w 3 0)), (1, .int v1_8), (2, .ref (wa w 15 0)), (3, .int v3_9), (4, .int v4_10), (5, .int v5_11)] [] := by
  unfold Bk_knownToAll_J60 at h
  refine r_iinc (v := v5_11 + 1) C dX1_knownToAll_60 (j := 5) rfl rfl (Nat.le_of_ble_eq_true rfl) (L' := [(5, _), (0, _), (1, _), (2, _), (3, _), (4, _)]) rfl ?_
  refine r_goto (tgt := 8) C dX1_knownToAll_63 (by decide) ?_
  refine r_sub [1, 2, 3, 4, 5, 0] rfl ?_
  exact hB8 _ _ _ h
set_option maxHeartbeats 4000000 in
set_option maxRecDepth 100000 in
theorem t_X1_knownToAll_L8 {x : Ctx} {w : Wp} {v1_1 : Int32} {s0 : St} {z : Int32}  {K66 : Int32 → Int32 → Option (Int32)} (hK66 : ∀ (u3_15 : Int32) (u4_16 : Int32), K66 u3_15 u4_16 = some z → V x WC w 7 (QM x WC w (some (.int z)) s0) s0 66 [(3, .int u3_15), (4, .int u4_16)] []) (C : Cx x WC w cX1_knownToAll 7 RX1 1 (some .boolean)) : ∀ (n : Nat) (v3_2 : Int32) (v4_3 : Int32) (v5_4 : Int32), Bk_knownToAll_L8 K66 v1_1 s0 n v3_2 v4_3 v5_4 = some z → V x WC w 7 (QM x WC w (some (.int z)) s0) s0 8 [(0, .ref (wa w 3 0)), (1, .int v1_1), (2, .ref (wa w 15 0)), (3, .int v3_2), (4, .int v4_3), (5, .int v5_4)] [] := by
  intro n
  induction n with
  | zero => intro v3_2 v4_3 v5_4 h; cases h
  | succ n ih =>
    intro v3_2 v4_3 v5_4 h
    unfold Bk_knownToAll_L8 at h
    refine r_iload C dX1_knownToAll_8 5 rfl ?_
    refine r_aload_n C dX1_knownToAll_10 rfl 0 rfl ?_
    refine gfX1_41 C dX1_knownToAll_11 ?_
    refine r_icmp_ge (tgt := 66) C dX1_knownToAll_14 (by decide) (fun c_5 => ?_) (fun c_5 => ?_)
    · have h := ip h c_5
      refine r_sub [3, 4] rfl ?_
      exact hK66 _ _ h
    · have h := iq h c_5
      refine r_aload_n C dX1_knownToAll_17 rfl 2 rfl ?_
      refine r_iload C dX1_knownToAll_18 5 rfl ?_
      obtain ⟨g_6, h⟩ := gdE h
      refine la_15 C g_6 dX1_knownToAll_20 ?_
      refine r_astore C dX1_knownToAll_21 (Nat.le_of_ble_eq_true rfl) (L' := [(6, _), (0, _), (1, _), (2, _), (3, _), (4, _), (5, _)]) rfl ?_
      refine r_aload C dX1_knownToAll_23 0 rfl ?_
      refine kX1_144 C (inb_lt g_6) (m_X3_hasSpoken (inb_lt g_6) rfl) (by decide) (Nat.le_of_ble_eq_true rfl) dX1_knownToAll_25 ?_
      refine r_if_ne (tgt := 34) C dX1_knownToAll_28 (by decide) (fun c_7 => ?_) (fun c_7 => ?_)
      · have h := iq h c_7
        refine r_iload_n C dX1_knownToAll_34 rfl 4 rfl ?_
        refine r_aload C dX1_knownToAll_35 0 rfl ?_
        refine gfX1_96 C (inb_lt g_6) dX1_knownToAll_37 ?_
        refine r_iload_n C dX1_knownToAll_40 rfl 2 rfl ?_
        refine kX1_155 C (inb_lt g_6) (m_X4_mayOwe (inb_lt g_6) rfl) (by decide) (Nat.le_of_ble_eq_true rfl) dX1_knownToAll_41 ?_
        refine r_ior C dX1_knownToAll_44 ?_
        refine r_istore_n C dX1_knownToAll_45 rfl (Nat.le_of_ble_eq_true rfl) (L' := [(3, _), (6, _), (0, _), (1, _), (2, _), (4, _), (5, _)]) rfl ?_
        refine r_iload C dX1_knownToAll_46 5 rfl ?_
        refine r_aload C dX1_knownToAll_48 1 rfl ?_
        refine gfX1_96 C (inb_lt g_6) dX1_knownToAll_50 ?_
        refine r_iload_n C dX1_knownToAll_53 rfl 3 rfl ?_
        refine kX1_158 C (inb_lt g_6) (m_X4_mayNotOwe (inb_lt g_6) rfl) (by decide) (Nat.le_of_ble_eq_true rfl) dX1_knownToAll_54 ?_
        refine r_ior C dX1_knownToAll_57 ?_
        refine r_istore C dX1_knownToAll_58 (Nat.le_of_ble_eq_true rfl) (L' := [(4, _), (3, _), (6, _), (0, _), (1, _), (2, _), (5, _)]) rfl ?_
        refine r_sub [3, 4, 5, 1, 0, 6] rfl ?_
        exact t_X1_knownToAll_J60 ih C h
      · have h := ip h c_7
        refine r_goto (tgt := 60) C dX1_knownToAll_31 (by decide) ?_
        refine r_sub [1, 2, 3, 4, 5, 6] rfl ?_
        exact t_X1_knownToAll_J60 ih C h
set_option maxHeartbeats 4000000 in
set_option maxRecDepth 100000 in
theorem m_X1_knownToAll {l : Launch} {w : Wp} {v1 : Int32}  {s0 : St} {z : Int32} (h : Bk_knownToAll v1 s0 = some z) : Cm l yX1_knownToAll (.code yX1_knownToAll cX1_knownToAll 7 (some .boolean)) 1 WC w [.ref (wa w 3 0), .int v1, .ref (wa w 15 0)] s0 (some (.int z)) s0 := by
  refine Cm.of (own := RX1) (by decide +kernel) rfl (Nat.le_of_ble_eq_true rfl) (L := [(0, .ref (wa w 3 0)), (1, .int v1), (2, .ref (wa w 15 0))]) rfl KoC (fun x hl C => ?_)
  subst hl
  unfold Bk_knownToAll at h
  refine r_iconst (v := 0) C dX1_knownToAll_0 (by decide) ?_
  refine r_istore_n C dX1_knownToAll_1 rfl (Nat.le_of_ble_eq_true rfl) (L' := [(3, _), (0, _), (1, _), (2, _)]) rfl ?_
  refine r_iconst (v := 0) C dX1_knownToAll_2 (by decide) ?_
  refine r_istore C dX1_knownToAll_3 (Nat.le_of_ble_eq_true rfl) (L' := [(4, _), (3, _), (0, _), (1, _), (2, _)]) rfl ?_
  refine r_iconst (v := 0) C dX1_knownToAll_5 (by decide) ?_
  refine r_istore C dX1_knownToAll_6 (Nat.le_of_ble_eq_true rfl) (L' := [(5, _), (4, _), (3, _), (0, _), (1, _), (2, _)]) rfl ?_
  refine r_sub [3, 4, 5, 2, 1, 0] rfl ?_
  refine t_X1_knownToAll_L8 (fun v3_17 v4_18 h => ?_) C _ _ _ _ h
  refine r_iload_n C dX1_knownToAll_66 rfl 0 rfl ?_
  refine r_em (st := []) 80 ((if v3_17 = 0 then 1 else (if v4_18 = 0 then 1 else 0) : Int32)) (fun hM_21 => ?_) ?_
  · refine r_if_eq (tgt := 75) C dX1_knownToAll_67 (by decide) (fun c_20 => ?_) (fun c_20 => ?_)
    · refine r_iconst (v := 1) C dX1_knownToAll_75 (by decide) ?_
      refine r_goto (tgt := 80) C dX1_knownToAll_76 (by decide) ?_
      exact (em_pos c_20 hM_21)
    · refine r_iload C dX1_knownToAll_70 1 rfl ?_
      refine r_if_ne (tgt := 79) C dX1_knownToAll_72 (by decide) (fun c_19 => ?_) (fun c_19 => ?_)
      · refine r_iconst (v := 0) C dX1_knownToAll_79 (by decide) ?_
        exact (em_neg c_19 (em_neg c_20 hM_21))
      · refine r_iconst (v := 1) C dX1_knownToAll_75 (by decide) ?_
        refine r_goto (tgt := 80) C dX1_knownToAll_76 (by decide) ?_
        exact (em_pos c_19 (em_neg c_20 hM_21))
  cases h
  exact r_zret C (nb_ite rfl (nb_ite rfl rfl)) dX1_knownToAll_80
def Mi_wouldSay (n : Nat) (v1 : Int32) (s0 : St) : Int32 :=
  if (Mi_mayOwe n v1 s0) = 0 then 0 else (if (Mi_mayNotOwe n v1 s0) = 0 then 1 else 2 : Int32)
set_option maxHeartbeats 4000000 in
set_option maxRecDepth 100000 in
theorem m_X4_wouldSay {l : Launch} {w : Wp} {n : Nat} {v1 : Int32} (hn : n < 8) {s0 : St} {z : Int32} (h : Mi_wouldSay n v1 s0 = z) : Cm l yX4_wouldSay (.code yX4_wouldSay cX4_wouldSay 2 (some .int)) 1 WC w [.ref (wa w 24 n), .int v1] s0 (some (.int z)) s0 := by
  refine Cm.of (own := RX4) (by decide +kernel) rfl (Nat.le_of_ble_eq_true rfl) (L := [(0, .ref (wa w 24 n)), (1, .int v1)]) rfl KoC (fun x hl C => ?_)
  subst hl
  unfold Mi_wouldSay at h
  refine r_aload_n C dX4_wouldSay_0 rfl 0 rfl ?_
  refine r_iload_n C dX4_wouldSay_1 rfl 1 rfl ?_
  refine kX4_54 C hn (m_X4_mayOwe hn rfl) (by decide) (Nat.le_of_ble_eq_true rfl) dX4_wouldSay_2 ?_
  refine r_if_ne (tgt := 10) C dX4_wouldSay_5 (by decide) (fun c_1 => ?_) (fun c_1 => ?_)
  · have h := iq h c_1
    refine r_aload_n C dX4_wouldSay_10 rfl 0 rfl ?_
    refine r_iload_n C dX4_wouldSay_11 rfl 1 rfl ?_
    refine kX4_58 C hn (m_X4_mayNotOwe hn rfl) (by decide) (Nat.le_of_ble_eq_true rfl) dX4_wouldSay_12 ?_
    refine r_em (st := []) 23 ((if (Mi_mayNotOwe n v1 s0) = 0 then 1 else 2 : Int32)) (fun hM_3 => ?_) ?_
    · refine r_if_eq (tgt := 22) C dX4_wouldSay_15 (by decide) (fun c_2 => ?_) (fun c_2 => ?_)
      · refine r_iconst (v := 1) C dX4_wouldSay_22 (by decide) ?_
        exact (em_pos c_2 hM_3)
      · refine r_iconst (v := 2) C dX4_wouldSay_18 (by decide) ?_
        refine r_goto (tgt := 23) C dX4_wouldSay_19 (by decide) ?_
        exact (em_neg c_2 hM_3)
    subst h
    exact r_iret C dX4_wouldSay_23
  · have h := ip h c_1
    refine r_iconst (v := 0) C dX4_wouldSay_8 (by decide) ?_
    subst h
    exact r_iret C dX4_wouldSay_9
def Bk_manyUnsure_J44 (B5 : Int32 → Int32 → Option (Int32)) (v1_7 : Int32) (v3_8 : Int32) (v4_9 : Int32)  (s0 : St) : Option (Int32) :=
  B5 v3_8 (v4_9 + 1)
def Bk_manyUnsure_L5  (v1_1 : Int32) (s0 : St) : Nat → Int32 → Int32 → Option (Int32)
  | 0, _, _ => none
  | n + 1, v3_2, v4_3 => if (s0.1 3 0 5) ≤ v4_3 then (some v3_2) else (if inb v4_3 8 = true then if (Ms_hasSpoken v4_3.toNatClampNeg s0) = 0 then (Bk_manyUnsure_J44 (Bk_manyUnsure_L5 v1_1 s0 n) v1_1 v3_2 v4_3 s0) else (if (Mi_wouldSay v4_3.toNatClampNeg v1_1 s0) = 2 then (Bk_manyUnsure_J44 (Bk_manyUnsure_L5 v1_1 s0 n) v1_1 (v3_2 + 1) v4_3 s0) else (Bk_manyUnsure_J44 (Bk_manyUnsure_L5 v1_1 s0 n) v1_1 v3_2 v4_3 s0)) else none)
def Bk_manyUnsure (v1 : Int32) (s0 : St) : Option (Int32) :=
  Bk_manyUnsure_L5 v1 s0 1100 0 0
set_option maxHeartbeats 4000000 in
set_option maxRecDepth 100000 in
theorem t_X1_manyUnsure_J44 {x : Ctx} {w : Wp} {v1_7 : Int32} {v3_8 : Int32} {v4_9 : Int32}  {s0 : St} {z : Int32}  {B5 : Int32 → Int32 → Option (Int32)} (hB5 : ∀ (u3_10 : Int32) (u4_11 : Int32), B5 u3_10 u4_11 = some z → V x WC w 6 (QM x WC w (some (.int z)) s0) s0 5 [(0, .ref (wa w 3 0)), (1, .int v1_7), (2, .ref (wa w 15 0)), (3, .int u3_10), (4, .int u4_11)] []) (C : Cx x WC w cX1_manyUnsure 6 RX1 2 (some .int)) (h : Bk_manyUnsure_J44 B5 v1_7 v3_8 v4_9 s0 = some z) : V x WC w 6 (QM x WC w (some (.int z)) s0) s0 44 [(0, .ref (wa w 3 0)), (1, .int v1_7), (2, .ref (wa w 15 0)), (3, .int v3_8), (4, .int v4_9)] [] := by
  unfold Bk_manyUnsure_J44 at h
  refine r_iinc (v := v4_9 + 1) C dX1_manyUnsure_44 (j := 4) rfl rfl (Nat.le_of_ble_eq_true rfl) (L' := [(4, _), (0, _), (1, _), (2, _), (3, _)]) rfl ?_
  refine r_goto (tgt := 5) C dX1_manyUnsure_47 (by decide) ?_
  refine r_sub [1, 2, 3, 4, 0] rfl ?_
  exact hB5 _ _ h
set_option maxHeartbeats 4000000 in
set_option maxRecDepth 100000 in
theorem t_X1_manyUnsure_L5 {x : Ctx} {w : Wp} {v1_1 : Int32} {s0 : St} {z : Int32}    (C : Cx x WC w cX1_manyUnsure 6 RX1 2 (some .int)) : ∀ (n : Nat) (v3_2 : Int32) (v4_3 : Int32), Bk_manyUnsure_L5 v1_1 s0 n v3_2 v4_3 = some z → V x WC w 6 (QM x WC w (some (.int z)) s0) s0 5 [(0, .ref (wa w 3 0)), (1, .int v1_1), (2, .ref (wa w 15 0)), (3, .int v3_2), (4, .int v4_3)] [] := by
  intro n
  induction n with
  | zero => intro v3_2 v4_3 h; cases h
  | succ n ih =>
    intro v3_2 v4_3 h
    unfold Bk_manyUnsure_L5 at h
    refine r_iload C dX1_manyUnsure_5 4 rfl ?_
    refine r_aload_n C dX1_manyUnsure_7 rfl 0 rfl ?_
    refine gfX1_41 C dX1_manyUnsure_8 ?_
    refine r_icmp_ge (tgt := 50) C dX1_manyUnsure_11 (by decide) (fun c_4 => ?_) (fun c_4 => ?_)
    · have h := ip h c_4
      refine r_iload_n C dX1_manyUnsure_50 rfl 3 rfl ?_
      cases h
      exact r_iret C dX1_manyUnsure_51
    · have h := iq h c_4
      refine r_aload_n C dX1_manyUnsure_14 rfl 2 rfl ?_
      refine r_iload C dX1_manyUnsure_15 4 rfl ?_
      obtain ⟨g_5, h⟩ := gdE h
      refine la_15 C g_5 dX1_manyUnsure_17 ?_
      refine r_astore C dX1_manyUnsure_18 (Nat.le_of_ble_eq_true rfl) (L' := [(5, _), (0, _), (1, _), (2, _), (3, _), (4, _)]) rfl ?_
      refine r_aload C dX1_manyUnsure_20 0 rfl ?_
      refine kX1_144 C (inb_lt g_5) (m_X3_hasSpoken (inb_lt g_5) rfl) (by decide) (Nat.le_of_ble_eq_true rfl) dX1_manyUnsure_22 ?_
      refine r_if_eq (tgt := 44) C dX1_manyUnsure_25 (by decide) (fun c_6 => ?_) (fun c_6 => ?_)
      · have h := ip h c_6
        refine r_sub [1, 2, 3, 4, 5] rfl ?_
        exact t_X1_manyUnsure_J44 ih C h
      · have h := iq h c_6
        refine r_aload C dX1_manyUnsure_28 0 rfl ?_
        refine gfX1_96 C (inb_lt g_5) dX1_manyUnsure_30 ?_
        refine r_iload_n C dX1_manyUnsure_33 rfl 2 rfl ?_
        refine kX1_161 C (inb_lt g_5) (m_X4_wouldSay (inb_lt g_5) rfl) (by decide) (Nat.le_of_ble_eq_true rfl) dX1_manyUnsure_34 ?_
        refine r_iconst (v := 2) C dX1_manyUnsure_37 (by decide) ?_
        refine r_icmp_ne (tgt := 44) C dX1_manyUnsure_38 (by decide) (fun c_12 => ?_) (fun c_12 => ?_)
        · have h := iq h c_12
          refine r_sub [1, 2, 3, 4, 5] rfl ?_
          exact t_X1_manyUnsure_J44 ih C h
        · have h := ip h c_12
          refine r_iinc (v := v3_2 + 1) C dX1_manyUnsure_41 (j := 4) rfl rfl (Nat.le_of_ble_eq_true rfl) (L' := [(3, _), (5, _), (0, _), (1, _), (2, _), (4, _)]) rfl ?_
          refine r_sub [2, 3, 4, 0, 5] rfl ?_
          exact t_X1_manyUnsure_J44 ih C h
set_option maxHeartbeats 4000000 in
set_option maxRecDepth 100000 in
theorem m_X1_manyUnsure {l : Launch} {w : Wp} {v1 : Int32}  {s0 : St} {z : Int32} (h : Bk_manyUnsure v1 s0 = some z) : Cm l yX1_manyUnsure (.code yX1_manyUnsure cX1_manyUnsure 6 (some .int)) 2 WC w [.ref (wa w 3 0), .int v1, .ref (wa w 15 0)] s0 (some (.int z)) s0 := by
  refine Cm.of (own := RX1) (by decide +kernel) rfl (Nat.le_of_ble_eq_true rfl) (L := [(0, .ref (wa w 3 0)), (1, .int v1), (2, .ref (wa w 15 0))]) rfl KoC (fun x hl C => ?_)
  subst hl
  unfold Bk_manyUnsure at h
  refine r_iconst (v := 0) C dX1_manyUnsure_0 (by decide) ?_
  refine r_istore_n C dX1_manyUnsure_1 rfl (Nat.le_of_ble_eq_true rfl) (L' := [(3, _), (0, _), (1, _), (2, _)]) rfl ?_
  refine r_iconst (v := 0) C dX1_manyUnsure_2 (by decide) ?_
  refine r_istore C dX1_manyUnsure_3 (Nat.le_of_ble_eq_true rfl) (L' := [(4, _), (3, _), (0, _), (1, _), (2, _)]) rfl ?_
  refine r_sub [2, 3, 4, 1, 0] rfl ?_
  exact t_X1_manyUnsure_L5 C _ _ _ h
def Bk_yearsApart_J68 (B9 : Int32 → Int32 → Int32 → Option (Int32)) (v1_10 : Int32) (v2_11 : Int32) (v3_12 : Int32) (v4_13 : Int32)  (s0 : St) : Option (Int32) :=
  B9 v2_11 v3_12 (v4_13 + 1)
def Bk_yearsApart_L9  (v1_1 : Int32) (s0 : St) : Nat → Int32 → Int32 → Int32 → Option (Int32)
  | 0, _, _, _ => none
  | n + 1, v2_2, v3_3, v4_4 => if (s0.1 3 0 7) ≤ v4_4 then (some (imax 0 (v3_3 - v2_2))) else (if inb v4_4 24 = true then if ((ush v1_1 (s0.1 26 v4_4.toNatClampNeg 0)) &&& 1) = 0 then (Bk_yearsApart_J68 (Bk_yearsApart_L9 v1_1 s0 n) v1_1 v2_2 v3_3 v4_4 s0) else (if inb v4_4 24 = true then if inb v4_4 24 = true then Bk_yearsApart_J68 (Bk_yearsApart_L9 v1_1 s0 n) v1_1 (imin v2_2 (s0.1 26 v4_4.toNatClampNeg 2)) (imax v3_3 (s0.1 26 v4_4.toNatClampNeg 2)) v4_4 s0 else none else none) else none)
def Bk_yearsApart (v1 : Int32) (s0 : St) : Option (Int32) :=
  Bk_yearsApart_L9 v1 s0 1100 1000 (-1) 0
set_option maxHeartbeats 4000000 in
set_option maxRecDepth 100000 in
theorem t_X1_yearsApart_J68 {x : Ctx} {w : Wp} {v1_10 : Int32} {v2_11 : Int32} {v3_12 : Int32} {v4_13 : Int32}  {s0 : St} {z : Int32}  {B9 : Int32 → Int32 → Int32 → Option (Int32)} (hB9 : ∀ (u2_14 : Int32) (u3_15 : Int32) (u4_16 : Int32), B9 u2_14 u3_15 u4_16 = some z → V x WC w 5 (QM x WC w (some (.int z)) s0) s0 9 [(0, .ref (wa w 3 0)), (1, .int v1_10), (2, .int u2_14), (3, .int u3_15), (4, .int u4_16)] []) (C : Cx x WC w cX1_yearsApart 5 RX1 1 (some .int)) (h : Bk_yearsApart_J68 B9 v1_10 v2_11 v3_12 v4_13 s0 = some z) : V x WC w 5 (QM x WC w (some (.int z)) s0) s0 68 [(0, .ref (wa w 3 0)), (1, .int v1_10), (2, .int v2_11), (3, .int v3_12), (4, .int v4_13)] [] := by
  unfold Bk_yearsApart_J68 at h
  refine r_iinc (v := v4_13 + 1) C dX1_yearsApart_68 (j := 4) rfl rfl (Nat.le_of_ble_eq_true rfl) (L' := [(4, _), (0, _), (1, _), (2, _), (3, _)]) rfl ?_
  refine r_goto (tgt := 9) C dX1_yearsApart_71 (by decide) ?_
  refine r_sub [1, 2, 3, 4, 0] rfl ?_
  exact hB9 _ _ _ h
set_option maxHeartbeats 4000000 in
set_option maxRecDepth 100000 in
theorem t_X1_yearsApart_L9 {x : Ctx} {w : Wp} {v1_1 : Int32} {s0 : St} {z : Int32}    (C : Cx x WC w cX1_yearsApart 5 RX1 1 (some .int)) : ∀ (n : Nat) (v2_2 : Int32) (v3_3 : Int32) (v4_4 : Int32), Bk_yearsApart_L9 v1_1 s0 n v2_2 v3_3 v4_4 = some z → V x WC w 5 (QM x WC w (some (.int z)) s0) s0 9 [(0, .ref (wa w 3 0)), (1, .int v1_1), (2, .int v2_2), (3, .int v3_3), (4, .int v4_4)] [] := by
  intro n
  induction n with
  | zero => intro v2_2 v3_3 v4_4 h; cases h
  | succ n ih =>
    intro v2_2 v3_3 v4_4 h
    unfold Bk_yearsApart_L9 at h
    refine r_iload C dX1_yearsApart_9 4 rfl ?_
    refine r_aload_n C dX1_yearsApart_11 rfl 0 rfl ?_
    refine gfX1_50 C dX1_yearsApart_12 ?_
    refine r_icmp_ge (tgt := 74) C dX1_yearsApart_15 (by decide) (fun c_5 => ?_) (fun c_5 => ?_)
    · have h := ip h c_5
      refine r_iconst (v := 0) C dX1_yearsApart_74 (by decide) ?_
      refine r_iload_n C dX1_yearsApart_75 rfl 3 rfl ?_
      refine r_iload_n C dX1_yearsApart_76 rfl 2 rfl ?_
      refine r_isub C dX1_yearsApart_77 ?_
      refine r_mmax C q_757 q_745 q_16 q_746 (Nat.le_of_ble_eq_true rfl) dX1_yearsApart_78 ?_
      cases h
      exact r_iret C dX1_yearsApart_81
    · have h := iq h c_5
      refine r_iload_n C dX1_yearsApart_18 rfl 1 rfl ?_
      refine r_aload_n C dX1_yearsApart_19 rfl 0 rfl ?_
      refine gfX1_46 C dX1_yearsApart_20 ?_
      refine r_iload C dX1_yearsApart_23 4 rfl ?_
      obtain ⟨g_6, h⟩ := gdE h
      refine la_16 C g_6 dX1_yearsApart_25 ?_
      refine gfX1_78 C (inb_lt g_6) dX1_yearsApart_26 ?_
      refine r_iushr (v := ush v1_1 (s0.1 26 v4_4.toNatClampNeg 0)) C dX1_yearsApart_29 rfl ?_
      refine r_iconst (v := 1) C dX1_yearsApart_30 (by decide) ?_
      refine r_iand C dX1_yearsApart_31 ?_
      refine r_if_ne (tgt := 38) C dX1_yearsApart_32 (by decide) (fun c_7 => ?_) (fun c_7 => ?_)
      · have h := iq h c_7
        refine r_iload_n C dX1_yearsApart_38 rfl 2 rfl ?_
        refine r_aload_n C dX1_yearsApart_39 rfl 0 rfl ?_
        refine gfX1_46 C dX1_yearsApart_40 ?_
        refine r_iload C dX1_yearsApart_43 4 rfl ?_
        obtain ⟨g_8, h⟩ := gdE h
        refine la_16 C g_8 dX1_yearsApart_45 ?_
        refine gfX1_84 C (inb_lt g_8) dX1_yearsApart_46 ?_
        refine r_mmin C q_756 q_623 q_16 q_624 (Nat.le_of_ble_eq_true rfl) dX1_yearsApart_49 ?_
        refine r_istore_n C dX1_yearsApart_52 rfl (Nat.le_of_ble_eq_true rfl) (L' := [(2, _), (0, _), (1, _), (3, _), (4, _)]) rfl ?_
        refine r_iload_n C dX1_yearsApart_53 rfl 3 rfl ?_
        refine r_aload_n C dX1_yearsApart_54 rfl 1 rfl ?_
        refine gfX1_46 C dX1_yearsApart_55 ?_
        refine r_iload C dX1_yearsApart_58 4 rfl ?_
        obtain ⟨g_9, h⟩ := gdE h
        refine la_16 C g_9 dX1_yearsApart_60 ?_
        refine gfX1_84 C (inb_lt g_9) dX1_yearsApart_61 ?_
        refine r_mmax C q_757 q_745 q_16 q_746 (Nat.le_of_ble_eq_true rfl) dX1_yearsApart_64 ?_
        refine r_istore_n C dX1_yearsApart_67 rfl (Nat.le_of_ble_eq_true rfl) (L' := [(3, _), (2, _), (0, _), (1, _), (4, _)]) rfl ?_
        refine r_sub [2, 3, 1, 0, 4] rfl ?_
        exact t_X1_yearsApart_J68 ih C h
      · have h := ip h c_7
        refine r_goto (tgt := 68) C dX1_yearsApart_35 (by decide) ?_
        refine r_sub [0, 1, 2, 3, 4] rfl ?_
        exact t_X1_yearsApart_J68 ih C h
set_option maxHeartbeats 4000000 in
set_option maxRecDepth 100000 in
theorem m_X1_yearsApart {l : Launch} {w : Wp} {v1 : Int32}  {s0 : St} {z : Int32} (h : Bk_yearsApart v1 s0 = some z) : Cm l yX1_yearsApart (.code yX1_yearsApart cX1_yearsApart 5 (some .int)) 1 WC w [.ref (wa w 3 0), .int v1] s0 (some (.int z)) s0 := by
  refine Cm.of (own := RX1) (by decide +kernel) rfl (Nat.le_of_ble_eq_true rfl) (L := [(0, .ref (wa w 3 0)), (1, .int v1)]) rfl KoC (fun x hl C => ?_)
  subst hl
  unfold Bk_yearsApart at h
  refine r_sipush (v := 1000) C dX1_yearsApart_0 (by decide) ?_
  refine r_istore_n C dX1_yearsApart_3 rfl (Nat.le_of_ble_eq_true rfl) (L' := [(2, _), (0, _), (1, _)]) rfl ?_
  refine r_iconst (v := (-1)) C dX1_yearsApart_4 (by decide) ?_
  refine r_istore_n C dX1_yearsApart_5 rfl (Nat.le_of_ble_eq_true rfl) (L' := [(3, _), (2, _), (0, _), (1, _)]) rfl ?_
  refine r_iconst (v := 0) C dX1_yearsApart_6 (by decide) ?_
  refine r_istore C dX1_yearsApart_7 (Nat.le_of_ble_eq_true rfl) (L' := [(4, _), (3, _), (2, _), (0, _), (1, _)]) rfl ?_
  refine r_sub [3, 4, 2, 1, 0] rfl ?_
  exact t_X1_yearsApart_L9 C _ _ _ _ h
def Sy_figure (n : Nat) (v1 : Int32) (s0 : St) : Int32 :=
  if v1 = 0 then (s0.1 26 n 0) else (if v1 = 1 then (s0.1 26 n 1) else (if v1 = 2 then (s0.1 26 n 2) else (if v1 = 3 then (s0.1 26 n 3) else (s0.1 26 n 4))))
set_option maxHeartbeats 4000000 in
set_option maxRecDepth 100000 in
theorem m_X9_figure {l : Launch} {w : Wp} {n : Nat} {v1 : Int32} (hn : n < 24) {s0 : St} {z : Int32} (h : Sy_figure n v1 s0 = z) : Cm l yX9_figure (.code yX9_figure cX9_figure 2 (some .int)) 0 WC w [.ref (wa w 26 n), .int v1] s0 (some (.int z)) s0 := by
  refine Cm.of (own := RX9) (by decide +kernel) rfl (Nat.le_of_ble_eq_true rfl) (L := [(0, .ref (wa w 26 n)), (1, .int v1)]) rfl KoC (fun x hl C => ?_)
  subst hl
  unfold Sy_figure at h
  refine r_iload_n C dX9_figure_0 rfl 1 rfl ?_
  by_cases c_1 : v1 = 0
  · have h := ip h c_1
    refine r_tabIn (tgt := 32) C dX9_figure_1 c_1 (by decide) (by decide) rfl (by decide) ?_
    refine r_aload_n C dX9_figure_32 rfl 0 rfl ?_
    refine gfX9_9 C hn dX9_figure_33 ?_
    subst h
    exact r_iret C dX9_figure_36
  have h := iq h c_1
  by_cases c_2 : v1 = 1
  · have h := ip h c_2
    refine r_tabIn (tgt := 37) C dX9_figure_1 c_2 (by decide) (by decide) rfl (by decide) ?_
    refine r_aload_n C dX9_figure_37 rfl 0 rfl ?_
    refine gfX9_15 C hn dX9_figure_38 ?_
    subst h
    exact r_iret C dX9_figure_41
  have h := iq h c_2
  by_cases c_3 : v1 = 2
  · have h := ip h c_3
    refine r_tabIn (tgt := 42) C dX9_figure_1 c_3 (by decide) (by decide) rfl (by decide) ?_
    refine r_aload_n C dX9_figure_42 rfl 0 rfl ?_
    refine gfX9_18 C hn dX9_figure_43 ?_
    subst h
    exact r_iret C dX9_figure_46
  have h := iq h c_3
  by_cases c_4 : v1 = 3
  · have h := ip h c_4
    refine r_tabIn (tgt := 47) C dX9_figure_1 c_4 (by decide) (by decide) rfl (by decide) ?_
    refine r_aload_n C dX9_figure_47 rfl 0 rfl ?_
    refine gfX9_21 C hn dX9_figure_48 ?_
    subst h
    exact r_iret C dX9_figure_51
  have h := iq h c_4
  refine r_tabOut (tgt := 52) C dX9_figure_1 (by have q0 := tq_ne (k := 0) (by decide) c_1; have q1 := tq_ne (k := 1) (by decide) c_2; have q2 := tq_ne (k := 2) (by decide) c_3; have q3 := tq_ne (k := 3) (by decide) c_4; omega) (by decide) ?_
  refine r_aload_n C dX9_figure_52 rfl 0 rfl ?_
  refine gfX9_24 C hn dX9_figure_53 ?_
  subst h
  exact r_iret C dX9_figure_56
def Bk_digestFrom_L5 (K35 : Int64 → Option (Int64))  (s0 : St) : Nat → Int64 → Int32 → Option (Int64)
  | 0, _, _ => none
  | n + 1, v3_1, v5_2 => if (s0.1 3 0 3) ≤ v5_2 then (K35 v3_1) else (if inb v5_2 12 = true then (Bk_digestFrom_L5 K35 s0 n) ((31 * v3_1) + ((s0.1 14 0 v5_2.toNatClampNeg).toInt64)) (v5_2 + 1) else none)
def Bk_digestFrom_L50 (K78 : Int64 → Option (Int64)) (v5_11 : Int32) (s0 : St) : Nat → Int64 → Int32 → Option (Int64)
  | 0, _, _ => none
  | n + 1, v3_10, v6_12 => if 5 ≤ v6_12 then (K78 v3_10) else (Option.bind (Bk_lifeFigure v5_11 v6_12 s0) (fun r_14 => (Bk_digestFrom_L50 K78 v5_11 s0 n) ((31 * v3_10) + r_14.toInt64) (v6_12 + 1)))
def Bk_digestFrom_L38 (K84 : Int64 → Option (Int64))  (s0 : St) : Nat → Int64 → Int32 → Option (Int64)
  | 0, _, _ => none
  | n + 1, v3_7, v5_8 => if (s0.1 3 0 5) ≤ v5_8 then (K84 v3_7) else (Bk_digestFrom_L50 (fun (v3_16 : Int64) => (Bk_digestFrom_L38 K84 s0 n) v3_16 (v5_8 + 1)) v5_8 s0 1100 v3_7 0)
def Bk_digestFrom_L99 (K131 : Int64 → Option (Int64)) (v5_23 : Int32) (s0 : St) : Nat → Int64 → Int32 → Option (Int64)
  | 0, _, _ => none
  | n + 1, v3_22, v6_24 => if 5 ≤ v6_24 then (K131 v3_22) else (if inb v5_23 24 = true then (Bk_digestFrom_L99 K131 v5_23 s0 n) ((31 * v3_22) + ((Sy_figure v5_23.toNatClampNeg v6_24 s0).toInt64)) (v6_24 + 1) else none)
def Bk_digestFrom_L134 (K167 : Int64 → Option (Int64)) (v5_30 : Int32) (s0 : St) : Nat → Int64 → Int32 → Option (Int64)
  | 0, _, _ => none
  | n + 1, v3_29, v6_31 => if 5 ≤ v6_31 then (K167 v3_29) else (if inb v5_30 24 = true then if inb v6_31 5 = true then (Bk_digestFrom_L134 K167 v5_30 s0 n) ((31 * v3_29) + ((s0.1 27 v5_30.toNatClampNeg v6_31.toNatClampNeg).toInt64)) (v6_31 + 1) else none else none)
def Bk_digestFrom_L87 (K173 : Int64 → Option (Int64))  (s0 : St) : Nat → Int64 → Int32 → Option (Int64)
  | 0, _, _ => none
  | n + 1, v3_19, v5_20 => if (s0.1 3 0 7) ≤ v5_20 then (K173 v3_19) else (Bk_digestFrom_L99 (fun (v3_28 : Int64) => Bk_digestFrom_L134 (fun (v3_36 : Int64) => (Bk_digestFrom_L87 K173 s0 n) v3_36 (v5_20 + 1)) v5_20 s0 1100 v3_28 0) v5_20 s0 1100 v3_19 0)
def Bk_digestFrom (v1 : Int64) (s0 : St) : Option (Int64) :=
  Bk_digestFrom_L5 (fun (v3_6 : Int64) => Bk_digestFrom_L38 (fun (v3_18 : Int64) => Bk_digestFrom_L87 (fun (v3_38 : Int64) => some ((31 * ((31 * ((31 * v3_38) + ((s0.1 10 0 0).toInt64))) + ((s0.1 10 0 1).toInt64))) + ((s0.1 10 0 2).toInt64))) s0 1100 v3_18 0) s0 1100 v3_6 0) s0 1100 v1 0
set_option maxHeartbeats 4000000 in
set_option maxRecDepth 100000 in
theorem t_X1_digestFrom_L5 {x : Ctx} {w : Wp}  {s0 : St} {z : Int64}  {K35 : Int64 → Option (Int64)} (hK35 : ∀ (u3_5 : Int64), K35 u3_5 = some z → V x WC w 7 (QM x WC w (some (.long z)) s0) s0 35 [(0, .ref (wa w 3 0)), (3, .long u3_5)] []) (C : Cx x WC w cX1_digestFrom 7 RX1 2 (some .long)) : ∀ (n : Nat) (v3_1 : Int64) (v5_2 : Int32), Bk_digestFrom_L5 K35 s0 n v3_1 v5_2 = some z → V x WC w 7 (QM x WC w (some (.long z)) s0) s0 5 [(0, .ref (wa w 3 0)), (3, .long v3_1), (5, .int v5_2)] [] := by
  intro n
  induction n with
  | zero => intro v3_1 v5_2 h; cases h
  | succ n ih =>
    intro v3_1 v5_2 h
    unfold Bk_digestFrom_L5 at h
    refine r_iload C dX1_digestFrom_5 2 rfl ?_
    refine r_aload_n C dX1_digestFrom_7 rfl 0 rfl ?_
    refine gfX1_31 C dX1_digestFrom_8 ?_
    refine r_icmp_ge (tgt := 35) C dX1_digestFrom_11 (by decide) (fun c_3 => ?_) (fun c_3 => ?_)
    · have h := ip h c_3
      refine r_sub [0, 1] rfl ?_
      exact hK35 _ h
    · have h := iq h c_3
      refine r_ldc2 C dX1_digestFrom_14 q_945 ?_
      refine r_lload_n C dX1_digestFrom_17 rfl 1 rfl ?_
      refine r_lmul C dX1_digestFrom_18 ?_
      refine r_aload_n C dX1_digestFrom_19 rfl 0 rfl ?_
      refine gfX1_27 C dX1_digestFrom_20 ?_
      refine r_iload C dX1_digestFrom_23 2 rfl ?_
      obtain ⟨g_4, h⟩ := gdE h
      refine ldC_14 C g_4 dX1_digestFrom_25 ?_
      refine r_i2l C dX1_digestFrom_26 ?_
      refine r_ladd C dX1_digestFrom_27 ?_
      refine r_lstore_n C dX1_digestFrom_28 rfl (Nat.le_of_ble_eq_true rfl) (L' := [(3, _), (0, _), (5, _)]) rfl ?_
      refine r_iinc (v := v5_2 + 1) C dX1_digestFrom_29 (j := 2) rfl rfl (Nat.le_of_ble_eq_true rfl) (L' := [(5, _), (3, _), (0, _)]) rfl ?_
      refine r_goto (tgt := 5) C dX1_digestFrom_32 (by decide) ?_
      refine r_sub [2, 1, 0] rfl ?_
      exact ih _ _ h
set_option maxHeartbeats 4000000 in
set_option maxRecDepth 100000 in
theorem t_X1_digestFrom_L50 {x : Ctx} {w : Wp} {v5_11 : Int32} {s0 : St} {z : Int64}  {K78 : Int64 → Option (Int64)} (hK78 : ∀ (u3_15 : Int64), K78 u3_15 = some z → V x WC w 7 (QM x WC w (some (.long z)) s0) s0 78 [(0, .ref (wa w 3 0)), (3, .long u3_15), (5, .int v5_11)] []) (C : Cx x WC w cX1_digestFrom 7 RX1 2 (some .long)) : ∀ (n : Nat) (v3_10 : Int64) (v6_12 : Int32), Bk_digestFrom_L50 K78 v5_11 s0 n v3_10 v6_12 = some z → V x WC w 7 (QM x WC w (some (.long z)) s0) s0 50 [(0, .ref (wa w 3 0)), (3, .long v3_10), (5, .int v5_11), (6, .int v6_12)] [] := by
  intro n
  induction n with
  | zero => intro v3_10 v6_12 h; cases h
  | succ n ih =>
    intro v3_10 v6_12 h
    unfold Bk_digestFrom_L50 at h
    refine r_iload C dX1_digestFrom_50 3 rfl ?_
    refine r_iconst (v := 5) C dX1_digestFrom_52 (by decide) ?_
    refine r_icmp_ge (tgt := 78) C dX1_digestFrom_53 (by decide) (fun c_13 => ?_) (fun c_13 => ?_)
    · have h := ip h c_13
      refine r_sub [0, 1, 2] rfl ?_
      exact hK78 _ h
    · have h := iq h c_13
      refine r_ldc2 C dX1_digestFrom_56 q_945 ?_
      refine r_lload_n C dX1_digestFrom_59 rfl 1 rfl ?_
      refine r_lmul C dX1_digestFrom_60 ?_
      refine r_aload_n C dX1_digestFrom_61 rfl 0 rfl ?_
      refine r_iload C dX1_digestFrom_62 2 rfl ?_
      refine r_iload C dX1_digestFrom_64 3 rfl ?_
      obtain ⟨r_14, er_14, h⟩ := bdE h
      refine kX1_174 C (m_X1_lifeFigure er_14) (by decide) (Nat.le_of_ble_eq_true rfl) dX1_digestFrom_66 ?_
      refine r_i2l C dX1_digestFrom_69 ?_
      refine r_ladd C dX1_digestFrom_70 ?_
      refine r_lstore_n C dX1_digestFrom_71 rfl (Nat.le_of_ble_eq_true rfl) (L' := [(3, _), (0, _), (5, _), (6, _)]) rfl ?_
      refine r_iinc (v := v6_12 + 1) C dX1_digestFrom_72 (j := 3) rfl rfl (Nat.le_of_ble_eq_true rfl) (L' := [(6, _), (3, _), (0, _), (5, _)]) rfl ?_
      refine r_goto (tgt := 50) C dX1_digestFrom_75 (by decide) ?_
      refine r_sub [2, 1, 3, 0] rfl ?_
      exact ih _ _ h
set_option maxHeartbeats 4000000 in
set_option maxRecDepth 100000 in
theorem t_X1_digestFrom_L38 {x : Ctx} {w : Wp}  {s0 : St} {z : Int64}  {K84 : Int64 → Option (Int64)} (hK84 : ∀ (u3_17 : Int64), K84 u3_17 = some z → V x WC w 7 (QM x WC w (some (.long z)) s0) s0 84 [(0, .ref (wa w 3 0)), (3, .long u3_17)] []) (C : Cx x WC w cX1_digestFrom 7 RX1 2 (some .long)) : ∀ (n : Nat) (v3_7 : Int64) (v5_8 : Int32), Bk_digestFrom_L38 K84 s0 n v3_7 v5_8 = some z → V x WC w 7 (QM x WC w (some (.long z)) s0) s0 38 [(0, .ref (wa w 3 0)), (3, .long v3_7), (5, .int v5_8)] [] := by
  intro n
  induction n with
  | zero => intro v3_7 v5_8 h; cases h
  | succ n ih =>
    intro v3_7 v5_8 h
    unfold Bk_digestFrom_L38 at h
    refine r_iload C dX1_digestFrom_38 2 rfl ?_
    refine r_aload_n C dX1_digestFrom_40 rfl 0 rfl ?_
    refine gfX1_41 C dX1_digestFrom_41 ?_
    refine r_icmp_ge (tgt := 84) C dX1_digestFrom_44 (by decide) (fun c_9 => ?_) (fun c_9 => ?_)
    · have h := ip h c_9
      refine r_sub [0, 1] rfl ?_
      exact hK84 _ h
    · have h := iq h c_9
      refine r_iconst (v := 0) C dX1_digestFrom_47 (by decide) ?_
      refine r_istore C dX1_digestFrom_48 (Nat.le_of_ble_eq_true rfl) (L' := [(6, _), (0, _), (3, _), (5, _)]) rfl ?_
      refine r_sub [1, 2, 3, 0] rfl ?_
      refine t_X1_digestFrom_L50 (fun v3_16 h => ?_) C _ _ _ h
      refine r_iinc (v := v5_8 + 1) C dX1_digestFrom_78 (j := 2) rfl rfl (Nat.le_of_ble_eq_true rfl) (L' := [(5, _), (0, _), (3, _)]) rfl ?_
      refine r_goto (tgt := 38) C dX1_digestFrom_81 (by decide) ?_
      refine r_sub [1, 2, 0] rfl ?_
      exact ih _ _ h
set_option maxHeartbeats 4000000 in
set_option maxRecDepth 100000 in
theorem t_X1_digestFrom_L99 {x : Ctx} {w : Wp} {v5_23 : Int32} {s0 : St} {z : Int64}  {K131 : Int64 → Option (Int64)} (hK131 : ∀ (u3_27 : Int64), K131 u3_27 = some z → V x WC w 7 (QM x WC w (some (.long z)) s0) s0 131 [(0, .ref (wa w 3 0)), (3, .long u3_27), (5, .int v5_23)] []) (C : Cx x WC w cX1_digestFrom 7 RX1 2 (some .long)) : ∀ (n : Nat) (v3_22 : Int64) (v6_24 : Int32), Bk_digestFrom_L99 K131 v5_23 s0 n v3_22 v6_24 = some z → V x WC w 7 (QM x WC w (some (.long z)) s0) s0 99 [(0, .ref (wa w 3 0)), (3, .long v3_22), (5, .int v5_23), (6, .int v6_24)] [] := by
  intro n
  induction n with
  | zero => intro v3_22 v6_24 h; cases h
  | succ n ih =>
    intro v3_22 v6_24 h
    unfold Bk_digestFrom_L99 at h
    refine r_iload C dX1_digestFrom_99 3 rfl ?_
    refine r_iconst (v := 5) C dX1_digestFrom_101 (by decide) ?_
    refine r_icmp_ge (tgt := 131) C dX1_digestFrom_102 (by decide) (fun c_25 => ?_) (fun c_25 => ?_)
    · have h := ip h c_25
      refine r_sub [0, 1, 2] rfl ?_
      exact hK131 _ h
    · have h := iq h c_25
      refine r_ldc2 C dX1_digestFrom_105 q_945 ?_
      refine r_lload_n C dX1_digestFrom_108 rfl 1 rfl ?_
      refine r_lmul C dX1_digestFrom_109 ?_
      refine r_aload_n C dX1_digestFrom_110 rfl 0 rfl ?_
      refine gfX1_46 C dX1_digestFrom_111 ?_
      refine r_iload C dX1_digestFrom_114 2 rfl ?_
      obtain ⟨g_26, h⟩ := gdE h
      refine la_16 C g_26 dX1_digestFrom_116 ?_
      refine r_iload C dX1_digestFrom_117 3 rfl ?_
      refine kX1_177 C (inb_lt g_26) (m_X9_figure (inb_lt g_26) rfl) (by decide) (Nat.le_of_ble_eq_true rfl) dX1_digestFrom_119 ?_
      refine r_i2l C dX1_digestFrom_122 ?_
      refine r_ladd C dX1_digestFrom_123 ?_
      refine r_lstore_n C dX1_digestFrom_124 rfl (Nat.le_of_ble_eq_true rfl) (L' := [(3, _), (0, _), (5, _), (6, _)]) rfl ?_
      refine r_iinc (v := v6_24 + 1) C dX1_digestFrom_125 (j := 3) rfl rfl (Nat.le_of_ble_eq_true rfl) (L' := [(6, _), (3, _), (0, _), (5, _)]) rfl ?_
      refine r_goto (tgt := 99) C dX1_digestFrom_128 (by decide) ?_
      refine r_sub [2, 1, 3, 0] rfl ?_
      exact ih _ _ h
set_option maxHeartbeats 4000000 in
set_option maxRecDepth 100000 in
theorem t_X1_digestFrom_L134 {x : Ctx} {w : Wp} {v5_30 : Int32} {s0 : St} {z : Int64}  {K167 : Int64 → Option (Int64)} (hK167 : ∀ (u3_35 : Int64), K167 u3_35 = some z → V x WC w 7 (QM x WC w (some (.long z)) s0) s0 167 [(0, .ref (wa w 3 0)), (3, .long u3_35), (5, .int v5_30)] []) (C : Cx x WC w cX1_digestFrom 7 RX1 2 (some .long)) : ∀ (n : Nat) (v3_29 : Int64) (v6_31 : Int32), Bk_digestFrom_L134 K167 v5_30 s0 n v3_29 v6_31 = some z → V x WC w 7 (QM x WC w (some (.long z)) s0) s0 134 [(0, .ref (wa w 3 0)), (3, .long v3_29), (5, .int v5_30), (6, .int v6_31)] [] := by
  intro n
  induction n with
  | zero => intro v3_29 v6_31 h; cases h
  | succ n ih =>
    intro v3_29 v6_31 h
    unfold Bk_digestFrom_L134 at h
    refine r_iload C dX1_digestFrom_134 3 rfl ?_
    refine r_iconst (v := 5) C dX1_digestFrom_136 (by decide) ?_
    refine r_icmp_ge (tgt := 167) C dX1_digestFrom_137 (by decide) (fun c_32 => ?_) (fun c_32 => ?_)
    · have h := ip h c_32
      refine r_sub [0, 1, 2] rfl ?_
      exact hK167 _ h
    · have h := iq h c_32
      refine r_ldc2 C dX1_digestFrom_140 q_945 ?_
      refine r_lload_n C dX1_digestFrom_143 rfl 1 rfl ?_
      refine r_lmul C dX1_digestFrom_144 ?_
      refine r_aload_n C dX1_digestFrom_145 rfl 0 rfl ?_
      refine gfX1_46 C dX1_digestFrom_146 ?_
      refine r_iload C dX1_digestFrom_149 2 rfl ?_
      obtain ⟨g_33, h⟩ := gdE h
      refine la_16 C g_33 dX1_digestFrom_151 ?_
      refine gfX1_180 C (inb_lt g_33) dX1_digestFrom_152 ?_
      refine r_iload C dX1_digestFrom_155 3 rfl ?_
      obtain ⟨g_34, h⟩ := gdE h
      refine ldC_27 C (inb_lt g_33) g_34 dX1_digestFrom_157 ?_
      refine r_i2l C dX1_digestFrom_158 ?_
      refine r_ladd C dX1_digestFrom_159 ?_
      refine r_lstore_n C dX1_digestFrom_160 rfl (Nat.le_of_ble_eq_true rfl) (L' := [(3, _), (0, _), (5, _), (6, _)]) rfl ?_
      refine r_iinc (v := v6_31 + 1) C dX1_digestFrom_161 (j := 3) rfl rfl (Nat.le_of_ble_eq_true rfl) (L' := [(6, _), (3, _), (0, _), (5, _)]) rfl ?_
      refine r_goto (tgt := 134) C dX1_digestFrom_164 (by decide) ?_
      refine r_sub [2, 1, 3, 0] rfl ?_
      exact ih _ _ h
set_option maxHeartbeats 4000000 in
set_option maxRecDepth 100000 in
theorem t_X1_digestFrom_L87 {x : Ctx} {w : Wp}  {s0 : St} {z : Int64}  {K173 : Int64 → Option (Int64)} (hK173 : ∀ (u3_37 : Int64), K173 u3_37 = some z → V x WC w 7 (QM x WC w (some (.long z)) s0) s0 173 [(0, .ref (wa w 3 0)), (3, .long u3_37)] []) (C : Cx x WC w cX1_digestFrom 7 RX1 2 (some .long)) : ∀ (n : Nat) (v3_19 : Int64) (v5_20 : Int32), Bk_digestFrom_L87 K173 s0 n v3_19 v5_20 = some z → V x WC w 7 (QM x WC w (some (.long z)) s0) s0 87 [(0, .ref (wa w 3 0)), (3, .long v3_19), (5, .int v5_20)] [] := by
  intro n
  induction n with
  | zero => intro v3_19 v5_20 h; cases h
  | succ n ih =>
    intro v3_19 v5_20 h
    unfold Bk_digestFrom_L87 at h
    refine r_iload C dX1_digestFrom_87 2 rfl ?_
    refine r_aload_n C dX1_digestFrom_89 rfl 0 rfl ?_
    refine gfX1_50 C dX1_digestFrom_90 ?_
    refine r_icmp_ge (tgt := 173) C dX1_digestFrom_93 (by decide) (fun c_21 => ?_) (fun c_21 => ?_)
    · have h := ip h c_21
      refine r_sub [0, 1] rfl ?_
      exact hK173 _ h
    · have h := iq h c_21
      refine r_iconst (v := 0) C dX1_digestFrom_96 (by decide) ?_
      refine r_istore C dX1_digestFrom_97 (Nat.le_of_ble_eq_true rfl) (L' := [(6, _), (0, _), (3, _), (5, _)]) rfl ?_
      refine r_sub [1, 2, 3, 0] rfl ?_
      refine t_X1_digestFrom_L99 (fun v3_28 h => ?_) C _ _ _ h
      refine r_iconst (v := 0) C dX1_digestFrom_131 (by decide) ?_
      refine r_istore C dX1_digestFrom_132 (Nat.le_of_ble_eq_true rfl) (L' := [(6, _), (0, _), (3, _), (5, _)]) rfl ?_
      refine r_sub [1, 2, 3, 0] rfl ?_
      refine t_X1_digestFrom_L134 (fun v3_36 h => ?_) C _ _ _ h
      refine r_iinc (v := v5_20 + 1) C dX1_digestFrom_167 (j := 2) rfl rfl (Nat.le_of_ble_eq_true rfl) (L' := [(5, _), (0, _), (3, _)]) rfl ?_
      refine r_goto (tgt := 87) C dX1_digestFrom_170 (by decide) ?_
      refine r_sub [1, 2, 0] rfl ?_
      exact ih _ _ h
set_option maxHeartbeats 4000000 in
set_option maxRecDepth 100000 in
theorem m_X1_digestFrom {l : Launch} {w : Wp} {v1 : Int64}  {s0 : St} {z : Int64} (h : Bk_digestFrom v1 s0 = some z) : Cm l yX1_digestFrom (.code yX1_digestFrom cX1_digestFrom 7 (some .long)) 2 WC w [.ref (wa w 3 0), .long v1] s0 (some (.long z)) s0 := by
  refine Cm.of (own := RX1) (by decide +kernel) rfl (Nat.le_of_ble_eq_true rfl) (L := [(0, .ref (wa w 3 0)), (1, .long v1)]) rfl KoC (fun x hl C => ?_)
  subst hl
  unfold Bk_digestFrom at h
  refine r_lload_n C dX1_digestFrom_0 rfl 1 rfl ?_
  refine r_lstore_n C dX1_digestFrom_1 rfl (Nat.le_of_ble_eq_true rfl) (L' := [(3, _), (0, _), (1, _)]) rfl ?_
  refine r_iconst (v := 0) C dX1_digestFrom_2 (by decide) ?_
  refine r_istore C dX1_digestFrom_3 (Nat.le_of_ble_eq_true rfl) (L' := [(5, _), (3, _), (0, _), (1, _)]) rfl ?_
  refine r_sub [2, 1, 0] rfl ?_
  refine t_X1_digestFrom_L5 (fun v3_6 h => ?_) C _ _ _ h
  refine r_iconst (v := 0) C dX1_digestFrom_35 (by decide) ?_
  refine r_istore C dX1_digestFrom_36 (Nat.le_of_ble_eq_true rfl) (L' := [(5, _), (0, _), (3, _)]) rfl ?_
  refine r_sub [1, 2, 0] rfl ?_
  refine t_X1_digestFrom_L38 (fun v3_18 h => ?_) C _ _ _ h
  refine r_iconst (v := 0) C dX1_digestFrom_84 (by decide) ?_
  refine r_istore C dX1_digestFrom_85 (Nat.le_of_ble_eq_true rfl) (L' := [(5, _), (0, _), (3, _)]) rfl ?_
  refine r_sub [1, 2, 0] rfl ?_
  refine t_X1_digestFrom_L87 (fun v3_38 h => ?_) C _ _ _ h
  refine r_ldc2 C dX1_digestFrom_173 q_945 ?_
  refine r_lload_n C dX1_digestFrom_176 rfl 1 rfl ?_
  refine r_lmul C dX1_digestFrom_177 ?_
  refine r_aload_n C dX1_digestFrom_178 rfl 0 rfl ?_
  refine gfX1_23 C dX1_digestFrom_179 ?_
  refine gfX1_106 C dX1_digestFrom_182 ?_
  refine r_i2l C dX1_digestFrom_185 ?_
  refine r_ladd C dX1_digestFrom_186 ?_
  refine r_lstore_n C dX1_digestFrom_187 rfl (Nat.le_of_ble_eq_true rfl) (L' := [(3, _), (0, _)]) rfl ?_
  refine r_ldc2 C dX1_digestFrom_188 q_945 ?_
  refine r_lload_n C dX1_digestFrom_191 rfl 0 rfl ?_
  refine r_lmul C dX1_digestFrom_192 ?_
  refine r_aload_n C dX1_digestFrom_193 rfl 1 rfl ?_
  refine gfX1_23 C dX1_digestFrom_194 ?_
  refine gfX1_109 C dX1_digestFrom_197 ?_
  refine r_i2l C dX1_digestFrom_200 ?_
  refine r_ladd C dX1_digestFrom_201 ?_
  refine r_lstore_n C dX1_digestFrom_202 rfl (Nat.le_of_ble_eq_true rfl) (L' := [(3, _), (0, _)]) rfl ?_
  refine r_ldc2 C dX1_digestFrom_203 q_945 ?_
  refine r_lload_n C dX1_digestFrom_206 rfl 0 rfl ?_
  refine r_lmul C dX1_digestFrom_207 ?_
  refine r_aload_n C dX1_digestFrom_208 rfl 1 rfl ?_
  refine gfX1_23 C dX1_digestFrom_209 ?_
  refine gfX1_112 C dX1_digestFrom_212 ?_
  refine r_i2l C dX1_digestFrom_215 ?_
  refine r_ladd C dX1_digestFrom_216 ?_
  cases h
  exact r_lret C dX1_digestFrom_217
