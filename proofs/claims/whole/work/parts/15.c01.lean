def Int_bitCount (v0 : Int32) : Int32 :=
  (((((((v0 - ((ush v0 1) &&& 1431655765)) &&& 858993459) + ((ush (v0 - ((ush v0 1) &&& 1431655765)) 2) &&& 858993459)) + (ush (((v0 - ((ush v0 1) &&& 1431655765)) &&& 858993459) + ((ush (v0 - ((ush v0 1) &&& 1431655765)) 2) &&& 858993459)) 4)) &&& 252645135) + (ush (((((v0 - ((ush v0 1) &&& 1431655765)) &&& 858993459) + ((ush (v0 - ((ush v0 1) &&& 1431655765)) 2) &&& 858993459)) + (ush (((v0 - ((ush v0 1) &&& 1431655765)) &&& 858993459) + ((ush (v0 - ((ush v0 1) &&& 1431655765)) 2) &&& 858993459)) 4)) &&& 252645135) 8)) + (ush ((((((v0 - ((ush v0 1) &&& 1431655765)) &&& 858993459) + ((ush (v0 - ((ush v0 1) &&& 1431655765)) 2) &&& 858993459)) + (ush (((v0 - ((ush v0 1) &&& 1431655765)) &&& 858993459) + ((ush (v0 - ((ush v0 1) &&& 1431655765)) 2) &&& 858993459)) 4)) &&& 252645135) + (ush (((((v0 - ((ush v0 1) &&& 1431655765)) &&& 858993459) + ((ush (v0 - ((ush v0 1) &&& 1431655765)) 2) &&& 858993459)) + (ush (((v0 - ((ush v0 1) &&& 1431655765)) &&& 858993459) + ((ush (v0 - ((ush v0 1) &&& 1431655765)) 2) &&& 858993459)) 4)) &&& 252645135) 8)) 16)) &&& 63
set_option maxHeartbeats 4000000 in
set_option maxRecDepth 100000 in
theorem m_J6_bitCount_0f7a4 {l : Launch} {w : Wp} {v0 : Int32}  {s0 : St} {z : Int32} (h : Int_bitCount v0 = z) : Cm l yJ6_bitCount_0f7a4 (.code yJ6_bitCount_0f7a4 cJ6_bitCount_0f7a4 1 (some .int)) 0 WC w [.int v0] s0 (some (.int z)) s0 := by
  refine Cm.of (own := RJ6) (by decide +kernel) rfl (Nat.le_of_ble_eq_true rfl) (L := [(0, .int v0)]) rfl KoC (fun x hl C => ?_)
  subst hl
  unfold Int_bitCount at h
  refine r_iload_n C dJ6_bitCount_0f7a4_0 rfl 0 rfl ?_
  refine r_iload_n C dJ6_bitCount_0f7a4_1 rfl 0 rfl ?_
  refine r_iconst (v := 1) C dJ6_bitCount_0f7a4_2 (by decide) ?_
  refine r_iushr (v := ush v0 1) C dJ6_bitCount_0f7a4_3 rfl ?_
  refine r_ldcw C dJ6_bitCount_0f7a4_4 q_628 ?_
  refine r_iand C dJ6_bitCount_0f7a4_7 ?_
  refine r_isub C dJ6_bitCount_0f7a4_8 ?_
  refine r_istore_n C dJ6_bitCount_0f7a4_9 rfl (Nat.le_of_ble_eq_true rfl) (L' := [(0, _)]) rfl ?_
  refine r_iload_n C dJ6_bitCount_0f7a4_10 rfl 0 rfl ?_
  refine r_ldcw C dJ6_bitCount_0f7a4_11 q_629 ?_
  refine r_iand C dJ6_bitCount_0f7a4_14 ?_
  refine r_iload_n C dJ6_bitCount_0f7a4_15 rfl 0 rfl ?_
  refine r_iconst (v := 2) C dJ6_bitCount_0f7a4_16 (by decide) ?_
  refine r_iushr (v := ush (v0 - ((ush v0 1) &&& 1431655765)) 2) C dJ6_bitCount_0f7a4_17 rfl ?_
  refine r_ldcw C dJ6_bitCount_0f7a4_18 q_629 ?_
  refine r_iand C dJ6_bitCount_0f7a4_21 ?_
  refine r_iadd C dJ6_bitCount_0f7a4_22 ?_
  refine r_istore_n C dJ6_bitCount_0f7a4_23 rfl (Nat.le_of_ble_eq_true rfl) (L' := [(0, _)]) rfl ?_
  refine r_iload_n C dJ6_bitCount_0f7a4_24 rfl 0 rfl ?_
  refine r_iload_n C dJ6_bitCount_0f7a4_25 rfl 0 rfl ?_
  refine r_iconst (v := 4) C dJ6_bitCount_0f7a4_26 (by decide) ?_
  refine r_iushr (v := ush (((v0 - ((ush v0 1) &&& 1431655765)) &&& 858993459) + ((ush (v0 - ((ush v0 1) &&& 1431655765)) 2) &&& 858993459)) 4) C dJ6_bitCount_0f7a4_27 rfl ?_
  refine r_iadd C dJ6_bitCount_0f7a4_28 ?_
  refine r_ldcw C dJ6_bitCount_0f7a4_29 q_630 ?_
  refine r_iand C dJ6_bitCount_0f7a4_32 ?_
  refine r_istore_n C dJ6_bitCount_0f7a4_33 rfl (Nat.le_of_ble_eq_true rfl) (L' := [(0, _)]) rfl ?_
  refine r_iload_n C dJ6_bitCount_0f7a4_34 rfl 0 rfl ?_
  refine r_iload_n C dJ6_bitCount_0f7a4_35 rfl 0 rfl ?_
  refine r_bipush (v := 8) C dJ6_bitCount_0f7a4_36 (by decide) ?_
  refine r_iushr (v := ush (((((v0 - ((ush v0 1) &&& 1431655765)) &&& 858993459) + ((ush (v0 - ((ush v0 1) &&& 1431655765)) 2) &&& 858993459)) + (ush (((v0 - ((ush v0 1) &&& 1431655765)) &&& 858993459) + ((ush (v0 - ((ush v0 1) &&& 1431655765)) 2) &&& 858993459)) 4)) &&& 252645135) 8) C dJ6_bitCount_0f7a4_38 rfl ?_
  refine r_iadd C dJ6_bitCount_0f7a4_39 ?_
  refine r_istore_n C dJ6_bitCount_0f7a4_40 rfl (Nat.le_of_ble_eq_true rfl) (L' := [(0, _)]) rfl ?_
  refine r_iload_n C dJ6_bitCount_0f7a4_41 rfl 0 rfl ?_
  refine r_iload_n C dJ6_bitCount_0f7a4_42 rfl 0 rfl ?_
  refine r_bipush (v := 16) C dJ6_bitCount_0f7a4_43 (by decide) ?_
  refine r_iushr (v := ush ((((((v0 - ((ush v0 1) &&& 1431655765)) &&& 858993459) + ((ush (v0 - ((ush v0 1) &&& 1431655765)) 2) &&& 858993459)) + (ush (((v0 - ((ush v0 1) &&& 1431655765)) &&& 858993459) + ((ush (v0 - ((ush v0 1) &&& 1431655765)) 2) &&& 858993459)) 4)) &&& 252645135) + (ush (((((v0 - ((ush v0 1) &&& 1431655765)) &&& 858993459) + ((ush (v0 - ((ush v0 1) &&& 1431655765)) 2) &&& 858993459)) + (ush (((v0 - ((ush v0 1) &&& 1431655765)) &&& 858993459) + ((ush (v0 - ((ush v0 1) &&& 1431655765)) 2) &&& 858993459)) 4)) &&& 252645135) 8)) 16) C dJ6_bitCount_0f7a4_45 rfl ?_
  refine r_iadd C dJ6_bitCount_0f7a4_46 ?_
  refine r_istore_n C dJ6_bitCount_0f7a4_47 rfl (Nat.le_of_ble_eq_true rfl) (L' := [(0, _)]) rfl ?_
  refine r_iload_n C dJ6_bitCount_0f7a4_48 rfl 0 rfl ?_
  refine r_bipush (v := 63) C dJ6_bitCount_0f7a4_49 (by decide) ?_
  refine r_iand C dJ6_bitCount_0f7a4_51 ?_
  subst h
  exact r_iret C dJ6_bitCount_0f7a4_52
def Bn_sumOf (v1 : Int32) (s0 : St) : Int32 :=
  ((imin (s0.1 10 0 0) (s0.1 10 0 1)) * (Int_bitCount (v1 &&& 511))) + (((s0.1 10 0 1) - (imin (s0.1 10 0 0) (s0.1 10 0 1))) * (Int_bitCount (ush v1 9)))
set_option maxHeartbeats 4000000 in
set_option maxRecDepth 100000 in
theorem m_X0_sumOf {l : Launch} {w : Wp} {v1 : Int32}  {s0 : St} {z : Int32} (h : Bn_sumOf v1 s0 = z) : Cm l yX0_sumOf (.code yX0_sumOf cX0_sumOf 5 (some .int)) 1 WC w [.ref (wa w 10 0), .int v1] s0 (some (.int z)) s0 := by
  refine Cm.of (own := RX0) (by decide +kernel) rfl (Nat.le_of_ble_eq_true rfl) (L := [(0, .ref (wa w 10 0)), (1, .int v1)]) rfl KoC (fun x hl C => ?_)
  subst hl
  unfold Bn_sumOf at h
  refine r_aload_n C dX0_sumOf_0 rfl 0 rfl ?_
  refine gfX0_9 C dX0_sumOf_1 ?_
  refine r_aload_n C dX0_sumOf_4 rfl 0 rfl ?_
  refine gfX0_15 C dX0_sumOf_5 ?_
  refine r_mmin C q_622 q_623 q_16 q_624 (Nat.le_of_ble_eq_true rfl) dX0_sumOf_8 ?_
  refine r_istore_n C dX0_sumOf_11 rfl (Nat.le_of_ble_eq_true rfl) (L' := [(2, _), (0, _), (1, _)]) rfl ?_
  refine r_iload_n C dX0_sumOf_12 rfl 2 rfl ?_
  refine r_sipush (v := 511) C dX0_sumOf_13 (by decide) ?_
  refine r_iand C dX0_sumOf_16 ?_
  refine kX0_56 C (m_J6_bitCount_0f7a4 rfl) (by decide) (Nat.le_of_ble_eq_true rfl) dX0_sumOf_17 ?_
  refine r_istore_n C dX0_sumOf_20 rfl (Nat.le_of_ble_eq_true rfl) (L' := [(3, _), (2, _), (0, _), (1, _)]) rfl ?_
  refine r_iload_n C dX0_sumOf_21 rfl 3 rfl ?_
  refine r_bipush (v := 9) C dX0_sumOf_22 (by decide) ?_
  refine r_iushr (v := ush v1 9) C dX0_sumOf_24 rfl ?_
  refine kX0_56 C (m_J6_bitCount_0f7a4 rfl) (by decide) (Nat.le_of_ble_eq_true rfl) dX0_sumOf_25 ?_
  refine r_istore C dX0_sumOf_28 (Nat.le_of_ble_eq_true rfl) (L' := [(4, _), (3, _), (2, _), (0, _), (1, _)]) rfl ?_
  refine r_iload_n C dX0_sumOf_30 rfl 2 rfl ?_
  refine r_iload_n C dX0_sumOf_31 rfl 1 rfl ?_
  refine r_imul C dX0_sumOf_32 ?_
  refine r_aload_n C dX0_sumOf_33 rfl 3 rfl ?_
  refine gfX0_15 C dX0_sumOf_34 ?_
  refine r_iload_n C dX0_sumOf_37 rfl 2 rfl ?_
  refine r_isub C dX0_sumOf_38 ?_
  refine r_iload C dX0_sumOf_39 0 rfl ?_
  refine r_imul C dX0_sumOf_41 ?_
  refine r_iadd C dX0_sumOf_42 ?_
  subst h
  exact r_iret C dX0_sumOf_43
def Ru_looksAt (v1 : Int32) (v2 : Int32) (s0 : St) : Option (Int32) :=
  if v2 = (-9) then (some 1) else (if inb v1 244 = true then some (if ((ush (s0.1 9 0 v1.toNatClampNeg) v2) &&& 1) = 1 then 1 else 0 : Int32) else none)
set_option maxHeartbeats 4000000 in
set_option maxRecDepth 100000 in
theorem m_X8_looksAt {l : Launch} {w : Wp} {v1 : Int32} {v2 : Int32}  {s0 : St} {z : Int32} (h : Ru_looksAt v1 v2 s0 = some z) : Cm l yX8_looksAt (.code yX8_looksAt cX8_looksAt 3 (some .boolean)) 0 WC w [.ref (wa w 7 0), .int v1, .int v2] s0 (some (.int z)) s0 := by
  refine Cm.of (own := RX8) (by decide +kernel) rfl (Nat.le_of_ble_eq_true rfl) (L := [(0, .ref (wa w 7 0)), (1, .int v1), (2, .int v2)]) rfl KoC (fun x hl C => ?_)
  subst hl
  unfold Ru_looksAt at h
  refine r_iload_n C dX8_looksAt_0 rfl 2 rfl ?_
  refine r_bipush (v := (-9)) C dX8_looksAt_1 (by decide) ?_
  refine r_icmp_eq (tgt := 20) C dX8_looksAt_3 (by decide) (fun c_1 => ?_) (fun c_1 => ?_)
  · have h := ip h c_1
    refine r_iconst (v := 1) C dX8_looksAt_20 (by decide) ?_
    refine r_goto (tgt := 25) C dX8_looksAt_21 (by decide) ?_
    cases h
    exact r_zret C rfl dX8_looksAt_25
  · have h := iq h c_1
    refine r_aload_n C dX8_looksAt_6 rfl 0 rfl ?_
    refine gfX8_15 C dX8_looksAt_7 ?_
    refine r_iload_n C dX8_looksAt_10 rfl 1 rfl ?_
    obtain ⟨g_2, h⟩ := gdE h
    refine ldC_9 C g_2 dX8_looksAt_11 ?_
    refine r_iload_n C dX8_looksAt_12 rfl 2 rfl ?_
    refine r_iushr (v := ush (s0.1 9 0 v1.toNatClampNeg) v2) C dX8_looksAt_13 rfl ?_
    refine r_iconst (v := 1) C dX8_looksAt_14 (by decide) ?_
    refine r_iand C dX8_looksAt_15 ?_
    refine r_iconst (v := 1) C dX8_looksAt_16 (by decide) ?_
    refine r_em (st := []) 25 ((if ((ush (s0.1 9 0 v1.toNatClampNeg) v2) &&& 1) = 1 then 1 else 0 : Int32)) (fun hM_4 => ?_) ?_
    · refine r_icmp_ne (tgt := 24) C dX8_looksAt_17 (by decide) (fun c_3 => ?_) (fun c_3 => ?_)
      · refine r_iconst (v := 0) C dX8_looksAt_24 (by decide) ?_
        exact (em_neg c_3 hM_4)
      · refine r_iconst (v := 1) C dX8_looksAt_20 (by decide) ?_
        refine r_goto (tgt := 25) C dX8_looksAt_21 (by decide) ?_
        exact (em_pos c_3 hM_4)
    cases h
    exact r_zret C (nb_ite rfl rfl) dX8_looksAt_25
def Ru_verdict (v1 : Int32) (v2 : Int32) (s0 : St) : Option (Int32) :=
  if inb v1 244 = true then some ((ush (s0.1 8 0 v1.toNatClampNeg) v2) &&& 1) else none
set_option maxHeartbeats 4000000 in
set_option maxRecDepth 100000 in
theorem m_X8_verdict {l : Launch} {w : Wp} {v1 : Int32} {v2 : Int32}  {s0 : St} {z : Int32} (h : Ru_verdict v1 v2 s0 = some z) : Cm l yX8_verdict (.code yX8_verdict cX8_verdict 3 (some .int)) 0 WC w [.ref (wa w 7 0), .int v1, .int v2] s0 (some (.int z)) s0 := by
  refine Cm.of (own := RX8) (by decide +kernel) rfl (Nat.le_of_ble_eq_true rfl) (L := [(0, .ref (wa w 7 0)), (1, .int v1), (2, .int v2)]) rfl KoC (fun x hl C => ?_)
  subst hl
  unfold Ru_verdict at h
  refine r_aload_n C dX8_verdict_0 rfl 0 rfl ?_
  refine gfX8_9 C dX8_verdict_1 ?_
  refine r_iload_n C dX8_verdict_4 rfl 1 rfl ?_
  obtain ⟨g_1, h⟩ := gdE h
  refine ldC_8 C g_1 dX8_verdict_5 ?_
  refine r_iload_n C dX8_verdict_6 rfl 2 rfl ?_
  refine r_iushr (v := ush (s0.1 8 0 v1.toNatClampNeg) v2) C dX8_verdict_7 rfl ?_
  refine r_iconst (v := 1) C dX8_verdict_8 (by decide) ?_
  refine r_iand C dX8_verdict_9 ?_
  cases h
  exact r_iret C dX8_verdict_10
def Ru_strain_L29  (v1_5 : Int32) (v2_6 : Int32) (v3_7 : Int32) (s0 : St) : Nat → Int32 → Option (Int32)
  | 0, _ => none
  | n + 1, v5_8 => if 5 ≤ v5_8 then (some 513) else (Option.bind (Ru_verdict v1_5 (v2_6 ^^^ (1 <<< (v5_8 &&& 31))) s0) (fun r_10 => if r_10 = v3_7 then (some 1) else ((Ru_strain_L29 v1_5 v2_6 v3_7 s0 n) (v5_8 + 1))))
def Ru_strain (v1 : Int32) (v2 : Int32) (v3 : Int32) (v4 : Int32) (s0 : St) : Option (Int32) :=
  Option.bind (Ru_looksAt v1 v4 s0) (fun r_1 => if r_1 = 0 then (some 513) else (Option.bind (Ru_verdict v1 v2 s0) (fun r_3 => if r_3 = v3 then (some 0) else (Ru_strain_L29 v1 v2 v3 s0 1100 0))))
set_option maxHeartbeats 4000000 in
set_option maxRecDepth 100000 in
theorem t_X8_strain_L29 {x : Ctx} {w : Wp} {v1_5 : Int32} {v2_6 : Int32} {v3_7 : Int32} {s0 : St} {z : Int32}    (C : Cx x WC w cX8_strain 6 RX8 1 (some .int)) : ∀ (n : Nat) (v5_8 : Int32), Ru_strain_L29 v1_5 v2_6 v3_7 s0 n v5_8 = some z → V x WC w 6 (QM x WC w (some (.int z)) s0) s0 29 [(0, .ref (wa w 7 0)), (1, .int v1_5), (2, .int v2_6), (3, .int v3_7), (5, .int v5_8)] [] := by
  intro n
  induction n with
  | zero => intro v5_8 h; cases h
  | succ n ih =>
    intro v5_8 h
    unfold Ru_strain_L29 at h
    refine r_iload C dX8_strain_29 4 rfl ?_
    refine r_iconst (v := 5) C dX8_strain_31 (by decide) ?_
    refine r_icmp_ge (tgt := 58) C dX8_strain_32 (by decide) (fun c_9 => ?_) (fun c_9 => ?_)
    · have h := ip h c_9
      refine r_sipush (v := 513) C dX8_strain_58 (by decide) ?_
      cases h
      exact r_iret C dX8_strain_61
    · have h := iq h c_9
      refine r_aload_n C dX8_strain_35 rfl 0 rfl ?_
      refine r_iload_n C dX8_strain_36 rfl 1 rfl ?_
      refine r_iload_n C dX8_strain_37 rfl 2 rfl ?_
      refine r_iconst (v := 1) C dX8_strain_38 (by decide) ?_
      refine r_iload C dX8_strain_39 4 rfl ?_
      refine r_ishl C dX8_strain_41 ?_
      refine r_ixor C dX8_strain_42 ?_
      obtain ⟨r_10, er_10, h⟩ := bdE h
      refine kX8_24 C (m_X8_verdict er_10) (by decide) (Nat.le_of_ble_eq_true rfl) dX8_strain_43 ?_
      refine r_iload_n C dX8_strain_46 rfl 3 rfl ?_
      refine r_icmp_ne (tgt := 52) C dX8_strain_47 (by decide) (fun c_11 => ?_) (fun c_11 => ?_)
      · have h := iq h c_11
        refine r_iinc (v := v5_8 + 1) C dX8_strain_52 (j := 4) rfl rfl (Nat.le_of_ble_eq_true rfl) (L' := [(5, _), (0, _), (1, _), (2, _), (3, _)]) rfl ?_
        refine r_goto (tgt := 29) C dX8_strain_55 (by decide) ?_
        refine r_sub [1, 2, 3, 4, 0] rfl ?_
        exact ih _ h
      · have h := ip h c_11
        refine r_iconst (v := 1) C dX8_strain_50 (by decide) ?_
        cases h
        exact r_iret C dX8_strain_51
set_option maxHeartbeats 4000000 in
set_option maxRecDepth 100000 in
theorem m_X8_strain {l : Launch} {w : Wp} {v1 : Int32} {v2 : Int32} {v3 : Int32} {v4 : Int32}  {s0 : St} {z : Int32} (h : Ru_strain v1 v2 v3 v4 s0 = some z) : Cm l yX8_strain (.code yX8_strain cX8_strain 6 (some .int)) 1 WC w [.ref (wa w 7 0), .int v1, .int v2, .int v3, .int v4] s0 (some (.int z)) s0 := by
  refine Cm.of (own := RX8) (by decide +kernel) rfl (Nat.le_of_ble_eq_true rfl) (L := [(0, .ref (wa w 7 0)), (1, .int v1), (2, .int v2), (3, .int v3), (4, .int v4)]) rfl KoC (fun x hl C => ?_)
  subst hl
  unfold Ru_strain at h
  refine r_aload_n C dX8_strain_0 rfl 0 rfl ?_
  refine r_iload_n C dX8_strain_1 rfl 1 rfl ?_
  refine r_iload C dX8_strain_2 4 rfl ?_
  obtain ⟨r_1, er_1, h⟩ := bdE h
  refine kX8_28 C (m_X8_looksAt er_1) (by decide) (Nat.le_of_ble_eq_true rfl) dX8_strain_4 ?_
  refine r_if_ne (tgt := 14) C dX8_strain_7 (by decide) (fun c_2 => ?_) (fun c_2 => ?_)
  · have h := iq h c_2
    refine r_aload_n C dX8_strain_14 rfl 0 rfl ?_
    refine r_iload_n C dX8_strain_15 rfl 1 rfl ?_
    refine r_iload_n C dX8_strain_16 rfl 2 rfl ?_
    obtain ⟨r_3, er_3, h⟩ := bdE h
    refine kX8_24 C (m_X8_verdict er_3) (by decide) (Nat.le_of_ble_eq_true rfl) dX8_strain_17 ?_
    refine r_iload_n C dX8_strain_20 rfl 3 rfl ?_
    refine r_icmp_ne (tgt := 26) C dX8_strain_21 (by decide) (fun c_4 => ?_) (fun c_4 => ?_)
    · have h := iq h c_4
      refine r_iconst (v := 0) C dX8_strain_26 (by decide) ?_
      refine r_istore C dX8_strain_27 (Nat.le_of_ble_eq_true rfl) (L' := [(5, _), (0, _), (1, _), (2, _), (3, _), (4, _)]) rfl ?_
      refine r_sub [1, 2, 3, 4, 0] rfl ?_
      exact t_X8_strain_L29 C _ _ h
    · have h := ip h c_4
      refine r_iconst (v := 0) C dX8_strain_24 (by decide) ?_
      cases h
      exact r_iret C dX8_strain_25
  · have h := ip h c_2
    refine r_sipush (v := 513) C dX8_strain_10 (by decide) ?_
    cases h
    exact r_iret C dX8_strain_13
def Bn_weigh_L43 (K91 : St → Option (St)) (n1_8 : Nat) (v4_9 : Int32) (n5_10 : Nat) (v6_11 : Int32) : Nat → Int32 → St → Option (St)
  | 0, _, _ => none
  | n + 1, v7_12, s_13 => if 244 ≤ v7_12 then (K91 s_13) else (if inb v7_12 244 = true then Option.bind (Ru_strain v7_12 v6_11 (s_13.1 26 n5_10 3) (s_13.1 26 n5_10 4) s_13) (fun r_16 => if inb v7_12 244 = true then (Bn_weigh_L43 K91 n1_8 v4_9 n5_10 v6_11 n) (v7_12 + 1) (sX s_13 12 0 v7_12.toNatClampNeg ((s_13.1 12 0 v7_12.toNatClampNeg) ||| (r_16 <<< (v4_9 &&& 31)))) else none) else none)
def Bn_weigh_L11 (K97 : St → Option (St)) (n1_1 : Nat) : Nat → Int32 → St → Option (St)
  | 0, _, _ => none
  | n + 1, v4_2, s_3 => if (s_3.1 22 n1_1 5) ≤ v4_2 then (K97 s_3) else (if inb v4_2 9 = true then if inb (s_3.1 23 n1_1 v4_2.toNatClampNeg) 24 = true then if inb (s_3.1 26 ((s_3.1 23 n1_1 v4_2.toNatClampNeg).toNatClampNeg) 1) 12 = true then Bn_weigh_L43 (fun (s_19 : St) => (Bn_weigh_L11 K97 n1_1 n) (v4_2 + 1) s_19) n1_1 v4_2 ((s_3.1 23 n1_1 v4_2.toNatClampNeg).toNatClampNeg) (s_3.1 14 0 ((s_3.1 26 ((s_3.1 23 n1_1 v4_2.toNatClampNeg).toNatClampNeg) 1).toNatClampNeg)) 1100 0 s_3 else none else none else none)
def Bn_weigh_J162 (B100 : Int32 → St → Option (St)) (v4_31 : Int32)  (s_32 : St) : Option (St) :=
  B100 (v4_31 + 1) s_32
def Bn_weigh_J145 (B100 : Int32 → St → Option (St)) (v4_28 : Int32)  (s_29 : St) : Option (St) :=
  if inb v4_28 244 = true then Bn_weigh_J162 B100 v4_28 (sX (sX s_29 10 0 4 (s_29.1 11 0 v4_28.toNatClampNeg)) 10 0 6 v4_28) else none
def Bn_weigh_L100 (K168 : St → Option (St))  : Nat → Int32 → St → Option (St)
  | 0, _, _ => none
  | n + 1, v4_22, s_23 => if 244 ≤ v4_22 then (K168 s_23) else (if inb v4_22 244 = true then if inb v4_22 244 = true then if v4_22 = 0 then (Bn_weigh_J145 (Bn_weigh_L100 K168 n) v4_22 (sX s_23 11 0 v4_22.toNatClampNeg (Bn_sumOf (s_23.1 12 0 v4_22.toNatClampNeg) s_23))) else (if inb v4_22 244 = true then if ((sX s_23 11 0 v4_22.toNatClampNeg (Bn_sumOf (s_23.1 12 0 v4_22.toNatClampNeg) s_23)).1 10 0 4) ≤ ((sX s_23 11 0 v4_22.toNatClampNeg (Bn_sumOf (s_23.1 12 0 v4_22.toNatClampNeg) s_23)).1 11 0 v4_22.toNatClampNeg) then (Bn_weigh_J162 (Bn_weigh_L100 K168 n) v4_22 (sX s_23 11 0 v4_22.toNatClampNeg (Bn_sumOf (s_23.1 12 0 v4_22.toNatClampNeg) s_23))) else (Bn_weigh_J145 (Bn_weigh_L100 K168 n) v4_22 (sX s_23 11 0 v4_22.toNatClampNeg (Bn_sumOf (s_23.1 12 0 v4_22.toNatClampNeg) s_23))) else none) else none else none)
def Bn_weigh (v1 : Nat) (s0 : St) : Option (St) :=
  Bn_weigh_L11 (fun (s_21 : St) => Bn_weigh_L100 (fun (s_40 : St) => some (sX (sX s_40 10 0 5 (s_40.1 10 0 4)) 10 0 7 (-9))) 1100 0 s_21) v1 1100 0 (fillR s0 12 0 244 0)
set_option maxHeartbeats 4000000 in
set_option maxRecDepth 100000 in
theorem t_X0_weigh_L43 {x : Ctx} {w : Wp} {n1_8 : Nat} {v4_9 : Int32} {n5_10 : Nat} {v6_11 : Int32} {z : St} (hn1_8 : n1_8 < 8) (hn5_10 : n5_10 < 24) {K91 : St → Option (St)} (hK91 : ∀ (s_18 : St), K91 s_18 = some z → V x WC w 8 (QM x WC w none z) s_18 91 [(0, .ref (wa w 10 0)), (1, .ref (wa w 22 n1_8)), (2, .ref (wa w 16 0)), (3, .ref (wa w 14 0)), (4, .int v4_9)] []) (C : Cx x WC w cX0_weigh 8 RX0 2 none) : ∀ (n : Nat) (v7_12 : Int32) (s_13 : St), Bn_weigh_L43 K91 n1_8 v4_9 n5_10 v6_11 n v7_12 s_13 = some z → V x WC w 8 (QM x WC w none z) s_13 43 [(0, .ref (wa w 10 0)), (1, .ref (wa w 22 n1_8)), (2, .ref (wa w 16 0)), (3, .ref (wa w 14 0)), (4, .int v4_9), (5, .ref (wa w 26 n5_10)), (6, .int v6_11), (7, .int v7_12)] [] := by
  intro n
  induction n with
  | zero => intro v7_12 s_13 h; cases h
  | succ n ih =>
    intro v7_12 s_13 h
    unfold Bn_weigh_L43 at h
    refine r_iload C dX0_weigh_43 7 rfl ?_
    refine r_sipush (v := 244) C dX0_weigh_45 (by decide) ?_
    refine r_icmp_ge (tgt := 91) C dX0_weigh_48 (by decide) (fun c_14 => ?_) (fun c_14 => ?_)
    · have h := ip h c_14
      refine r_sub [0, 1, 2, 3, 4] rfl ?_
      exact hK91 _ h
    · have h := iq h c_14
      refine r_aload_n C dX0_weigh_51 rfl 0 rfl ?_
      refine gfX0_40 C dX0_weigh_52 ?_
      refine r_iload C dX0_weigh_55 7 rfl ?_
      refine r_dup2 C dX0_weigh_57 rfl rfl ?_
      obtain ⟨g_15, h⟩ := gdE h
      refine ldC_12 C g_15 dX0_weigh_58 ?_
      refine r_aload_n C dX0_weigh_59 rfl 0 rfl ?_
      refine gfX0_46 C dX0_weigh_60 ?_
      refine r_iload C dX0_weigh_63 7 rfl ?_
      refine r_iload C dX0_weigh_65 6 rfl ?_
      refine r_aload C dX0_weigh_67 5 rfl ?_
      refine gfX0_81 C hn5_10 dX0_weigh_69 ?_
      refine r_aload C dX0_weigh_72 5 rfl ?_
      refine gfX0_84 C hn5_10 dX0_weigh_74 ?_
      obtain ⟨r_16, er_16, h⟩ := bdE h
      refine kX0_87 C (m_X8_strain er_16) (by decide) (Nat.le_of_ble_eq_true rfl) dX0_weigh_77 ?_
      refine r_iload C dX0_weigh_80 4 rfl ?_
      refine r_ishl C dX0_weigh_82 ?_
      refine r_ior C dX0_weigh_83 ?_
      obtain ⟨g_17, h⟩ := gdE h
      refine stC_12 C g_17 dX0_weigh_84 ?_
      refine r_iinc (v := v7_12 + 1) C dX0_weigh_85 (j := 7) rfl rfl (Nat.le_of_ble_eq_true rfl) (L' := [(7, _), (0, _), (1, _), (2, _), (3, _), (4, _), (5, _), (6, _)]) rfl ?_
      refine r_goto (tgt := 43) C dX0_weigh_88 (by decide) ?_
      refine r_sub [1, 2, 3, 4, 5, 6, 7, 0] rfl ?_
      exact ih _ _ h
set_option maxHeartbeats 4000000 in
set_option maxRecDepth 100000 in
theorem t_X0_weigh_L11 {x : Ctx} {w : Wp} {n1_1 : Nat} {z : St} (hn1_1 : n1_1 < 8) {K97 : St → Option (St)} (hK97 : ∀ (s_20 : St), K97 s_20 = some z → V x WC w 8 (QM x WC w none z) s_20 97 [(0, .ref (wa w 10 0))] []) (C : Cx x WC w cX0_weigh 8 RX0 2 none) : ∀ (n : Nat) (v4_2 : Int32) (s_3 : St), Bn_weigh_L11 K97 n1_1 n v4_2 s_3 = some z → V x WC w 8 (QM x WC w none z) s_3 11 [(0, .ref (wa w 10 0)), (1, .ref (wa w 22 n1_1)), (2, .ref (wa w 16 0)), (3, .ref (wa w 14 0)), (4, .int v4_2)] [] := by
  intro n
  induction n with
  | zero => intro v4_2 s_3 h; cases h
  | succ n ih =>
    intro v4_2 s_3 h
    unfold Bn_weigh_L11 at h
    refine r_iload C dX0_weigh_11 4 rfl ?_
    refine r_aload_n C dX0_weigh_13 rfl 1 rfl ?_
    refine gfX0_68 C hn1_1 dX0_weigh_14 ?_
    refine r_icmp_ge (tgt := 97) C dX0_weigh_17 (by decide) (fun c_4 => ?_) (fun c_4 => ?_)
    · have h := ip h c_4
      refine r_sub [0] rfl ?_
      exact hK97 _ h
    · have h := iq h c_4
      refine r_aload_n C dX0_weigh_20 rfl 2 rfl ?_
      refine r_aload_n C dX0_weigh_21 rfl 1 rfl ?_
      refine gfX0_73 C hn1_1 dX0_weigh_22 ?_
      refine r_iload C dX0_weigh_25 4 rfl ?_
      obtain ⟨g_5, h⟩ := gdE h
      refine ldC_23 C hn1_1 g_5 dX0_weigh_27 ?_
      obtain ⟨g_6, h⟩ := gdE h
      refine la_16 C g_6 dX0_weigh_28 ?_
      refine r_astore C dX0_weigh_29 (Nat.le_of_ble_eq_true rfl) (L' := [(5, _), (0, _), (1, _), (2, _), (3, _), (4, _)]) rfl ?_
      refine r_aload_n C dX0_weigh_31 rfl 4 rfl ?_
      refine r_aload C dX0_weigh_32 0 rfl ?_
      refine gfX0_76 C (inb_lt g_6) dX0_weigh_34 ?_
      obtain ⟨g_7, h⟩ := gdE h
      refine ldC_14 C g_7 dX0_weigh_37 ?_
      refine r_istore C dX0_weigh_38 (Nat.le_of_ble_eq_true rfl) (L' := [(6, _), (5, _), (0, _), (1, _), (2, _), (3, _), (4, _)]) rfl ?_
      refine r_iconst (v := 0) C dX0_weigh_40 (by decide) ?_
      refine r_istore C dX0_weigh_41 (Nat.le_of_ble_eq_true rfl) (L' := [(7, _), (6, _), (5, _), (0, _), (1, _), (2, _), (3, _), (4, _)]) rfl ?_
      refine r_sub [3, 4, 5, 6, 7, 2, 1, 0] rfl ?_
      refine t_X0_weigh_L43 hn1_1 (inb_lt g_6) (fun s_19 h => ?_) C _ _ _ h
      refine r_iinc (v := v4_2 + 1) C dX0_weigh_91 (j := 4) rfl rfl (Nat.le_of_ble_eq_true rfl) (L' := [(4, _), (0, _), (1, _), (2, _), (3, _)]) rfl ?_
      refine r_goto (tgt := 11) C dX0_weigh_94 (by decide) ?_
      refine r_sub [1, 2, 3, 4, 0] rfl ?_
      exact ih _ _ h
set_option maxHeartbeats 4000000 in
set_option maxRecDepth 100000 in
theorem t_X0_weigh_J162 {x : Ctx} {w : Wp} {v4_31 : Int32}  {s_32 : St} {z : St}  {B100 : Int32 → St → Option (St)} (hB100 : ∀ (u4_33 : Int32) (s_34 : St), B100 u4_33 s_34 = some z → V x WC w 8 (QM x WC w none z) s_34 100 [(0, .ref (wa w 10 0)), (4, .int u4_33)] []) (C : Cx x WC w cX0_weigh 8 RX0 2 none) (h : Bn_weigh_J162 B100 v4_31 s_32 = some z) : V x WC w 8 (QM x WC w none z) s_32 162 [(0, .ref (wa w 10 0)), (4, .int v4_31)] [] := by
  unfold Bn_weigh_J162 at h
  refine r_iinc (v := v4_31 + 1) C dX0_weigh_162 (j := 1) rfl rfl (Nat.le_of_ble_eq_true rfl) (L' := [(4, _), (0, _)]) rfl ?_
  refine r_goto (tgt := 100) C dX0_weigh_165 (by decide) ?_
  refine r_sub [1, 0] rfl ?_
  exact hB100 _ _ h
set_option maxHeartbeats 4000000 in
set_option maxRecDepth 100000 in
theorem t_X0_weigh_J145 {x : Ctx} {w : Wp} {v4_28 : Int32}  {s_29 : St} {z : St}  {B100 : Int32 → St → Option (St)} (hB100 : ∀ (u4_35 : Int32) (s_36 : St), B100 u4_35 s_36 = some z → V x WC w 8 (QM x WC w none z) s_36 100 [(0, .ref (wa w 10 0)), (4, .int u4_35)] []) (C : Cx x WC w cX0_weigh 8 RX0 2 none) (h : Bn_weigh_J145 B100 v4_28 s_29 = some z) : V x WC w 8 (QM x WC w none z) s_29 145 [(0, .ref (wa w 10 0)), (4, .int v4_28)] [] := by
  unfold Bn_weigh_J145 at h
  refine r_aload_n C dX0_weigh_145 rfl 0 rfl ?_
  refine r_aload_n C dX0_weigh_146 rfl 0 rfl ?_
  refine gfX0_21 C dX0_weigh_147 ?_
  refine r_iload C dX0_weigh_150 1 rfl ?_
  obtain ⟨g_30, h⟩ := gdE h
  refine ldC_11 C g_30 dX0_weigh_152 ?_
  refine pfX0_25 C dX0_weigh_153 ?_
  refine r_aload_n C dX0_weigh_156 rfl 0 rfl ?_
  refine r_iload C dX0_weigh_157 1 rfl ?_
  refine pfX0_31 C dX0_weigh_159 ?_
  refine r_sub [0, 1] rfl ?_
  exact t_X0_weigh_J162 hB100 C h
set_option maxHeartbeats 4000000 in
set_option maxRecDepth 100000 in
theorem t_X0_weigh_L100 {x : Ctx} {w : Wp}  {z : St}  {K168 : St → Option (St)} (hK168 : ∀ (s_39 : St), K168 s_39 = some z → V x WC w 8 (QM x WC w none z) s_39 168 [(0, .ref (wa w 10 0))] []) (C : Cx x WC w cX0_weigh 8 RX0 2 none) : ∀ (n : Nat) (v4_22 : Int32) (s_23 : St), Bn_weigh_L100 K168 n v4_22 s_23 = some z → V x WC w 8 (QM x WC w none z) s_23 100 [(0, .ref (wa w 10 0)), (4, .int v4_22)] [] := by
  intro n
  induction n with
  | zero => intro v4_22 s_23 h; cases h
  | succ n ih =>
    intro v4_22 s_23 h
    unfold Bn_weigh_L100 at h
    refine r_iload C dX0_weigh_100 1 rfl ?_
    refine r_sipush (v := 244) C dX0_weigh_102 (by decide) ?_
    refine r_icmp_ge (tgt := 168) C dX0_weigh_105 (by decide) (fun c_24 => ?_) (fun c_24 => ?_)
    · have h := ip h c_24
      refine r_sub [0] rfl ?_
      exact hK168 _ h
    · have h := iq h c_24
      refine r_aload_n C dX0_weigh_108 rfl 0 rfl ?_
      refine gfX0_21 C dX0_weigh_109 ?_
      refine r_iload C dX0_weigh_112 1 rfl ?_
      refine r_aload_n C dX0_weigh_114 rfl 0 rfl ?_
      refine r_aload_n C dX0_weigh_115 rfl 0 rfl ?_
      refine gfX0_40 C dX0_weigh_116 ?_
      refine r_iload C dX0_weigh_119 1 rfl ?_
      obtain ⟨g_25, h⟩ := gdE h
      refine ldC_12 C g_25 dX0_weigh_121 ?_
      refine kX0_93 C (m_X0_sumOf rfl) (by decide) (Nat.le_of_ble_eq_true rfl) dX0_weigh_122 ?_
      obtain ⟨g_26, h⟩ := gdE h
      refine stC_11 C g_26 dX0_weigh_125 ?_
      refine r_iload C dX0_weigh_126 1 rfl ?_
      refine r_if_eq (tgt := 145) C dX0_weigh_128 (by decide) (fun c_27 => ?_) (fun c_27 => ?_)
      · have h := ip h c_27
        refine r_sub [0, 1] rfl ?_
        exact t_X0_weigh_J145 ih C h
      · have h := iq h c_27
        refine r_aload_n C dX0_weigh_131 rfl 0 rfl ?_
        refine gfX0_21 C dX0_weigh_132 ?_
        refine r_iload C dX0_weigh_135 1 rfl ?_
        obtain ⟨g_37, h⟩ := gdE h
        refine ldC_11 C g_37 dX0_weigh_137 ?_
        refine r_aload_n C dX0_weigh_138 rfl 0 rfl ?_
        refine gfX0_25 C dX0_weigh_139 ?_
        refine r_icmp_ge (tgt := 162) C dX0_weigh_142 (by decide) (fun c_38 => ?_) (fun c_38 => ?_)
        · have h := ip h c_38
          refine r_sub [0, 1] rfl ?_
          exact t_X0_weigh_J162 ih C h
        · have h := iq h c_38
          refine r_sub [0, 1] rfl ?_
          exact t_X0_weigh_J145 ih C h
set_option maxHeartbeats 4000000 in
set_option maxRecDepth 100000 in
theorem m_X0_weigh {l : Launch} {w : Wp} {v1 : Nat} (hv1 : v1 < 8) {s0 : St} {z : St} (h : Bn_weigh v1 s0 = some z) : Cm l yX0_weigh (.code yX0_weigh cX0_weigh 8 none) 2 WC w [.ref (wa w 10 0), .ref (wa w 22 v1), .ref (wa w 16 0), .ref (wa w 14 0)] s0 none z := by
  refine Cm.of (own := RX0) (by decide +kernel) rfl (Nat.le_of_ble_eq_true rfl) (L := [(0, .ref (wa w 10 0)), (1, .ref (wa w 22 v1)), (2, .ref (wa w 16 0)), (3, .ref (wa w 14 0))]) rfl KoC (fun x hl C => ?_)
  subst hl
  unfold Bn_weigh at h
  refine r_aload_n C dX0_weigh_0 rfl 0 rfl ?_
  refine gfX0_40 C dX0_weigh_1 ?_
  refine r_iconst (v := 0) C dX0_weigh_4 (by decide) ?_
  refine r_callS (n := 2) C (m_fillI (kd := 12) (n := 0) (N := 244) (v := 0) mc_12 (fun _ _ => rfl) (by decide) KoC) q_643 q_204 q_8 q_205 ⟨by decide +kernel, by decide +kernel, by decide +kernel⟩ rfl (by decide) (by decide) (rest := []) rfl (Nat.le_of_ble_eq_true rfl) dX0_weigh_5 ?_
  refine r_iconst (v := 0) C dX0_weigh_8 (by decide) ?_
  refine r_istore C dX0_weigh_9 (Nat.le_of_ble_eq_true rfl) (L' := [(4, _), (0, _), (1, _), (2, _), (3, _)]) rfl ?_
  refine r_sub [1, 2, 3, 4, 0] rfl ?_
  refine t_X0_weigh_L11 hv1 (fun s_21 h => ?_) C _ _ _ h
  refine r_iconst (v := 0) C dX0_weigh_97 (by decide) ?_
  refine r_istore C dX0_weigh_98 (Nat.le_of_ble_eq_true rfl) (L' := [(4, _), (0, _)]) rfl ?_
  refine r_sub [1, 0] rfl ?_
  refine t_X0_weigh_L100 (fun s_40 h => ?_) C _ _ _ h
  refine r_aload_n C dX0_weigh_168 rfl 0 rfl ?_
  refine r_aload_n C dX0_weigh_169 rfl 0 rfl ?_
  refine gfX0_25 C dX0_weigh_170 ?_
  refine pfX0_28 C dX0_weigh_173 ?_
  refine r_aload_n C dX0_weigh_176 rfl 0 rfl ?_
  refine r_bipush (v := (-9)) C dX0_weigh_177 (by decide) ?_
  refine pfX0_34 C dX0_weigh_179 ?_
  cases h
  exact r_vret C dX0_weigh_182
def Bn_gatherCandidates_L16 (K66 : Int32 → St → Option (Int32 × St)) (v1_5 : Int32) (v2_6 : Int32) : Nat → Int32 → Int32 → St → Option (Int32 × St)
  | 0, _, _, _ => none
  | n + 1, v3_7, v4_8, s_9 => if v1_5 ≤ v4_8 then (K66 v3_7 s_9) else (if v3_7 = 0 then (if inb v4_8 244 = true then if inb (s_9.1 13 0 v4_8.toNatClampNeg) 244 = true then if inb v2_6 244 = true then (Bn_gatherCandidates_L16 K66 v1_5 v2_6 n) (if ((s_9.1 12 0 ((s_9.1 13 0 v4_8.toNatClampNeg).toNatClampNeg)) &&& (s_9.1 12 0 v2_6.toNatClampNeg)) = (s_9.1 12 0 ((s_9.1 13 0 v4_8.toNatClampNeg).toNatClampNeg)) then 1 else 0 : Int32) (v4_8 + 1) s_9 else none else none else none) else (K66 v3_7 s_9))
def Bn_gatherCandidates_J83 (B4 : Int32 → Int32 → St → Option (Int32 × St)) (v1_27 : Int32) (v2_28 : Int32)  (s_29 : St) : Option (Int32 × St) :=
  B4 v1_27 (v2_28 + 1) s_29
def Bn_gatherCandidates_J66 (B4 : Int32 → Int32 → St → Option (Int32 × St)) (v1_21 : Int32) (v2_22 : Int32) (v3_23 : Int32)  (s_24 : St) : Option (Int32 × St) :=
  if v3_23 = 0 then (if inb v1_21 244 = true then Bn_gatherCandidates_J83 B4 (v1_21 + 1) v2_22 (sX s_24 13 0 v1_21.toNatClampNeg v2_22) else none) else (Bn_gatherCandidates_J83 B4 v1_21 v2_22 s_24)
def Bn_gatherCandidates_L4   : Nat → Int32 → Int32 → St → Option (Int32 × St)
  | 0, _, _, _ => none
  | n + 1, v1_1, v2_2, s_3 => if 244 ≤ v2_2 then (some (v1_1, s_3)) else (Bn_gatherCandidates_L16 (fun (v3_19 : Int32) (s_20 : St) => Bn_gatherCandidates_J66 (Bn_gatherCandidates_L4 n) v1_1 v2_2 v3_19 s_20) v1_1 v2_2 1100 0 0 s_3)
def Bn_gatherCandidates  (s0 : St) : Option (Int32 × St) :=
  Bn_gatherCandidates_L4 1100 0 0 s0
set_option maxHeartbeats 4000000 in
set_option maxRecDepth 100000 in
theorem t_X0_gatherCandidates_L16 {x : Ctx} {w : Wp} {v1_5 : Int32} {v2_6 : Int32} {z : Int32 × St}  {K66 : Int32 → St → Option (Int32 × St)} (hK66 : ∀ (u3_17 : Int32) (s_18 : St), K66 u3_17 s_18 = some z → V x WC w 6 (QM x WC w (some (.int z.1)) z.2) s_18 66 [(0, .ref (wa w 10 0)), (1, .int v1_5), (2, .int v2_6), (3, .int u3_17)] []) (C : Cx x WC w cX0_gatherCandidates 6 RX0 0 (some .int)) : ∀ (n : Nat) (v3_7 : Int32) (v4_8 : Int32) (s_9 : St), Bn_gatherCandidates_L16 K66 v1_5 v2_6 n v3_7 v4_8 s_9 = some z → V x WC w 6 (QM x WC w (some (.int z.1)) z.2) s_9 16 [(0, .ref (wa w 10 0)), (1, .int v1_5), (2, .int v2_6), (3, .int v3_7), (4, .int v4_8)] [] := by
  intro n
  induction n with
  | zero => intro v3_7 v4_8 s_9 h; cases h
  | succ n ih =>
    intro v3_7 v4_8 s_9 h
    unfold Bn_gatherCandidates_L16 at h
    refine r_iload C dX0_gatherCandidates_16 4 rfl ?_
    refine r_iload_n C dX0_gatherCandidates_18 rfl 1 rfl ?_
    refine r_icmp_ge (tgt := 66) C dX0_gatherCandidates_19 (by decide) (fun c_10 => ?_) (fun c_10 => ?_)
    · have h := ip h c_10
      refine r_sub [0, 1, 2, 3] rfl ?_
      exact hK66 _ _ h
    · have h := iq h c_10
      refine r_iload_n C dX0_gatherCandidates_22 rfl 3 rfl ?_
      refine r_if_ne (tgt := 66) C dX0_gatherCandidates_23 (by decide) (fun c_11 => ?_) (fun c_11 => ?_)
      · have h := iq h c_11
        refine r_sub [0, 1, 2, 3] rfl ?_
        exact hK66 _ _ h
      · have h := ip h c_11
        refine r_aload_n C dX0_gatherCandidates_26 rfl 0 rfl ?_
        refine gfX0_40 C dX0_gatherCandidates_27 ?_
        refine r_aload_n C dX0_gatherCandidates_30 rfl 0 rfl ?_
        refine gfX0_43 C dX0_gatherCandidates_31 ?_
        refine r_iload C dX0_gatherCandidates_34 4 rfl ?_
        obtain ⟨g_12, h⟩ := gdE h
        refine ldC_13 C g_12 dX0_gatherCandidates_36 ?_
        obtain ⟨g_13, h⟩ := gdE h
        refine ldC_12 C g_13 dX0_gatherCandidates_37 ?_
        refine r_istore C dX0_gatherCandidates_38 (Nat.le_of_ble_eq_true rfl) (L' := [(5, _), (0, _), (1, _), (2, _), (3, _), (4, _)]) rfl ?_
        refine r_iload C dX0_gatherCandidates_40 0 rfl ?_
        refine r_aload_n C dX0_gatherCandidates_42 rfl 1 rfl ?_
        refine gfX0_40 C dX0_gatherCandidates_43 ?_
        refine r_iload_n C dX0_gatherCandidates_46 rfl 3 rfl ?_
        obtain ⟨g_14, h⟩ := gdE h
        refine ldC_12 C g_14 dX0_gatherCandidates_47 ?_
        refine r_iand C dX0_gatherCandidates_48 ?_
        refine r_iload C dX0_gatherCandidates_49 0 rfl ?_
        refine r_em (st := []) 59 ((if ((s_9.1 12 0 ((s_9.1 13 0 v4_8.toNatClampNeg).toNatClampNeg)) &&& (s_9.1 12 0 v2_6.toNatClampNeg)) = (s_9.1 12 0 ((s_9.1 13 0 v4_8.toNatClampNeg).toNatClampNeg)) then 1 else 0 : Int32)) (fun hM_16 => ?_) ?_
        · refine r_icmp_ne (tgt := 58) C dX0_gatherCandidates_51 (by decide) (fun c_15 => ?_) (fun c_15 => ?_)
          · refine r_iconst (v := 0) C dX0_gatherCandidates_58 (by decide) ?_
            exact (em_neg c_15 hM_16)
          · refine r_iconst (v := 1) C dX0_gatherCandidates_54 (by decide) ?_
            refine r_goto (tgt := 59) C dX0_gatherCandidates_55 (by decide) ?_
            exact (em_pos c_15 hM_16)
        refine r_istore_n C dX0_gatherCandidates_59 rfl (Nat.le_of_ble_eq_true rfl) (L' := [(3, _), (5, _), (0, _), (1, _), (2, _), (4, _)]) rfl ?_
        refine r_iinc (v := v4_8 + 1) C dX0_gatherCandidates_60 (j := 5) rfl rfl (Nat.le_of_ble_eq_true rfl) (L' := [(4, _), (3, _), (5, _), (0, _), (1, _), (2, _)]) rfl ?_
        refine r_goto (tgt := 16) C dX0_gatherCandidates_63 (by decide) ?_
        refine r_sub [3, 4, 5, 1, 0] rfl ?_
        exact ih _ _ _ h
set_option maxHeartbeats 4000000 in
set_option maxRecDepth 100000 in
theorem t_X0_gatherCandidates_J83 {x : Ctx} {w : Wp} {v1_27 : Int32} {v2_28 : Int32}  {s_29 : St} {z : Int32 × St}  {B4 : Int32 → Int32 → St → Option (Int32 × St)} (hB4 : ∀ (u1_30 : Int32) (u2_31 : Int32) (s_32 : St), B4 u1_30 u2_31 s_32 = some z → V x WC w 6 (QM x WC w (some (.int z.1)) z.2) s_32 4 [(0, .ref (wa w 10 0)), (1, .int u1_30), (2, .int u2_31)] []) (C : Cx x WC w cX0_gatherCandidates 6 RX0 0 (some .int)) (h : Bn_gatherCandidates_J83 B4 v1_27 v2_28 s_29 = some z) : V x WC w 6 (QM x WC w (some (.int z.1)) z.2) s_29 83 [(0, .ref (wa w 10 0)), (1, .int v1_27), (2, .int v2_28)] [] := by
  unfold Bn_gatherCandidates_J83 at h
  refine r_iinc (v := v2_28 + 1) C dX0_gatherCandidates_83 (j := 2) rfl rfl (Nat.le_of_ble_eq_true rfl) (L' := [(2, _), (0, _), (1, _)]) rfl ?_
  refine r_goto (tgt := 4) C dX0_gatherCandidates_86 (by decide) ?_
  refine r_sub [1, 2, 0] rfl ?_
  exact hB4 _ _ _ h
set_option maxHeartbeats 4000000 in
set_option maxRecDepth 100000 in
theorem t_X0_gatherCandidates_J66 {x : Ctx} {w : Wp} {v1_21 : Int32} {v2_22 : Int32} {v3_23 : Int32}  {s_24 : St} {z : Int32 × St}  {B4 : Int32 → Int32 → St → Option (Int32 × St)} (hB4 : ∀ (u1_33 : Int32) (u2_34 : Int32) (s_35 : St), B4 u1_33 u2_34 s_35 = some z → V x WC w 6 (QM x WC w (some (.int z.1)) z.2) s_35 4 [(0, .ref (wa w 10 0)), (1, .int u1_33), (2, .int u2_34)] []) (C : Cx x WC w cX0_gatherCandidates 6 RX0 0 (some .int)) (h : Bn_gatherCandidates_J66 B4 v1_21 v2_22 v3_23 s_24 = some z) : V x WC w 6 (QM x WC w (some (.int z.1)) z.2) s_24 66 [(0, .ref (wa w 10 0)), (1, .int v1_21), (2, .int v2_22), (3, .int v3_23)] [] := by
  unfold Bn_gatherCandidates_J66 at h
  refine r_iload_n C dX0_gatherCandidates_66 rfl 3 rfl ?_
  refine r_if_eq (tgt := 73) C dX0_gatherCandidates_67 (by decide) (fun c_25 => ?_) (fun c_25 => ?_)
  · have h := ip h c_25
    refine r_aload_n C dX0_gatherCandidates_73 rfl 0 rfl ?_
    refine gfX0_43 C dX0_gatherCandidates_74 ?_
    refine r_iload_n C dX0_gatherCandidates_77 rfl 1 rfl ?_
    refine r_iload_n C dX0_gatherCandidates_78 rfl 2 rfl ?_
    obtain ⟨g_26, h⟩ := gdE h
    refine stC_13 C g_26 dX0_gatherCandidates_79 ?_
    refine r_iinc (v := v1_21 + 1) C dX0_gatherCandidates_80 (j := 1) rfl rfl (Nat.le_of_ble_eq_true rfl) (L' := [(1, _), (0, _), (2, _), (3, _)]) rfl ?_
    refine r_sub [1, 0, 2] rfl ?_
    exact t_X0_gatherCandidates_J83 hB4 C h
  · have h := iq h c_25
    refine r_goto (tgt := 83) C dX0_gatherCandidates_70 (by decide) ?_
    refine r_sub [0, 1, 2] rfl ?_
    exact t_X0_gatherCandidates_J83 hB4 C h
set_option maxHeartbeats 4000000 in
set_option maxRecDepth 100000 in
theorem t_X0_gatherCandidates_L4 {x : Ctx} {w : Wp}  {z : Int32 × St}    (C : Cx x WC w cX0_gatherCandidates 6 RX0 0 (some .int)) : ∀ (n : Nat) (v1_1 : Int32) (v2_2 : Int32) (s_3 : St), Bn_gatherCandidates_L4 n v1_1 v2_2 s_3 = some z → V x WC w 6 (QM x WC w (some (.int z.1)) z.2) s_3 4 [(0, .ref (wa w 10 0)), (1, .int v1_1), (2, .int v2_2)] [] := by
  intro n
  induction n with
  | zero => intro v1_1 v2_2 s_3 h; cases h
  | succ n ih =>
    intro v1_1 v2_2 s_3 h
    unfold Bn_gatherCandidates_L4 at h
    refine r_iload_n C dX0_gatherCandidates_4 rfl 2 rfl ?_
    refine r_sipush (v := 244) C dX0_gatherCandidates_5 (by decide) ?_
    refine r_icmp_ge (tgt := 89) C dX0_gatherCandidates_8 (by decide) (fun c_4 => ?_) (fun c_4 => ?_)
    · have h := ip h c_4
      refine r_iload_n C dX0_gatherCandidates_89 rfl 1 rfl ?_
      cases h
      exact r_iret C dX0_gatherCandidates_90
    · have h := iq h c_4
      refine r_iconst (v := 0) C dX0_gatherCandidates_11 (by decide) ?_
      refine r_istore_n C dX0_gatherCandidates_12 rfl (Nat.le_of_ble_eq_true rfl) (L' := [(3, _), (0, _), (1, _), (2, _)]) rfl ?_
      refine r_iconst (v := 0) C dX0_gatherCandidates_13 (by decide) ?_
      refine r_istore C dX0_gatherCandidates_14 (Nat.le_of_ble_eq_true rfl) (L' := [(4, _), (3, _), (0, _), (1, _), (2, _)]) rfl ?_
      refine r_sub [2, 3, 4, 1, 0] rfl ?_
      refine t_X0_gatherCandidates_L16 (fun v3_19 s_20 h => ?_) C _ _ _ _ h
      refine r_sub [0, 1, 2, 3] rfl ?_
      exact t_X0_gatherCandidates_J66 ih C h
set_option maxHeartbeats 4000000 in
set_option maxRecDepth 100000 in
theorem m_X0_gatherCandidates {l : Launch} {w : Wp}   {s0 : St} {z : Int32 × St} (h : Bn_gatherCandidates s0 = some z) : Cm l yX0_gatherCandidates (.code yX0_gatherCandidates cX0_gatherCandidates 6 (some .int)) 0 WC w [.ref (wa w 10 0)] s0 (some (.int z.1)) z.2 := by
  refine Cm.of (own := RX0) (by decide +kernel) rfl (Nat.le_of_ble_eq_true rfl) (L := [(0, .ref (wa w 10 0))]) rfl KoC (fun x hl C => ?_)
  subst hl
  unfold Bn_gatherCandidates at h
  refine r_iconst (v := 0) C dX0_gatherCandidates_0 (by decide) ?_
  refine r_istore_n C dX0_gatherCandidates_1 rfl (Nat.le_of_ble_eq_true rfl) (L' := [(1, _), (0, _)]) rfl ?_
  refine r_iconst (v := 0) C dX0_gatherCandidates_2 (by decide) ?_
  refine r_istore_n C dX0_gatherCandidates_3 rfl (Nat.le_of_ble_eq_true rfl) (L' := [(2, _), (1, _), (0, _)]) rfl ?_
  refine r_sub [2, 1, 0] rfl ?_
  exact t_X0_gatherCandidates_L4 C _ _ _ _ h
def Bn_takeTwoRules_J109 (B28 : Int32 → St → Option (St)) (v1_19 : Int32) (v2_20 : Int32) (v3_21 : Int32)  (s_22 : St) : Option (St) :=
  B28 (v3_21 + 1) s_22
def Bn_takeTwoRules_L28 (K115 : St → Option (St)) (v1_7 : Int32) (v2_8 : Int32) : Nat → Int32 → St → Option (St)
  | 0, _, _ => none
  | n + 1, v3_9, s_10 => if v1_7 ≤ v3_9 then (K115 s_10) else (if inb v2_8 244 = true then if inb (s_10.1 13 0 v2_8.toNatClampNeg) 244 = true then if inb v3_9 244 = true then if inb (s_10.1 13 0 v3_9.toNatClampNeg) 244 = true then if ((s_10.1 10 0 2) + (Bn_sumOf ((s_10.1 12 0 ((s_10.1 13 0 v2_8.toNatClampNeg).toNatClampNeg)) &&& (s_10.1 12 0 ((s_10.1 13 0 v3_9.toNatClampNeg).toNatClampNeg))) s_10)) < (s_10.1 10 0 5) then (if inb v2_8 244 = true then if inb v3_9 244 = true then Bn_takeTwoRules_J109 (Bn_takeTwoRules_L28 K115 v1_7 v2_8 n) v1_7 v2_8 v3_9 (sX (sX (sX s_10 10 0 5 ((s_10.1 10 0 2) + (Bn_sumOf ((s_10.1 12 0 ((s_10.1 13 0 v2_8.toNatClampNeg).toNatClampNeg)) &&& (s_10.1 12 0 ((s_10.1 13 0 v3_9.toNatClampNeg).toNatClampNeg))) s_10))) 10 0 6 ((sX s_10 10 0 5 ((s_10.1 10 0 2) + (Bn_sumOf ((s_10.1 12 0 ((s_10.1 13 0 v2_8.toNatClampNeg).toNatClampNeg)) &&& (s_10.1 12 0 ((s_10.1 13 0 v3_9.toNatClampNeg).toNatClampNeg))) s_10))).1 13 0 v2_8.toNatClampNeg)) 10 0 7 ((sX (sX s_10 10 0 5 ((s_10.1 10 0 2) + (Bn_sumOf ((s_10.1 12 0 ((s_10.1 13 0 v2_8.toNatClampNeg).toNatClampNeg)) &&& (s_10.1 12 0 ((s_10.1 13 0 v3_9.toNatClampNeg).toNatClampNeg))) s_10))) 10 0 6 ((sX s_10 10 0 5 ((s_10.1 10 0 2) + (Bn_sumOf ((s_10.1 12 0 ((s_10.1 13 0 v2_8.toNatClampNeg).toNatClampNeg)) &&& (s_10.1 12 0 ((s_10.1 13 0 v3_9.toNatClampNeg).toNatClampNeg))) s_10))).1 13 0 v2_8.toNatClampNeg)).1 13 0 v3_9.toNatClampNeg)) else none else none) else (Bn_takeTwoRules_J109 (Bn_takeTwoRules_L28 K115 v1_7 v2_8 n) v1_7 v2_8 v3_9 s_10) else none else none else none else none)
def Bn_takeTwoRules_L19  (v1_3 : Int32) : Nat → Int32 → St → Option (St)
  | 0, _, _ => none
  | n + 1, v2_4, s_5 => if v1_3 ≤ v2_4 then (some s_5) else (Bn_takeTwoRules_L28 (fun (s_26 : St) => (Bn_takeTwoRules_L19 v1_3 n) (v2_4 + 1) s_26) v1_3 v2_4 1100 (v2_4 + 1) s_5)
def Bn_takeTwoRules  (s0 : St) : Option (St) :=
  if (s0.1 10 0 2) < (s0.1 10 0 4) then (Option.bind (Bn_gatherCandidates s0) (fun r_2 => Bn_takeTwoRules_L19 r_2.1 1100 0 r_2.2)) else (some s0)
set_option maxHeartbeats 4000000 in
set_option maxRecDepth 100000 in
theorem t_X0_takeTwoRules_J109 {x : Ctx} {w : Wp} {v1_19 : Int32} {v2_20 : Int32} {v3_21 : Int32}  {s_22 : St} {z : St}  {B28 : Int32 → St → Option (St)} (hB28 : ∀ (u3_23 : Int32) (s_24 : St), B28 u3_23 s_24 = some z → V x WC w 6 (QM x WC w none z) s_24 28 [(0, .ref (wa w 10 0)), (1, .int v1_19), (2, .int v2_20), (3, .int u3_23)] []) (C : Cx x WC w cX0_takeTwoRules 6 RX0 2 none) (h : Bn_takeTwoRules_J109 B28 v1_19 v2_20 v3_21 s_22 = some z) : V x WC w 6 (QM x WC w none z) s_22 109 [(0, .ref (wa w 10 0)), (1, .int v1_19), (2, .int v2_20), (3, .int v3_21)] [] := by
  unfold Bn_takeTwoRules_J109 at h
  refine r_iinc (v := v3_21 + 1) C dX0_takeTwoRules_109 (j := 3) rfl rfl (Nat.le_of_ble_eq_true rfl) (L' := [(3, _), (0, _), (1, _), (2, _)]) rfl ?_
  refine r_goto (tgt := 28) C dX0_takeTwoRules_112 (by decide) ?_
  refine r_sub [1, 2, 3, 0] rfl ?_
  exact hB28 _ _ h
set_option maxHeartbeats 4000000 in
set_option maxRecDepth 100000 in
theorem t_X0_takeTwoRules_L28 {x : Ctx} {w : Wp} {v1_7 : Int32} {v2_8 : Int32} {z : St}  {K115 : St → Option (St)} (hK115 : ∀ (s_25 : St), K115 s_25 = some z → V x WC w 6 (QM x WC w none z) s_25 115 [(0, .ref (wa w 10 0)), (1, .int v1_7), (2, .int v2_8)] []) (C : Cx x WC w cX0_takeTwoRules 6 RX0 2 none) : ∀ (n : Nat) (v3_9 : Int32) (s_10 : St), Bn_takeTwoRules_L28 K115 v1_7 v2_8 n v3_9 s_10 = some z → V x WC w 6 (QM x WC w none z) s_10 28 [(0, .ref (wa w 10 0)), (1, .int v1_7), (2, .int v2_8), (3, .int v3_9)] [] := by
  intro n
  induction n with
  | zero => intro v3_9 s_10 h; cases h
  | succ n ih =>
    intro v3_9 s_10 h
    unfold Bn_takeTwoRules_L28 at h
    refine r_iload_n C dX0_takeTwoRules_28 rfl 3 rfl ?_
    refine r_iload_n C dX0_takeTwoRules_29 rfl 1 rfl ?_
    refine r_icmp_ge (tgt := 115) C dX0_takeTwoRules_30 (by decide) (fun c_11 => ?_) (fun c_11 => ?_)
    · have h := ip h c_11
      refine r_sub [0, 1, 2] rfl ?_
      exact hK115 _ h
    · have h := iq h c_11
      refine r_aload_n C dX0_takeTwoRules_33 rfl 0 rfl ?_
      refine gfX0_40 C dX0_takeTwoRules_34 ?_
      refine r_aload_n C dX0_takeTwoRules_37 rfl 0 rfl ?_
      refine gfX0_43 C dX0_takeTwoRules_38 ?_
      refine r_iload_n C dX0_takeTwoRules_41 rfl 2 rfl ?_
      obtain ⟨g_12, h⟩ := gdE h
      refine ldC_13 C g_12 dX0_takeTwoRules_42 ?_
      obtain ⟨g_13, h⟩ := gdE h
      refine ldC_12 C g_13 dX0_takeTwoRules_43 ?_
      refine r_aload_n C dX0_takeTwoRules_44 rfl 0 rfl ?_
      refine gfX0_40 C dX0_takeTwoRules_45 ?_
      refine r_aload_n C dX0_takeTwoRules_48 rfl 0 rfl ?_
      refine gfX0_43 C dX0_takeTwoRules_49 ?_
      refine r_iload_n C dX0_takeTwoRules_52 rfl 3 rfl ?_
      obtain ⟨g_14, h⟩ := gdE h
      refine ldC_13 C g_14 dX0_takeTwoRules_53 ?_
      obtain ⟨g_15, h⟩ := gdE h
      refine ldC_12 C g_15 dX0_takeTwoRules_54 ?_
      refine r_iand C dX0_takeTwoRules_55 ?_
      refine r_istore C dX0_takeTwoRules_56 (Nat.le_of_ble_eq_true rfl) (L' := [(4, _), (0, _), (1, _), (2, _), (3, _)]) rfl ?_
      refine r_aload_n C dX0_takeTwoRules_58 rfl 1 rfl ?_
      refine gfX0_18 C dX0_takeTwoRules_59 ?_
      refine r_aload_n C dX0_takeTwoRules_62 rfl 1 rfl ?_
      refine r_iload C dX0_takeTwoRules_63 0 rfl ?_
      refine kX0_93 C (m_X0_sumOf rfl) (by decide) (Nat.le_of_ble_eq_true rfl) dX0_takeTwoRules_65 ?_
      refine r_iadd C dX0_takeTwoRules_68 ?_
      refine r_istore C dX0_takeTwoRules_69 (Nat.le_of_ble_eq_true rfl) (L' := [(5, _), (4, _), (0, _), (1, _), (2, _), (3, _)]) rfl ?_
      refine r_iload C dX0_takeTwoRules_71 0 rfl ?_
      refine r_aload_n C dX0_takeTwoRules_73 rfl 2 rfl ?_
      refine gfX0_28 C dX0_takeTwoRules_74 ?_
      refine r_icmp_lt (tgt := 83) C dX0_takeTwoRules_77 (by decide) (fun c_16 => ?_) (fun c_16 => ?_)
      · have h := ip h c_16
        refine r_aload_n C dX0_takeTwoRules_83 rfl 2 rfl ?_
        refine r_iload C dX0_takeTwoRules_84 0 rfl ?_
        refine pfX0_28 C dX0_takeTwoRules_86 ?_
        refine r_aload_n C dX0_takeTwoRules_89 rfl 2 rfl ?_
        refine r_aload_n C dX0_takeTwoRules_90 rfl 2 rfl ?_
        refine gfX0_43 C dX0_takeTwoRules_91 ?_
        refine r_iload_n C dX0_takeTwoRules_94 rfl 4 rfl ?_
        obtain ⟨g_17, h⟩ := gdE h
        refine ldC_13 C g_17 dX0_takeTwoRules_95 ?_
        refine pfX0_31 C dX0_takeTwoRules_96 ?_
        refine r_aload_n C dX0_takeTwoRules_99 rfl 2 rfl ?_
        refine r_aload_n C dX0_takeTwoRules_100 rfl 2 rfl ?_
        refine gfX0_43 C dX0_takeTwoRules_101 ?_
        refine r_iload_n C dX0_takeTwoRules_104 rfl 5 rfl ?_
        obtain ⟨g_18, h⟩ := gdE h
        refine ldC_13 C g_18 dX0_takeTwoRules_105 ?_
        refine pfX0_34 C dX0_takeTwoRules_106 ?_
        refine r_sub [2, 3, 4, 5] rfl ?_
        exact t_X0_takeTwoRules_J109 ih C h
      · have h := iq h c_16
        refine r_goto (tgt := 109) C dX0_takeTwoRules_80 (by decide) ?_
        refine r_sub [2, 3, 4, 5] rfl ?_
        exact t_X0_takeTwoRules_J109 ih C h
set_option maxHeartbeats 4000000 in
set_option maxRecDepth 100000 in
theorem t_X0_takeTwoRules_L19 {x : Ctx} {w : Wp} {v1_3 : Int32} {z : St}    (C : Cx x WC w cX0_takeTwoRules 6 RX0 2 none) : ∀ (n : Nat) (v2_4 : Int32) (s_5 : St), Bn_takeTwoRules_L19 v1_3 n v2_4 s_5 = some z → V x WC w 6 (QM x WC w none z) s_5 19 [(0, .ref (wa w 10 0)), (1, .int v1_3), (2, .int v2_4)] [] := by
  intro n
  induction n with
  | zero => intro v2_4 s_5 h; cases h
  | succ n ih =>
    intro v2_4 s_5 h
    unfold Bn_takeTwoRules_L19 at h
    refine r_iload_n C dX0_takeTwoRules_19 rfl 2 rfl ?_
    refine r_iload_n C dX0_takeTwoRules_20 rfl 1 rfl ?_
    refine r_icmp_ge (tgt := 121) C dX0_takeTwoRules_21 (by decide) (fun c_6 => ?_) (fun c_6 => ?_)
    · have h := ip h c_6
      cases h
      exact r_vret C dX0_takeTwoRules_121
    · have h := iq h c_6
      refine r_iload_n C dX0_takeTwoRules_24 rfl 2 rfl ?_
      refine r_iconst (v := 1) C dX0_takeTwoRules_25 (by decide) ?_
      refine r_iadd C dX0_takeTwoRules_26 ?_
      refine r_istore_n C dX0_takeTwoRules_27 rfl (Nat.le_of_ble_eq_true rfl) (L' := [(3, _), (0, _), (1, _), (2, _)]) rfl ?_
      refine r_sub [1, 2, 3, 0] rfl ?_
      refine t_X0_takeTwoRules_L28 (fun s_26 h => ?_) C _ _ _ h
      refine r_iinc (v := v2_4 + 1) C dX0_takeTwoRules_115 (j := 2) rfl rfl (Nat.le_of_ble_eq_true rfl) (L' := [(2, _), (0, _), (1, _)]) rfl ?_
      refine r_goto (tgt := 19) C dX0_takeTwoRules_118 (by decide) ?_
      refine r_sub [1, 2, 0] rfl ?_
      exact ih _ _ h
set_option maxHeartbeats 4000000 in
set_option maxRecDepth 100000 in
theorem m_X0_takeTwoRules {l : Launch} {w : Wp}   {s0 : St} {z : St} (h : Bn_takeTwoRules s0 = some z) : Cm l yX0_takeTwoRules (.code yX0_takeTwoRules cX0_takeTwoRules 6 none) 2 WC w [.ref (wa w 10 0)] s0 none z := by
  refine Cm.of (own := RX0) (by decide +kernel) rfl (Nat.le_of_ble_eq_true rfl) (L := [(0, .ref (wa w 10 0))]) rfl KoC (fun x hl C => ?_)
  subst hl
  unfold Bn_takeTwoRules at h
  refine r_aload_n C dX0_takeTwoRules_0 rfl 0 rfl ?_
  refine gfX0_18 C dX0_takeTwoRules_1 ?_
  refine r_aload_n C dX0_takeTwoRules_4 rfl 0 rfl ?_
  refine gfX0_25 C dX0_takeTwoRules_5 ?_
  refine r_icmp_lt (tgt := 12) C dX0_takeTwoRules_8 (by decide) (fun c_1 => ?_) (fun c_1 => ?_)
  · have h := ip h c_1
    refine r_aload_n C dX0_takeTwoRules_12 rfl 0 rfl ?_
    obtain ⟨r_2, er_2, h⟩ := bdE h
    refine kX0_96 C (m_X0_gatherCandidates er_2) (by decide) (Nat.le_of_ble_eq_true rfl) dX0_takeTwoRules_13 ?_
    refine r_istore_n C dX0_takeTwoRules_16 rfl (Nat.le_of_ble_eq_true rfl) (L' := [(1, _), (0, _)]) rfl ?_
    refine r_iconst (v := 0) C dX0_takeTwoRules_17 (by decide) ?_
    refine r_istore_n C dX0_takeTwoRules_18 rfl (Nat.le_of_ble_eq_true rfl) (L' := [(2, _), (1, _), (0, _)]) rfl ?_
    refine r_sub [2, 1, 0] rfl ?_
    exact t_X0_takeTwoRules_L19 C _ _ _ h
  · have h := iq h c_1
    cases h
    exact r_vret C dX0_takeTwoRules_11
def Bn_sayingsAhead_J42 (B6 : Int32 → Int32 → Option (Int32)) (v1_9 : Int32) (n2_10 : Nat) (v4_11 : Int32) (v5_12 : Int32)  (s0 : St) : Option (Int32) :=
  B6 v4_11 (v5_12 + 1)
def Bn_sayingsAhead_L6  (v1_1 : Int32) (n2_2 : Nat) (s0 : St) : Nat → Int32 → Int32 → Option (Int32)
  | 0, _, _ => none
  | n + 1, v4_3, v5_4 => if (s0.1 22 n2_2 5) ≤ v5_4 then (some v4_3) else (if inb v5_4 9 = true then if inb (s0.1 23 n2_2 v5_4.toNatClampNeg) 24 = true then if v1_1 ≤ (s0.1 26 ((s0.1 23 n2_2 v5_4.toNatClampNeg).toNatClampNeg) 2) then (Bn_sayingsAhead_J42 (Bn_sayingsAhead_L6 v1_1 n2_2 s0 n) v1_1 n2_2 v4_3 v5_4 s0) else (Bn_sayingsAhead_J42 (Bn_sayingsAhead_L6 v1_1 n2_2 s0 n) v1_1 n2_2 (v4_3 ||| (513 <<< (v5_4 &&& 31))) v5_4 s0) else none else none)
def Bn_sayingsAhead (v1 : Int32) (v2 : Nat) (s0 : St) : Option (Int32) :=
  Bn_sayingsAhead_L6 v1 v2 s0 1100 0 0
set_option maxHeartbeats 4000000 in
set_option maxRecDepth 100000 in
theorem t_X0_sayingsAhead_J42 {x : Ctx} {w : Wp} {v1_9 : Int32} {n2_10 : Nat} {v4_11 : Int32} {v5_12 : Int32}  {s0 : St} {z : Int32} (hn2_10 : n2_10 < 8) {B6 : Int32 → Int32 → Option (Int32)} (hB6 : ∀ (u4_13 : Int32) (u5_14 : Int32), B6 u4_13 u5_14 = some z → V x WC w 6 (QM x WC w (some (.int z)) s0) s0 6 [(1, .int v1_9), (2, .ref (wa w 22 n2_10)), (3, .ref (wa w 16 0)), (4, .int u4_13), (5, .int u5_14)] []) (C : Cx x WC w cX0_sayingsAhead 6 RX0 0 (some .int)) (h : Bn_sayingsAhead_J42 B6 v1_9 n2_10 v4_11 v5_12 s0 = some z) : V x WC w 6 (QM x WC w (some (.int z)) s0) s0 42 [(1, .int v1_9), (2, .ref (wa w 22 n2_10)), (3, .ref (wa w 16 0)), (4, .int v4_11), (5, .int v5_12)] [] := by
  unfold Bn_sayingsAhead_J42 at h
  refine r_iinc (v := v5_12 + 1) C dX0_sayingsAhead_42 (j := 4) rfl rfl (Nat.le_of_ble_eq_true rfl) (L' := [(5, _), (1, _), (2, _), (3, _), (4, _)]) rfl ?_
  refine r_goto (tgt := 6) C dX0_sayingsAhead_45 (by decide) ?_
  refine r_sub [1, 2, 3, 4, 0] rfl ?_
  exact hB6 _ _ h
set_option maxHeartbeats 4000000 in
set_option maxRecDepth 100000 in
theorem t_X0_sayingsAhead_L6 {x : Ctx} {w : Wp} {v1_1 : Int32} {n2_2 : Nat} {s0 : St} {z : Int32} (hn2_2 : n2_2 < 8)   (C : Cx x WC w cX0_sayingsAhead 6 RX0 0 (some .int)) : ∀ (n : Nat) (v4_3 : Int32) (v5_4 : Int32), Bn_sayingsAhead_L6 v1_1 n2_2 s0 n v4_3 v5_4 = some z → V x WC w 6 (QM x WC w (some (.int z)) s0) s0 6 [(1, .int v1_1), (2, .ref (wa w 22 n2_2)), (3, .ref (wa w 16 0)), (4, .int v4_3), (5, .int v5_4)] [] := by
  intro n
  induction n with
  | zero => intro v4_3 v5_4 h; cases h
  | succ n ih =>
    intro v4_3 v5_4 h
    unfold Bn_sayingsAhead_L6 at h
    refine r_iload C dX0_sayingsAhead_6 4 rfl ?_
    refine r_aload_n C dX0_sayingsAhead_8 rfl 1 rfl ?_
    refine gfX0_68 C hn2_2 dX0_sayingsAhead_9 ?_
    refine r_icmp_ge (tgt := 48) C dX0_sayingsAhead_12 (by decide) (fun c_5 => ?_) (fun c_5 => ?_)
    · have h := ip h c_5
      refine r_iload C dX0_sayingsAhead_48 3 rfl ?_
      cases h
      exact r_iret C dX0_sayingsAhead_50
    · have h := iq h c_5
      refine r_aload_n C dX0_sayingsAhead_15 rfl 2 rfl ?_
      refine r_aload_n C dX0_sayingsAhead_16 rfl 1 rfl ?_
      refine gfX0_73 C hn2_2 dX0_sayingsAhead_17 ?_
      refine r_iload C dX0_sayingsAhead_20 4 rfl ?_
      obtain ⟨g_6, h⟩ := gdE h
      refine ldC_23 C hn2_2 g_6 dX0_sayingsAhead_22 ?_
      obtain ⟨g_7, h⟩ := gdE h
      refine la_16 C g_7 dX0_sayingsAhead_23 ?_
      refine gfX0_103 C (inb_lt g_7) dX0_sayingsAhead_24 ?_
      refine r_iload_n C dX0_sayingsAhead_27 rfl 0 rfl ?_
      refine r_icmp_ge (tgt := 42) C dX0_sayingsAhead_28 (by decide) (fun c_8 => ?_) (fun c_8 => ?_)
      · have h := ip h c_8
        refine r_sub [0, 1, 2, 3, 4] rfl ?_
        exact t_X0_sayingsAhead_J42 hn2_2 ih C h
      · have h := iq h c_8
        refine r_iload C dX0_sayingsAhead_31 3 rfl ?_
        refine r_sipush (v := 513) C dX0_sayingsAhead_33 (by decide) ?_
        refine r_iload C dX0_sayingsAhead_36 4 rfl ?_
        refine r_ishl C dX0_sayingsAhead_38 ?_
        refine r_ior C dX0_sayingsAhead_39 ?_
        refine r_istore C dX0_sayingsAhead_40 (Nat.le_of_ble_eq_true rfl) (L' := [(4, _), (1, _), (2, _), (3, _), (5, _)]) rfl ?_
        refine r_sub [1, 2, 3, 0, 4] rfl ?_
        exact t_X0_sayingsAhead_J42 hn2_2 ih C h
set_option maxHeartbeats 4000000 in
set_option maxRecDepth 100000 in
theorem m_X0_sayingsAhead {l : Launch} {w : Wp} {v1 : Int32} {v2 : Nat} (hv2 : v2 < 8) {s0 : St} {z : Int32} (h : Bn_sayingsAhead v1 v2 s0 = some z) : Cm l yX0_sayingsAhead (.code yX0_sayingsAhead cX0_sayingsAhead 6 (some .int)) 0 WC w [.ref (wa w 10 0), .int v1, .ref (wa w 22 v2), .ref (wa w 16 0)] s0 (some (.int z)) s0 := by
  refine Cm.of (own := RX0) (by decide +kernel) rfl (Nat.le_of_ble_eq_true rfl) (L := [(0, .ref (wa w 10 0)), (1, .int v1), (2, .ref (wa w 22 v2)), (3, .ref (wa w 16 0))]) rfl KoC (fun x hl C => ?_)
  subst hl
  unfold Bn_sayingsAhead at h
  refine r_iconst (v := 0) C dX0_sayingsAhead_0 (by decide) ?_
  refine r_istore C dX0_sayingsAhead_1 (Nat.le_of_ble_eq_true rfl) (L' := [(4, _), (0, _), (1, _), (2, _), (3, _)]) rfl ?_
  refine r_iconst (v := 0) C dX0_sayingsAhead_3 (by decide) ?_
  refine r_istore C dX0_sayingsAhead_4 (Nat.le_of_ble_eq_true rfl) (L' := [(5, _), (4, _), (0, _), (1, _), (2, _), (3, _)]) rfl ?_
  refine r_sub [3, 4, 5, 1, 0] rfl ?_
  exact t_X0_sayingsAhead_L6 hv2 C _ _ _ h
def Bn_costParted_L31  (v1_1 : Int32) (s0 : St) : Nat → Int32 → Int32 → Int32 → Option (Int32)
  | 0, _, _, _ => none
  | n + 1, v2_2, v3_3, v4_4 => if 244 ≤ v4_4 then (some (v2_2 + v3_3)) else (if inb v4_4 244 = true then if inb v4_4 244 = true then (Bn_costParted_L31 v1_1 s0 n) (imin v2_2 (Bn_sumOf ((s0.1 12 0 v4_4.toNatClampNeg) &&& v1_1) s0)) (imin v3_3 (Bn_sumOf ((s0.1 12 0 v4_4.toNatClampNeg) &&& (v1_1 ^^^ (-1))) s0)) (v4_4 + 1) else none else none)
def Bn_costParted (v1 : Int32) (s0 : St) : Option (Int32) :=
  Bn_costParted_L31 v1 s0 1100 (Bn_sumOf ((s0.1 12 0 0) &&& v1) s0) (Bn_sumOf ((s0.1 12 0 0) &&& (v1 ^^^ (-1))) s0) 1
set_option maxHeartbeats 4000000 in
set_option maxRecDepth 100000 in
theorem t_X0_costParted_L31 {x : Ctx} {w : Wp} {v1_1 : Int32} {s0 : St} {z : Int32}    (C : Cx x WC w cX0_costParted 5 RX0 2 (some .int)) : ∀ (n : Nat) (v2_2 : Int32) (v3_3 : Int32) (v4_4 : Int32), Bn_costParted_L31 v1_1 s0 n v2_2 v3_3 v4_4 = some z → V x WC w 5 (QM x WC w (some (.int z)) s0) s0 31 [(0, .ref (wa w 10 0)), (1, .int v1_1), (2, .int v2_2), (3, .int v3_3), (4, .int v4_4)] [] := by
  intro n
  induction n with
  | zero => intro v2_2 v3_3 v4_4 h; cases h
  | succ n ih =>
    intro v2_2 v3_3 v4_4 h
    unfold Bn_costParted_L31 at h
    refine r_iload C dX0_costParted_31 4 rfl ?_
    refine r_sipush (v := 244) C dX0_costParted_33 (by decide) ?_
    refine r_icmp_ge (tgt := 83) C dX0_costParted_36 (by decide) (fun c_5 => ?_) (fun c_5 => ?_)
    · have h := ip h c_5
      refine r_iload_n C dX0_costParted_83 rfl 2 rfl ?_
      refine r_iload_n C dX0_costParted_84 rfl 3 rfl ?_
      refine r_iadd C dX0_costParted_85 ?_
      cases h
      exact r_iret C dX0_costParted_86
    · have h := iq h c_5
      refine r_iload_n C dX0_costParted_39 rfl 2 rfl ?_
      refine r_aload_n C dX0_costParted_40 rfl 0 rfl ?_
      refine r_aload_n C dX0_costParted_41 rfl 0 rfl ?_
      refine gfX0_40 C dX0_costParted_42 ?_
      refine r_iload C dX0_costParted_45 4 rfl ?_
      obtain ⟨g_6, h⟩ := gdE h
      refine ldC_12 C g_6 dX0_costParted_47 ?_
      refine r_iload_n C dX0_costParted_48 rfl 1 rfl ?_
      refine r_iand C dX0_costParted_49 ?_
      refine kX0_93 C (m_X0_sumOf rfl) (by decide) (Nat.le_of_ble_eq_true rfl) dX0_costParted_50 ?_
      refine r_mmin C q_622 q_623 q_16 q_624 (Nat.le_of_ble_eq_true rfl) dX0_costParted_53 ?_
      refine r_istore_n C dX0_costParted_56 rfl (Nat.le_of_ble_eq_true rfl) (L' := [(2, _), (0, _), (1, _), (3, _), (4, _)]) rfl ?_
      refine r_iload_n C dX0_costParted_57 rfl 3 rfl ?_
      refine r_aload_n C dX0_costParted_58 rfl 1 rfl ?_
      refine r_aload_n C dX0_costParted_59 rfl 1 rfl ?_
      refine gfX0_40 C dX0_costParted_60 ?_
      refine r_iload C dX0_costParted_63 4 rfl ?_
      obtain ⟨g_7, h⟩ := gdE h
      refine ldC_12 C g_7 dX0_costParted_65 ?_
      refine r_iload_n C dX0_costParted_66 rfl 2 rfl ?_
      refine r_iconst (v := (-1)) C dX0_costParted_67 (by decide) ?_
      refine r_ixor C dX0_costParted_68 ?_
      refine r_iand C dX0_costParted_69 ?_
      refine kX0_93 C (m_X0_sumOf rfl) (by decide) (Nat.le_of_ble_eq_true rfl) dX0_costParted_70 ?_
      refine r_mmin C q_622 q_623 q_16 q_624 (Nat.le_of_ble_eq_true rfl) dX0_costParted_73 ?_
      refine r_istore_n C dX0_costParted_76 rfl (Nat.le_of_ble_eq_true rfl) (L' := [(3, _), (2, _), (0, _), (1, _), (4, _)]) rfl ?_
      refine r_iinc (v := v4_4 + 1) C dX0_costParted_77 (j := 4) rfl rfl (Nat.le_of_ble_eq_true rfl) (L' := [(4, _), (3, _), (2, _), (0, _), (1, _)]) rfl ?_
      refine r_goto (tgt := 31) C dX0_costParted_80 (by decide) ?_
      refine r_sub [3, 4, 2, 1, 0] rfl ?_
      exact ih _ _ _ h
set_option maxHeartbeats 4000000 in
set_option maxRecDepth 100000 in
theorem m_X0_costParted {l : Launch} {w : Wp} {v1 : Int32}  {s0 : St} {z : Int32} (h : Bn_costParted v1 s0 = some z) : Cm l yX0_costParted (.code yX0_costParted cX0_costParted 5 (some .int)) 2 WC w [.ref (wa w 10 0), .int v1] s0 (some (.int z)) s0 := by
  refine Cm.of (own := RX0) (by decide +kernel) rfl (Nat.le_of_ble_eq_true rfl) (L := [(0, .ref (wa w 10 0)), (1, .int v1)]) rfl KoC (fun x hl C => ?_)
  subst hl
  unfold Bn_costParted at h
  refine r_aload_n C dX0_costParted_0 rfl 0 rfl ?_
  refine r_aload_n C dX0_costParted_1 rfl 0 rfl ?_
  refine gfX0_40 C dX0_costParted_2 ?_
  refine r_iconst (v := 0) C dX0_costParted_5 (by decide) ?_
  refine ldC_12 C (by decide) dX0_costParted_6 ?_
  refine r_iload_n C dX0_costParted_7 rfl 1 rfl ?_
  refine r_iand C dX0_costParted_8 ?_
  refine kX0_93 C (m_X0_sumOf rfl) (by decide) (Nat.le_of_ble_eq_true rfl) dX0_costParted_9 ?_
  refine r_istore_n C dX0_costParted_12 rfl (Nat.le_of_ble_eq_true rfl) (L' := [(2, _), (0, _), (1, _)]) rfl ?_
  refine r_aload_n C dX0_costParted_13 rfl 1 rfl ?_
  refine r_aload_n C dX0_costParted_14 rfl 1 rfl ?_
  refine gfX0_40 C dX0_costParted_15 ?_
  refine r_iconst (v := 0) C dX0_costParted_18 (by decide) ?_
  refine ldC_12 C (by decide) dX0_costParted_19 ?_
  refine r_iload_n C dX0_costParted_20 rfl 2 rfl ?_
  refine r_iconst (v := (-1)) C dX0_costParted_21 (by decide) ?_
  refine r_ixor C dX0_costParted_22 ?_
  refine r_iand C dX0_costParted_23 ?_
  refine kX0_93 C (m_X0_sumOf rfl) (by decide) (Nat.le_of_ble_eq_true rfl) dX0_costParted_24 ?_
  refine r_istore_n C dX0_costParted_27 rfl (Nat.le_of_ble_eq_true rfl) (L' := [(3, _), (2, _), (0, _), (1, _)]) rfl ?_
  refine r_iconst (v := 1) C dX0_costParted_28 (by decide) ?_
  refine r_istore C dX0_costParted_29 (Nat.le_of_ble_eq_true rfl) (L' := [(4, _), (3, _), (2, _), (0, _), (1, _)]) rfl ?_
  refine r_sub [3, 4, 2, 1, 0] rfl ?_
  exact t_X0_costParted_L31 C _ _ _ _ h
