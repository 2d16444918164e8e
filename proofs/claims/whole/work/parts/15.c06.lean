def Tx_digestFrom_L15  (n0_1 : Nat) (s0 : St) : Nat → Int64 → Int32 → Option (Int64)
  | 0, _, _ => none
  | n + 1, v3_2, v5_3 => if (s0.1 20 n0_1 1) ≤ v5_3 then (some v3_2) else (if inb v5_3 40 = true then (Tx_digestFrom_L15 n0_1 s0 n) ((31 * v3_2) + ((s0.1 21 n0_1 v5_3.toNatClampNeg).toInt64)) (v5_3 + 1) else none)
def Tx_digestFrom (n : Nat) (v1 : Int64) (s0 : St) : Option (Int64) :=
  Tx_digestFrom_L15 n s0 1100 ((31 * v1) + ((s0.1 20 n 1).toInt64)) 0
set_option maxHeartbeats 4000000 in
set_option maxRecDepth 100000 in
theorem t_X10_digestFrom_L15 {x : Ctx} {w : Wp} {n0_1 : Nat} {s0 : St} {z : Int64} (hn0_1 : n0_1 < 4)   (C : Cx x WC w cX10_digestFrom 6 RX10 0 (some .long)) : ∀ (n : Nat) (v3_2 : Int64) (v5_3 : Int32), Tx_digestFrom_L15 n0_1 s0 n v3_2 v5_3 = some z → V x WC w 6 (QM x WC w (some (.long z)) s0) s0 15 [(0, .ref (wa w 20 n0_1)), (3, .long v3_2), (5, .int v5_3)] [] := by
  intro n
  induction n with
  | zero => intro v3_2 v5_3 h; cases h
  | succ n ih =>
    intro v3_2 v5_3 h
    unfold Tx_digestFrom_L15 at h
    refine r_iload C dX10_digestFrom_15 2 rfl ?_
    refine r_aload_n C dX10_digestFrom_17 rfl 0 rfl ?_
    refine gfX10_15 C hn0_1 dX10_digestFrom_18 ?_
    refine r_icmp_ge (tgt := 45) C dX10_digestFrom_21 (by decide) (fun c_4 => ?_) (fun c_4 => ?_)
    · have h := ip h c_4
      refine r_lload_n C dX10_digestFrom_45 rfl 1 rfl ?_
      cases h
      exact r_lret C dX10_digestFrom_46
    · have h := iq h c_4
      refine r_ldc2 C dX10_digestFrom_24 q_963 ?_
      refine r_lload_n C dX10_digestFrom_27 rfl 1 rfl ?_
      refine r_lmul C dX10_digestFrom_28 ?_
      refine r_aload_n C dX10_digestFrom_29 rfl 0 rfl ?_
      refine gfX10_9 C hn0_1 dX10_digestFrom_30 ?_
      refine r_iload C dX10_digestFrom_33 2 rfl ?_
      obtain ⟨g_5, h⟩ := gdE h
      refine ldC_21 C hn0_1 g_5 dX10_digestFrom_35 ?_
      refine r_i2l C dX10_digestFrom_36 ?_
      refine r_ladd C dX10_digestFrom_37 ?_
      refine r_lstore_n C dX10_digestFrom_38 rfl (Nat.le_of_ble_eq_true rfl) (L' := [(3, _), (0, _), (5, _)]) rfl ?_
      refine r_iinc (v := v5_3 + 1) C dX10_digestFrom_39 (j := 2) rfl rfl (Nat.le_of_ble_eq_true rfl) (L' := [(5, _), (3, _), (0, _)]) rfl ?_
      refine r_goto (tgt := 15) C dX10_digestFrom_42 (by decide) ?_
      refine r_sub [2, 1, 0] rfl ?_
      exact ih _ _ h
set_option maxHeartbeats 4000000 in
set_option maxRecDepth 100000 in
theorem m_X10_digestFrom {l : Launch} {w : Wp} {n : Nat} {v1 : Int64} (hn : n < 4) {s0 : St} {z : Int64} (h : Tx_digestFrom n v1 s0 = some z) : Cm l yX10_digestFrom (.code yX10_digestFrom cX10_digestFrom 6 (some .long)) 0 WC w [.ref (wa w 20 n), .long v1] s0 (some (.long z)) s0 := by
  refine Cm.of (own := RX10) (by decide +kernel) rfl (Nat.le_of_ble_eq_true rfl) (L := [(0, .ref (wa w 20 n)), (1, .long v1)]) rfl KoC (fun x hl C => ?_)
  subst hl
  unfold Tx_digestFrom at h
  refine r_ldc2 C dX10_digestFrom_0 q_963 ?_
  refine r_lload_n C dX10_digestFrom_3 rfl 1 rfl ?_
  refine r_lmul C dX10_digestFrom_4 ?_
  refine r_aload_n C dX10_digestFrom_5 rfl 0 rfl ?_
  refine gfX10_15 C hn dX10_digestFrom_6 ?_
  refine r_i2l C dX10_digestFrom_9 ?_
  refine r_ladd C dX10_digestFrom_10 ?_
  refine r_lstore_n C dX10_digestFrom_11 rfl (Nat.le_of_ble_eq_true rfl) (L' := [(3, _), (0, _), (1, _)]) rfl ?_
  refine r_iconst (v := 0) C dX10_digestFrom_12 (by decide) ?_
  refine r_istore C dX10_digestFrom_13 (Nat.le_of_ble_eq_true rfl) (L' := [(5, _), (3, _), (0, _), (1, _)]) rfl ?_
  refine r_sub [2, 1, 0] rfl ?_
  exact t_X10_digestFrom_L15 hn C _ _ _ h
def Q_refuse (v1 : Int32) (s0 : St) : Option (Int32 × St) :=
  if inb v1 6 = true then if inb v1 6 = true then some ((-3), sX (sX s0 0 0 6 v1) 6 0 v1.toNatClampNeg (((sX s0 0 0 6 v1).1 6 0 v1.toNatClampNeg) + 1)) else none else none
set_option maxHeartbeats 4000000 in
set_option maxRecDepth 100000 in
theorem m_X11_refuse {l : Launch} {w : Wp} {v1 : Int32}  {s0 : St} {z : Int32 × St} (h : Q_refuse v1 s0 = some z) : Cm l yX11_refuse (.code yX11_refuse cX11_refuse 2 (some .int)) 0 WC w [.ref (wa w 0 0), .int v1] s0 (some (.int z.1)) z.2 := by
  refine Cm.of (own := RX11) (by decide +kernel) rfl (Nat.le_of_ble_eq_true rfl) (L := [(0, .ref (wa w 0 0)), (1, .int v1)]) rfl KoC (fun x hl C => ?_)
  subst hl
  unfold Q_refuse at h
  refine r_aload_n C dX11_refuse_0 rfl 0 rfl ?_
  refine r_iload_n C dX11_refuse_1 rfl 1 rfl ?_
  refine pfX11_48 C dX11_refuse_2 ?_
  refine r_aload_n C dX11_refuse_5 rfl 0 rfl ?_
  refine gfX11_44 C dX11_refuse_6 ?_
  refine r_iload_n C dX11_refuse_9 rfl 1 rfl ?_
  refine r_dup2 C dX11_refuse_10 rfl rfl ?_
  obtain ⟨g_1, h⟩ := gdE h
  refine ldC_6 C g_1 dX11_refuse_11 ?_
  refine r_iconst (v := 1) C dX11_refuse_12 (by decide) ?_
  refine r_iadd C dX11_refuse_13 ?_
  obtain ⟨g_2, h⟩ := gdE h
  refine stC_6 C g_2 dX11_refuse_14 ?_
  refine r_bipush (v := (-3)) C dX11_refuse_15 (by decide) ?_
  cases h
  exact r_iret C dX11_refuse_17
def Q_row (v1 : Int32) (v2 : Int32) (s0 : St) : Option (Int32 × St) :=
  if (Q_within v1 6) = 0 then (some ((-1), s0)) else (if v2 ≤ 40 then (if 0 ≤ v2 then (if inb v1 6 = true then Option.bind (Rw_renew v1.toNatClampNeg v2 s0) (fun r_5 => some (v2, r_5)) else none) else (Option.bind (Q_refuse 5 s0) (fun r_6 => some (r_6.1, r_6.2)))) else (some ((-1), s0)))
set_option maxHeartbeats 4000000 in
set_option maxRecDepth 100000 in
theorem m_X11_row {l : Launch} {w : Wp} {v1 : Int32} {v2 : Int32}  {s0 : St} {z : Int32 × St} (h : Q_row v1 v2 s0 = some z) : Cm l yX11_row (.code yX11_row cX11_row 3 (some .int)) 2 WC w [.ref (wa w 0 0), .int v1, .int v2] s0 (some (.int z.1)) z.2 := by
  refine Cm.of (own := RX11) (by decide +kernel) rfl (Nat.le_of_ble_eq_true rfl) (L := [(0, .ref (wa w 0 0)), (1, .int v1), (2, .int v2)]) rfl KoC (fun x hl C => ?_)
  subst hl
  unfold Q_row at h
  refine r_iload_n C dX11_row_0 rfl 1 rfl ?_
  refine r_bipush (v := 6) C dX11_row_1 (by decide) ?_
  refine kX11_64 C (m_X11_within rfl) (by decide) (Nat.le_of_ble_eq_true rfl) dX11_row_3 ?_
  refine r_if_eq (tgt := 15) C dX11_row_6 (by decide) (fun c_1 => ?_) (fun c_1 => ?_)
  · have h := ip h c_1
    refine r_iconst (v := (-1)) C dX11_row_15 (by decide) ?_
    cases h
    exact r_iret C dX11_row_16
  · have h := iq h c_1
    refine r_iload_n C dX11_row_9 rfl 2 rfl ?_
    refine r_bipush (v := 40) C dX11_row_10 (by decide) ?_
    refine r_icmp_le (tgt := 17) C dX11_row_12 (by decide) (fun c_2 => ?_) (fun c_2 => ?_)
    · have h := ip h c_2
      refine r_iload_n C dX11_row_17 rfl 2 rfl ?_
      refine r_if_ge (tgt := 27) C dX11_row_18 (by decide) (fun c_3 => ?_) (fun c_3 => ?_)
      · have h := ip h c_3
        refine r_aload_n C dX11_row_27 rfl 0 rfl ?_
        refine gfX11_11 C dX11_row_28 ?_
        refine r_iload_n C dX11_row_31 rfl 1 rfl ?_
        obtain ⟨g_4, h⟩ := gdE h
        refine la_1 C g_4 dX11_row_32 ?_
        refine r_iload_n C dX11_row_33 rfl 2 rfl ?_
        obtain ⟨r_5, er_5, h⟩ := bdE h
        refine kX11_72 C (inb_lt g_4) (m_X7_renew (inb_lt g_4) er_5) (by decide) (Nat.le_of_ble_eq_true rfl) dX11_row_34 ?_
        refine r_iload_n C dX11_row_37 rfl 2 rfl ?_
        cases h
        exact r_iret C dX11_row_38
      · have h := iq h c_3
        refine r_aload_n C dX11_row_21 rfl 0 rfl ?_
        refine r_iconst (v := 5) C dX11_row_22 (by decide) ?_
        obtain ⟨r_6, er_6, h⟩ := bdE h
        refine kX11_68 C (m_X11_refuse er_6) (by decide) (Nat.le_of_ble_eq_true rfl) dX11_row_23 ?_
        cases h
        exact r_iret C dX11_row_26
    · have h := iq h c_2
      refine r_iconst (v := (-1)) C dX11_row_15 (by decide) ?_
      cases h
      exact r_iret C dX11_row_16
def Q_tell (v1 : Int32) (v2 : Int32) (s0 : St) : Option (Int32 × St) :=
  some (v2, sX s0 0 0 7 v1)
set_option maxHeartbeats 4000000 in
set_option maxRecDepth 100000 in
theorem m_X11_tell {l : Launch} {w : Wp} {v1 : Int32} {v2 : Int32}  {s0 : St} {z : Int32 × St} (h : Q_tell v1 v2 s0 = some z) : Cm l yX11_tell (.code yX11_tell cX11_tell 3 (some .int)) 0 WC w [.ref (wa w 0 0), .int v1, .int v2] s0 (some (.int z.1)) z.2 := by
  refine Cm.of (own := RX11) (by decide +kernel) rfl (Nat.le_of_ble_eq_true rfl) (L := [(0, .ref (wa w 0 0)), (1, .int v1), (2, .int v2)]) rfl KoC (fun x hl C => ?_)
  subst hl
  unfold Q_tell at h
  refine r_aload_n C dX11_tell_0 rfl 0 rfl ?_
  refine r_iload_n C dX11_tell_1 rfl 1 rfl ?_
  refine pfX11_52 C dX11_tell_2 ?_
  refine r_iload_n C dX11_tell_5 rfl 2 rfl ?_
  cases h
  exact r_iret C dX11_tell_6
def Q_lay (v1 : Int32) (v2 : Int32) (v3 : Int32) (s0 : St) : Option (Int32 × St) :=
  if (Q_within v1 6) = 0 then (some ((-1), s0)) else (if inb v1 6 = true then if (s0.1 18 v1.toNatClampNeg 1) = (-1) then (Option.bind (Q_refuse 1 s0) (fun r_9 => some (r_9.1, r_9.2))) else (if (Q_within v2 (s0.1 18 v1.toNatClampNeg 1)) = 0 then (Option.bind (Q_refuse 2 s0) (fun r_8 => some (r_8.1, r_8.2))) else (if inb v2 40 = true then if inb v2 40 = true then Option.bind (Q_tell (s0.1 19 v1.toNatClampNeg v2.toNatClampNeg) 1 (sX s0 19 v1.toNatClampNeg v2.toNatClampNeg v3)) (fun r_7 => some (r_7.1, r_7.2)) else none else none)) else none)
set_option maxHeartbeats 4000000 in
set_option maxRecDepth 100000 in
theorem m_X11_lay {l : Launch} {w : Wp} {v1 : Int32} {v2 : Int32} {v3 : Int32}  {s0 : St} {z : Int32 × St} (h : Q_lay v1 v2 v3 s0 = some z) : Cm l yX11_lay (.code yX11_lay cX11_lay 6 (some .int)) 1 WC w [.ref (wa w 0 0), .int v1, .int v2, .int v3] s0 (some (.int z.1)) z.2 := by
  refine Cm.of (own := RX11) (by decide +kernel) rfl (Nat.le_of_ble_eq_true rfl) (L := [(0, .ref (wa w 0 0)), (1, .int v1), (2, .int v2), (3, .int v3)]) rfl KoC (fun x hl C => ?_)
  subst hl
  unfold Q_lay at h
  refine r_iload_n C dX11_lay_0 rfl 1 rfl ?_
  refine r_bipush (v := 6) C dX11_lay_1 (by decide) ?_
  refine kX11_64 C (m_X11_within rfl) (by decide) (Nat.le_of_ble_eq_true rfl) dX11_lay_3 ?_
  refine r_if_ne (tgt := 11) C dX11_lay_6 (by decide) (fun c_1 => ?_) (fun c_1 => ?_)
  · have h := iq h c_1
    refine r_aload_n C dX11_lay_11 rfl 0 rfl ?_
    refine gfX11_11 C dX11_lay_12 ?_
    refine r_iload_n C dX11_lay_15 rfl 1 rfl ?_
    obtain ⟨g_2, h⟩ := gdE h
    refine la_1 C g_2 dX11_lay_16 ?_
    refine r_astore C dX11_lay_17 (Nat.le_of_ble_eq_true rfl) (L' := [(4, _), (0, _), (1, _), (2, _), (3, _)]) rfl ?_
    refine r_aload C dX11_lay_19 0 rfl ?_
    refine gfX11_76 C (inb_lt g_2) dX11_lay_21 ?_
    refine r_iconst (v := (-1)) C dX11_lay_24 (by decide) ?_
    refine r_icmp_ne (tgt := 34) C dX11_lay_25 (by decide) (fun c_3 => ?_) (fun c_3 => ?_)
    · have h := iq h c_3
      refine r_iload_n C dX11_lay_34 rfl 3 rfl ?_
      refine r_aload C dX11_lay_35 0 rfl ?_
      refine gfX11_76 C (inb_lt g_2) dX11_lay_37 ?_
      refine kX11_64 C (m_X11_within rfl) (by decide) (Nat.le_of_ble_eq_true rfl) dX11_lay_40 ?_
      refine r_if_ne (tgt := 52) C dX11_lay_43 (by decide) (fun c_4 => ?_) (fun c_4 => ?_)
      · have h := iq h c_4
        refine r_aload C dX11_lay_52 0 rfl ?_
        refine gfX11_79 C (inb_lt g_2) dX11_lay_54 ?_
        refine r_iload_n C dX11_lay_57 rfl 3 rfl ?_
        obtain ⟨g_5, h⟩ := gdE h
        refine ldC_19 C (inb_lt g_2) g_5 dX11_lay_58 ?_
        refine r_istore C dX11_lay_59 (Nat.le_of_ble_eq_true rfl) (L' := [(5, _), (4, _), (0, _), (1, _), (2, _), (3, _)]) rfl ?_
        refine r_aload C dX11_lay_61 1 rfl ?_
        refine gfX11_79 C (inb_lt g_2) dX11_lay_63 ?_
        refine r_iload_n C dX11_lay_66 rfl 4 rfl ?_
        refine r_iload_n C dX11_lay_67 rfl 5 rfl ?_
        obtain ⟨g_6, h⟩ := gdE h
        refine stC_19 C (inb_lt g_2) g_6 dX11_lay_68 ?_
        refine r_aload_n C dX11_lay_69 rfl 2 rfl ?_
        refine r_iload C dX11_lay_70 0 rfl ?_
        refine r_iconst (v := 1) C dX11_lay_72 (by decide) ?_
        obtain ⟨r_7, er_7, h⟩ := bdE h
        refine kX11_82 C (m_X11_tell er_7) (by decide) (Nat.le_of_ble_eq_true rfl) dX11_lay_73 ?_
        cases h
        exact r_iret C dX11_lay_76
      · have h := ip h c_4
        refine r_aload_n C dX11_lay_46 rfl 1 rfl ?_
        refine r_iconst (v := 2) C dX11_lay_47 (by decide) ?_
        obtain ⟨r_8, er_8, h⟩ := bdE h
        refine kX11_68 C (m_X11_refuse er_8) (by decide) (Nat.le_of_ble_eq_true rfl) dX11_lay_48 ?_
        cases h
        exact r_iret C dX11_lay_51
    · have h := ip h c_3
      refine r_aload_n C dX11_lay_28 rfl 1 rfl ?_
      refine r_iconst (v := 1) C dX11_lay_29 (by decide) ?_
      obtain ⟨r_9, er_9, h⟩ := bdE h
      refine kX11_68 C (m_X11_refuse er_9) (by decide) (Nat.le_of_ble_eq_true rfl) dX11_lay_30 ?_
      cases h
      exact r_iret C dX11_lay_33
  · have h := ip h c_1
    refine r_iconst (v := (-1)) C dX11_lay_9 (by decide) ?_
    cases h
    exact r_iret C dX11_lay_10
def Q_tear (v1 : Int32) (s0 : St) : Option (Int32 × St) :=
  if (Q_within v1 6) = 0 then (some ((-1), s0)) else (if inb v1 6 = true then if (s0.1 18 v1.toNatClampNeg 1) = (-1) then (Option.bind (Q_refuse 1 s0) (fun r_5 => some (r_5.1, r_5.2))) else (if inb v1 6 = true then some (1, sX s0 18 v1.toNatClampNeg 1 (-1)) else none) else none)
set_option maxHeartbeats 4000000 in
set_option maxRecDepth 100000 in
theorem m_X11_tear {l : Launch} {w : Wp} {v1 : Int32}  {s0 : St} {z : Int32 × St} (h : Q_tear v1 s0 = some z) : Cm l yX11_tear (.code yX11_tear cX11_tear 2 (some .int)) 1 WC w [.ref (wa w 0 0), .int v1] s0 (some (.int z.1)) z.2 := by
  refine Cm.of (own := RX11) (by decide +kernel) rfl (Nat.le_of_ble_eq_true rfl) (L := [(0, .ref (wa w 0 0)), (1, .int v1)]) rfl KoC (fun x hl C => ?_)
  subst hl
  unfold Q_tear at h
  refine r_iload_n C dX11_tear_0 rfl 1 rfl ?_
  refine r_bipush (v := 6) C dX11_tear_1 (by decide) ?_
  refine kX11_64 C (m_X11_within rfl) (by decide) (Nat.le_of_ble_eq_true rfl) dX11_tear_3 ?_
  refine r_if_ne (tgt := 11) C dX11_tear_6 (by decide) (fun c_1 => ?_) (fun c_1 => ?_)
  · have h := iq h c_1
    refine r_aload_n C dX11_tear_11 rfl 0 rfl ?_
    refine gfX11_11 C dX11_tear_12 ?_
    refine r_iload_n C dX11_tear_15 rfl 1 rfl ?_
    obtain ⟨g_2, h⟩ := gdE h
    refine la_1 C g_2 dX11_tear_16 ?_
    refine gfX11_76 C (inb_lt g_2) dX11_tear_17 ?_
    refine r_iconst (v := (-1)) C dX11_tear_20 (by decide) ?_
    refine r_icmp_ne (tgt := 30) C dX11_tear_21 (by decide) (fun c_3 => ?_) (fun c_3 => ?_)
    · have h := iq h c_3
      refine r_aload_n C dX11_tear_30 rfl 0 rfl ?_
      refine gfX11_11 C dX11_tear_31 ?_
      refine r_iload_n C dX11_tear_34 rfl 1 rfl ?_
      obtain ⟨g_4, h⟩ := gdE h
      refine la_1 C g_4 dX11_tear_35 ?_
      refine r_iconst (v := (-1)) C dX11_tear_36 (by decide) ?_
      refine pfX11_76 C (inb_lt g_4) dX11_tear_37 ?_
      refine r_iconst (v := 1) C dX11_tear_40 (by decide) ?_
      cases h
      exact r_iret C dX11_tear_41
    · have h := ip h c_3
      refine r_aload_n C dX11_tear_24 rfl 0 rfl ?_
      refine r_iconst (v := 1) C dX11_tear_25 (by decide) ?_
      obtain ⟨r_5, er_5, h⟩ := bdE h
      refine kX11_68 C (m_X11_refuse er_5) (by decide) (Nat.le_of_ble_eq_true rfl) dX11_tear_26 ?_
      cases h
      exact r_iret C dX11_tear_29
  · have h := ip h c_1
    refine r_iconst (v := (-1)) C dX11_tear_9 (by decide) ?_
    cases h
    exact r_iret C dX11_tear_10
def Q_copy_J65    (s_7 : St) : Option (Int32 × St) :=
  Option.bind (Q_refuse 1 s_7) (fun r_8 => some (r_8.1, r_8.2))
def Q_copy_J94    (s_11 : St) : Option (Int32 × St) :=
  Option.bind (Q_refuse 2 s_11) (fun r_12 => some (r_12.1, r_12.2))
def Q_copy (v1 : Int32) (v2 : Int32) (v3 : Int32) (v4 : Int32) (v5 : Int32) (s0 : St) : Option (Int32 × St) :=
  if (Q_within v1 6) = 0 then (some ((-1), s0)) else (if (Q_within v3 6) = 0 then (some ((-1), s0)) else (if 0 ≤ v5 then (if inb v1 6 = true then if inb v3 6 = true then if (s0.1 18 v1.toNatClampNeg 1) = (-1) then (Q_copy_J65 s0) else (if (s0.1 18 v3.toNatClampNeg 1) = (-1) then (Q_copy_J65 s0) else (if (Rw_hasPlaces v1.toNatClampNeg v2 v5 s0) = 0 then (Q_copy_J94 s0) else (if (Rw_hasPlaces v3.toNatClampNeg v4 v5 s0) = 0 then (Q_copy_J94 s0) else (if (¬ v2 < 0) ∧ (¬ v4 < 0) ∧ (¬ v5 < 0) ∧ v2.toNatClampNeg + v5.toNatClampNeg ≤ 40 ∧ v4.toNatClampNeg + v5.toNatClampNeg ≤ 40 then some (1, sR s0 19 v3.toNatClampNeg (va_cpy (s0.1 19 v1.toNatClampNeg) (s0.1 19 v3.toNatClampNeg) v2.toNatClampNeg v4.toNatClampNeg v5.toNatClampNeg)) else none)))) else none else none) else (Option.bind (Q_refuse 5 s0) (fun r_15 => some (r_15.1, r_15.2)))))
set_option maxHeartbeats 4000000 in
set_option maxRecDepth 100000 in
theorem t_X11_copy_J65 {x : Ctx} {w : Wp}   {s_7 : St} {z : Int32 × St}    (C : Cx x WC w cX11_copy 8 RX11 1 (some .int)) (h : Q_copy_J65 s_7 = some z) : V x WC w 8 (QM x WC w (some (.int z.1)) z.2) s_7 65 [(0, .ref (wa w 0 0))] [] := by
  unfold Q_copy_J65 at h
  refine r_aload_n C dX11_copy_65 rfl 0 rfl ?_
  refine r_iconst (v := 1) C dX11_copy_66 (by decide) ?_
  obtain ⟨r_8, er_8, h⟩ := bdE h
  refine kX11_68 C (m_X11_refuse er_8) (by decide) (Nat.le_of_ble_eq_true rfl) dX11_copy_67 ?_
  cases h
  exact r_iret C dX11_copy_70
set_option maxHeartbeats 4000000 in
set_option maxRecDepth 100000 in
theorem t_X11_copy_J94 {x : Ctx} {w : Wp}   {s_11 : St} {z : Int32 × St}    (C : Cx x WC w cX11_copy 8 RX11 1 (some .int)) (h : Q_copy_J94 s_11 = some z) : V x WC w 8 (QM x WC w (some (.int z.1)) z.2) s_11 94 [(0, .ref (wa w 0 0))] [] := by
  unfold Q_copy_J94 at h
  refine r_aload_n C dX11_copy_94 rfl 0 rfl ?_
  refine r_iconst (v := 2) C dX11_copy_95 (by decide) ?_
  obtain ⟨r_12, er_12, h⟩ := bdE h
  refine kX11_68 C (m_X11_refuse er_12) (by decide) (Nat.le_of_ble_eq_true rfl) dX11_copy_96 ?_
  cases h
  exact r_iret C dX11_copy_99
set_option maxHeartbeats 4000000 in
set_option maxRecDepth 100000 in
theorem m_X11_copy {l : Launch} {w : Wp} {v1 : Int32} {v2 : Int32} {v3 : Int32} {v4 : Int32} {v5 : Int32}  {s0 : St} {z : Int32 × St} (h : Q_copy v1 v2 v3 v4 v5 s0 = some z) : Cm l yX11_copy (.code yX11_copy cX11_copy 8 (some .int)) 1 WC w [.ref (wa w 0 0), .int v1, .int v2, .int v3, .int v4, .int v5] s0 (some (.int z.1)) z.2 := by
  refine Cm.of (own := RX11) (by decide +kernel) rfl (Nat.le_of_ble_eq_true rfl) (L := [(0, .ref (wa w 0 0)), (1, .int v1), (2, .int v2), (3, .int v3), (4, .int v4), (5, .int v5)]) rfl KoC (fun x hl C => ?_)
  subst hl
  unfold Q_copy at h
  refine r_iload_n C dX11_copy_0 rfl 1 rfl ?_
  refine r_bipush (v := 6) C dX11_copy_1 (by decide) ?_
  refine kX11_64 C (m_X11_within rfl) (by decide) (Nat.le_of_ble_eq_true rfl) dX11_copy_3 ?_
  refine r_if_eq (tgt := 18) C dX11_copy_6 (by decide) (fun c_1 => ?_) (fun c_1 => ?_)
  · have h := ip h c_1
    refine r_iconst (v := (-1)) C dX11_copy_18 (by decide) ?_
    cases h
    exact r_iret C dX11_copy_19
  · have h := iq h c_1
    refine r_iload_n C dX11_copy_9 rfl 3 rfl ?_
    refine r_bipush (v := 6) C dX11_copy_10 (by decide) ?_
    refine kX11_64 C (m_X11_within rfl) (by decide) (Nat.le_of_ble_eq_true rfl) dX11_copy_12 ?_
    refine r_if_ne (tgt := 20) C dX11_copy_15 (by decide) (fun c_2 => ?_) (fun c_2 => ?_)
    · have h := iq h c_2
      refine r_iload C dX11_copy_20 5 rfl ?_
      refine r_if_ge (tgt := 31) C dX11_copy_22 (by decide) (fun c_3 => ?_) (fun c_3 => ?_)
      · have h := ip h c_3
        refine r_aload_n C dX11_copy_31 rfl 0 rfl ?_
        refine gfX11_11 C dX11_copy_32 ?_
        refine r_iload_n C dX11_copy_35 rfl 1 rfl ?_
        obtain ⟨g_4, h⟩ := gdE h
        refine la_1 C g_4 dX11_copy_36 ?_
        refine r_astore C dX11_copy_37 (Nat.le_of_ble_eq_true rfl) (L' := [(6, _), (0, _), (1, _), (2, _), (3, _), (4, _), (5, _)]) rfl ?_
        refine r_aload_n C dX11_copy_39 rfl 1 rfl ?_
        refine gfX11_11 C dX11_copy_40 ?_
        refine r_iload_n C dX11_copy_43 rfl 4 rfl ?_
        obtain ⟨g_5, h⟩ := gdE h
        refine la_1 C g_5 dX11_copy_44 ?_
        refine r_astore C dX11_copy_45 (Nat.le_of_ble_eq_true rfl) (L' := [(7, _), (6, _), (0, _), (1, _), (2, _), (3, _), (4, _), (5, _)]) rfl ?_
        refine r_aload C dX11_copy_47 1 rfl ?_
        refine gfX11_76 C (inb_lt g_4) dX11_copy_49 ?_
        refine r_iconst (v := (-1)) C dX11_copy_52 (by decide) ?_
        refine r_icmp_eq (tgt := 65) C dX11_copy_53 (by decide) (fun c_6 => ?_) (fun c_6 => ?_)
        · have h := ip h c_6
          refine r_sub [2] rfl ?_
          exact t_X11_copy_J65 C h
        · have h := iq h c_6
          refine r_aload C dX11_copy_56 0 rfl ?_
          refine gfX11_76 C (inb_lt g_5) dX11_copy_58 ?_
          refine r_iconst (v := (-1)) C dX11_copy_61 (by decide) ?_
          refine r_icmp_ne (tgt := 71) C dX11_copy_62 (by decide) (fun c_9 => ?_) (fun c_9 => ?_)
          · have h := iq h c_9
            refine r_aload C dX11_copy_71 1 rfl ?_
            refine r_iload_n C dX11_copy_73 rfl 4 rfl ?_
            refine r_iload C dX11_copy_74 7 rfl ?_
            refine kX11_86 C (inb_lt g_4) (m_X7_hasPlaces (inb_lt g_4) rfl) (by decide) (Nat.le_of_ble_eq_true rfl) dX11_copy_76 ?_
            refine r_if_eq (tgt := 94) C dX11_copy_79 (by decide) (fun c_10 => ?_) (fun c_10 => ?_)
            · have h := ip h c_10
              refine r_sub [2] rfl ?_
              exact t_X11_copy_J94 C h
            · have h := iq h c_10
              refine r_aload C dX11_copy_82 0 rfl ?_
              refine r_iload C dX11_copy_84 6 rfl ?_
              refine r_iload C dX11_copy_86 7 rfl ?_
              refine kX11_86 C (inb_lt g_5) (m_X7_hasPlaces (inb_lt g_5) rfl) (by decide) (Nat.le_of_ble_eq_true rfl) dX11_copy_88 ?_
              refine r_if_ne (tgt := 100) C dX11_copy_91 (by decide) (fun c_13 => ?_) (fun c_13 => ?_)
              · have h := iq h c_13
                refine r_aload C dX11_copy_100 1 rfl ?_
                refine gfX11_79 C (inb_lt g_4) dX11_copy_102 ?_
                refine r_iload_n C dX11_copy_105 rfl 4 rfl ?_
                refine r_aload C dX11_copy_106 0 rfl ?_
                refine gfX11_79 C (inb_lt g_5) dX11_copy_108 ?_
                refine r_iload C dX11_copy_111 6 rfl ?_
                refine r_iload C dX11_copy_113 7 rfl ?_
                obtain ⟨g_14, h⟩ := gdE h
                refine r_acopy (N0 := 40) (N1 := 40) C (mc_19 (inb_lt g_4)) (mc_19 (inb_lt g_5)) rfl (fun _ => rfl) q_449 q_451 q_450 q_15 g_14.1 g_14.2.1 g_14.2.2.1 g_14.2.2.2.1 g_14.2.2.2.2 dX11_copy_115 ?_
                refine r_iconst (v := 1) C dX11_copy_118 (by decide) ?_
                cases h
                exact r_iret C dX11_copy_119
              · have h := ip h c_13
                refine r_sub [2] rfl ?_
                exact t_X11_copy_J94 C h
          · have h := ip h c_9
            refine r_sub [2] rfl ?_
            exact t_X11_copy_J65 C h
      · have h := iq h c_3
        refine r_aload_n C dX11_copy_25 rfl 0 rfl ?_
        refine r_iconst (v := 5) C dX11_copy_26 (by decide) ?_
        obtain ⟨r_15, er_15, h⟩ := bdE h
        refine kX11_68 C (m_X11_refuse er_15) (by decide) (Nat.le_of_ble_eq_true rfl) dX11_copy_27 ?_
        cases h
        exact r_iret C dX11_copy_30
    · have h := ip h c_2
      refine r_iconst (v := (-1)) C dX11_copy_18 (by decide) ?_
      cases h
      exact r_iret C dX11_copy_19
def Q_mean (v1 : Int32) (s0 : St) : Option (Int32 × St) :=
  if (Q_within v1 6) = 0 then (some ((-1), s0)) else (if inb v1 6 = true then if (s0.1 18 v1.toNatClampNeg 1) = (-1) then (Option.bind (Q_refuse 1 s0) (fun r_9 => some (r_9.1, r_9.2))) else (if (s0.1 18 v1.toNatClampNeg 1) = 0 then (Option.bind (Q_refuse 4 s0) (fun r_8 => some (r_8.1, r_8.2))) else (Option.bind (Rw_sum v1.toNatClampNeg s0) (fun r_5 => if ¬ ((s0.1 18 v1.toNatClampNeg 1).toInt64) = 0 then Option.bind (Q_tell ((r_5 / ((s0.1 18 v1.toNatClampNeg 1).toInt64)).toInt32) 1 s0) (fun r_7 => some (r_7.1, r_7.2)) else none))) else none)
set_option maxHeartbeats 4000000 in
set_option maxRecDepth 100000 in
theorem m_X11_mean {l : Launch} {w : Wp} {v1 : Int32}  {s0 : St} {z : Int32 × St} (h : Q_mean v1 s0 = some z) : Cm l yX11_mean (.code yX11_mean cX11_mean 3 (some .int)) 1 WC w [.ref (wa w 0 0), .int v1] s0 (some (.int z.1)) z.2 := by
  refine Cm.of (own := RX11) (by decide +kernel) rfl (Nat.le_of_ble_eq_true rfl) (L := [(0, .ref (wa w 0 0)), (1, .int v1)]) rfl KoC (fun x hl C => ?_)
  subst hl
  unfold Q_mean at h
  refine r_iload_n C dX11_mean_0 rfl 1 rfl ?_
  refine r_bipush (v := 6) C dX11_mean_1 (by decide) ?_
  refine kX11_64 C (m_X11_within rfl) (by decide) (Nat.le_of_ble_eq_true rfl) dX11_mean_3 ?_
  refine r_if_ne (tgt := 11) C dX11_mean_6 (by decide) (fun c_1 => ?_) (fun c_1 => ?_)
  · have h := iq h c_1
    refine r_aload_n C dX11_mean_11 rfl 0 rfl ?_
    refine gfX11_11 C dX11_mean_12 ?_
    refine r_iload_n C dX11_mean_15 rfl 1 rfl ?_
    obtain ⟨g_2, h⟩ := gdE h
    refine la_1 C g_2 dX11_mean_16 ?_
    refine r_astore_n C dX11_mean_17 rfl (Nat.le_of_ble_eq_true rfl) (L' := [(2, _), (0, _), (1, _)]) rfl ?_
    refine r_aload_n C dX11_mean_18 rfl 0 rfl ?_
    refine gfX11_76 C (inb_lt g_2) dX11_mean_19 ?_
    refine r_iconst (v := (-1)) C dX11_mean_22 (by decide) ?_
    refine r_icmp_ne (tgt := 32) C dX11_mean_23 (by decide) (fun c_3 => ?_) (fun c_3 => ?_)
    · have h := iq h c_3
      refine r_aload_n C dX11_mean_32 rfl 0 rfl ?_
      refine gfX11_76 C (inb_lt g_2) dX11_mean_33 ?_
      refine r_if_ne (tgt := 45) C dX11_mean_36 (by decide) (fun c_4 => ?_) (fun c_4 => ?_)
      · have h := iq h c_4
        refine r_aload_n C dX11_mean_45 rfl 1 rfl ?_
        refine r_aload_n C dX11_mean_46 rfl 0 rfl ?_
        obtain ⟨r_5, er_5, h⟩ := bdE h
        refine kX11_95 C (inb_lt g_2) (m_X7_sum (inb_lt g_2) er_5) (by decide) (Nat.le_of_ble_eq_true rfl) dX11_mean_47 ?_
        refine r_aload_n C dX11_mean_50 rfl 0 rfl ?_
        refine gfX11_76 C (inb_lt g_2) dX11_mean_51 ?_
        refine r_i2l C dX11_mean_54 ?_
        obtain ⟨g_6, h⟩ := gdE h
        refine r_ldiv C dX11_mean_55 g_6 ?_
        refine r_l2i C dX11_mean_56 ?_
        refine r_iconst (v := 1) C dX11_mean_57 (by decide) ?_
        obtain ⟨r_7, er_7, h⟩ := bdE h
        refine kX11_82 C (m_X11_tell er_7) (by decide) (Nat.le_of_ble_eq_true rfl) dX11_mean_58 ?_
        cases h
        exact r_iret C dX11_mean_61
      · have h := ip h c_4
        refine r_aload_n C dX11_mean_39 rfl 1 rfl ?_
        refine r_iconst (v := 4) C dX11_mean_40 (by decide) ?_
        obtain ⟨r_8, er_8, h⟩ := bdE h
        refine kX11_68 C (m_X11_refuse er_8) (by decide) (Nat.le_of_ble_eq_true rfl) dX11_mean_41 ?_
        cases h
        exact r_iret C dX11_mean_44
    · have h := ip h c_3
      refine r_aload_n C dX11_mean_26 rfl 1 rfl ?_
      refine r_iconst (v := 1) C dX11_mean_27 (by decide) ?_
      obtain ⟨r_9, er_9, h⟩ := bdE h
      refine kX11_68 C (m_X11_refuse er_9) (by decide) (Nat.le_of_ble_eq_true rfl) dX11_mean_28 ?_
      cases h
      exact r_iret C dX11_mean_31
  · have h := ip h c_1
    refine r_iconst (v := (-1)) C dX11_mean_9 (by decide) ?_
    cases h
    exact r_iret C dX11_mean_10
def Q_text (v1 : Int32) (v2 : Int32) (s0 : St) : Option (Int32 × St) :=
  if (Q_within v1 4) = 0 then (some ((-1), s0)) else (if v2 ≤ 40 then (if 0 ≤ v2 then (if inb v1 4 = true then Option.bind (Tx_renew v1.toNatClampNeg v2 s0) (fun r_5 => some (v2, r_5)) else none) else (Option.bind (Q_refuse 5 s0) (fun r_6 => some (r_6.1, r_6.2)))) else (some ((-1), s0)))
set_option maxHeartbeats 4000000 in
set_option maxRecDepth 100000 in
theorem m_X11_text {l : Launch} {w : Wp} {v1 : Int32} {v2 : Int32}  {s0 : St} {z : Int32 × St} (h : Q_text v1 v2 s0 = some z) : Cm l yX11_text (.code yX11_text cX11_text 3 (some .int)) 2 WC w [.ref (wa w 0 0), .int v1, .int v2] s0 (some (.int z.1)) z.2 := by
  refine Cm.of (own := RX11) (by decide +kernel) rfl (Nat.le_of_ble_eq_true rfl) (L := [(0, .ref (wa w 0 0)), (1, .int v1), (2, .int v2)]) rfl KoC (fun x hl C => ?_)
  subst hl
  unfold Q_text at h
  refine r_iload_n C dX11_text_0 rfl 1 rfl ?_
  refine r_iconst (v := 4) C dX11_text_1 (by decide) ?_
  refine kX11_64 C (m_X11_within rfl) (by decide) (Nat.le_of_ble_eq_true rfl) dX11_text_2 ?_
  refine r_if_eq (tgt := 14) C dX11_text_5 (by decide) (fun c_1 => ?_) (fun c_1 => ?_)
  · have h := ip h c_1
    refine r_iconst (v := (-1)) C dX11_text_14 (by decide) ?_
    cases h
    exact r_iret C dX11_text_15
  · have h := iq h c_1
    refine r_iload_n C dX11_text_8 rfl 2 rfl ?_
    refine r_bipush (v := 40) C dX11_text_9 (by decide) ?_
    refine r_icmp_le (tgt := 16) C dX11_text_11 (by decide) (fun c_2 => ?_) (fun c_2 => ?_)
    · have h := ip h c_2
      refine r_iload_n C dX11_text_16 rfl 2 rfl ?_
      refine r_if_ge (tgt := 26) C dX11_text_17 (by decide) (fun c_3 => ?_) (fun c_3 => ?_)
      · have h := ip h c_3
        refine r_aload_n C dX11_text_26 rfl 0 rfl ?_
        refine gfX11_17 C dX11_text_27 ?_
        refine r_iload_n C dX11_text_30 rfl 1 rfl ?_
        obtain ⟨g_4, h⟩ := gdE h
        refine la_2 C g_4 dX11_text_31 ?_
        refine r_iload_n C dX11_text_32 rfl 2 rfl ?_
        obtain ⟨r_5, er_5, h⟩ := bdE h
        refine kX11_99 C (inb_lt g_4) (m_X10_renew (inb_lt g_4) er_5) (by decide) (Nat.le_of_ble_eq_true rfl) dX11_text_33 ?_
        refine r_iload_n C dX11_text_36 rfl 2 rfl ?_
        cases h
        exact r_iret C dX11_text_37
      · have h := iq h c_3
        refine r_aload_n C dX11_text_20 rfl 0 rfl ?_
        refine r_iconst (v := 5) C dX11_text_21 (by decide) ?_
        obtain ⟨r_6, er_6, h⟩ := bdE h
        refine kX11_68 C (m_X11_refuse er_6) (by decide) (Nat.le_of_ble_eq_true rfl) dX11_text_22 ?_
        cases h
        exact r_iret C dX11_text_25
    · have h := iq h c_2
      refine r_iconst (v := (-1)) C dX11_text_14 (by decide) ?_
      cases h
      exact r_iret C dX11_text_15
def Q_put (v1 : Int32) (v2 : Int32) (v3 : Int32) (s0 : St) : Option (Int32 × St) :=
  if (Q_within v1 4) = 0 then (some ((-1), s0)) else (if inb v1 4 = true then if (s0.1 20 v1.toNatClampNeg 1) = (-1) then (Option.bind (Q_refuse 1 s0) (fun r_8 => some (r_8.1, r_8.2))) else (if (Q_within v2 (s0.1 20 v1.toNatClampNeg 1)) = 0 then (Option.bind (Q_refuse 2 s0) (fun r_7 => some (r_7.1, r_7.2))) else (if inb v2 40 = true then if inb v2 40 = true then some ((s0.1 21 v1.toNatClampNeg v2.toNatClampNeg) + 1000, sX s0 21 v1.toNatClampNeg v2.toNatClampNeg (vp_nar .byte v3.toInt8.toInt32)) else none else none)) else none)
set_option maxHeartbeats 4000000 in
set_option maxRecDepth 100000 in
theorem m_X11_put {l : Launch} {w : Wp} {v1 : Int32} {v2 : Int32} {v3 : Int32}  {s0 : St} {z : Int32 × St} (h : Q_put v1 v2 v3 s0 = some z) : Cm l yX11_put (.code yX11_put cX11_put 6 (some .int)) 1 WC w [.ref (wa w 0 0), .int v1, .int v2, .int v3] s0 (some (.int z.1)) z.2 := by
  refine Cm.of (own := RX11) (by decide +kernel) rfl (Nat.le_of_ble_eq_true rfl) (L := [(0, .ref (wa w 0 0)), (1, .int v1), (2, .int v2), (3, .int v3)]) rfl KoC (fun x hl C => ?_)
  subst hl
  unfold Q_put at h
  refine r_iload_n C dX11_put_0 rfl 1 rfl ?_
  refine r_iconst (v := 4) C dX11_put_1 (by decide) ?_
  refine kX11_64 C (m_X11_within rfl) (by decide) (Nat.le_of_ble_eq_true rfl) dX11_put_2 ?_
  refine r_if_ne (tgt := 10) C dX11_put_5 (by decide) (fun c_1 => ?_) (fun c_1 => ?_)
  · have h := iq h c_1
    refine r_aload_n C dX11_put_10 rfl 0 rfl ?_
    refine gfX11_17 C dX11_put_11 ?_
    refine r_iload_n C dX11_put_14 rfl 1 rfl ?_
    obtain ⟨g_2, h⟩ := gdE h
    refine la_2 C g_2 dX11_put_15 ?_
    refine r_astore C dX11_put_16 (Nat.le_of_ble_eq_true rfl) (L' := [(4, _), (0, _), (1, _), (2, _), (3, _)]) rfl ?_
    refine r_aload C dX11_put_18 0 rfl ?_
    refine gfX11_100 C (inb_lt g_2) dX11_put_20 ?_
    refine r_iconst (v := (-1)) C dX11_put_23 (by decide) ?_
    refine r_icmp_ne (tgt := 33) C dX11_put_24 (by decide) (fun c_3 => ?_) (fun c_3 => ?_)
    · have h := iq h c_3
      refine r_iload_n C dX11_put_33 rfl 3 rfl ?_
      refine r_aload C dX11_put_34 0 rfl ?_
      refine gfX11_100 C (inb_lt g_2) dX11_put_36 ?_
      refine kX11_64 C (m_X11_within rfl) (by decide) (Nat.le_of_ble_eq_true rfl) dX11_put_39 ?_
      refine r_if_ne (tgt := 51) C dX11_put_42 (by decide) (fun c_4 => ?_) (fun c_4 => ?_)
      · have h := iq h c_4
        refine r_aload C dX11_put_51 0 rfl ?_
        refine gfX11_101 C (inb_lt g_2) dX11_put_53 ?_
        refine r_iload_n C dX11_put_56 rfl 3 rfl ?_
        obtain ⟨g_5, h⟩ := gdE h
        refine ldC_21 C (inb_lt g_2) g_5 dX11_put_57 ?_
        refine r_istore C dX11_put_58 (Nat.le_of_ble_eq_true rfl) (L' := [(5, _), (4, _), (0, _), (1, _), (2, _), (3, _)]) rfl ?_
        refine r_aload C dX11_put_60 1 rfl ?_
        refine gfX11_101 C (inb_lt g_2) dX11_put_62 ?_
        refine r_iload_n C dX11_put_65 rfl 4 rfl ?_
        refine r_iload_n C dX11_put_66 rfl 5 rfl ?_
        refine r_i2b C dX11_put_67 ?_
        obtain ⟨g_6, h⟩ := gdE h
        refine stC_21 C (inb_lt g_2) g_6 dX11_put_68 ?_
        refine r_iload C dX11_put_69 0 rfl ?_
        refine r_sipush (v := 1000) C dX11_put_71 (by decide) ?_
        refine r_iadd C dX11_put_74 ?_
        cases h
        exact r_iret C dX11_put_75
      · have h := ip h c_4
        refine r_aload_n C dX11_put_45 rfl 1 rfl ?_
        refine r_iconst (v := 2) C dX11_put_46 (by decide) ?_
        obtain ⟨r_7, er_7, h⟩ := bdE h
        refine kX11_68 C (m_X11_refuse er_7) (by decide) (Nat.le_of_ble_eq_true rfl) dX11_put_47 ?_
        cases h
        exact r_iret C dX11_put_50
    · have h := ip h c_3
      refine r_aload_n C dX11_put_27 rfl 1 rfl ?_
      refine r_iconst (v := 1) C dX11_put_28 (by decide) ?_
      obtain ⟨r_8, er_8, h⟩ := bdE h
      refine kX11_68 C (m_X11_refuse er_8) (by decide) (Nat.le_of_ble_eq_true rfl) dX11_put_29 ?_
      cases h
      exact r_iret C dX11_put_32
  · have h := ip h c_1
    refine r_iconst (v := (-1)) C dX11_put_8 (by decide) ?_
    cases h
    exact r_iret C dX11_put_9
def Q_instance (v1 : Int32) (s0 : St) : Option (Int32 × St) :=
  if (Q_within v1 32) = 0 then (some ((-1), s0)) else (if (s0.1 3 0 3) = 12 then (some ((-2), s0)) else (Option.bind (Bk_addCase v1 s0) (fun r_3 => some (r_3.1, r_3.2))))
set_option maxHeartbeats 4000000 in
set_option maxRecDepth 100000 in
theorem m_X11_instance {l : Launch} {w : Wp} {v1 : Int32}  {s0 : St} {z : Int32 × St} (h : Q_instance v1 s0 = some z) : Cm l yX11_instance (.code yX11_instance cX11_instance 2 (some .int)) 1 WC w [.ref (wa w 0 0), .int v1] s0 (some (.int z.1)) z.2 := by
  refine Cm.of (own := RX11) (by decide +kernel) rfl (Nat.le_of_ble_eq_true rfl) (L := [(0, .ref (wa w 0 0)), (1, .int v1)]) rfl KoC (fun x hl C => ?_)
  subst hl
  unfold Q_instance at h
  refine r_iload_n C dX11_instance_0 rfl 1 rfl ?_
  refine r_bipush (v := 32) C dX11_instance_1 (by decide) ?_
  refine kX11_64 C (m_X11_within rfl) (by decide) (Nat.le_of_ble_eq_true rfl) dX11_instance_3 ?_
  refine r_if_ne (tgt := 11) C dX11_instance_6 (by decide) (fun c_1 => ?_) (fun c_1 => ?_)
  · have h := iq h c_1
    refine r_aload_n C dX11_instance_11 rfl 0 rfl ?_
    refine gfX11_24 C dX11_instance_12 ?_
    refine gfX11_105 C dX11_instance_15 ?_
    refine r_bipush (v := 12) C dX11_instance_18 (by decide) ?_
    refine r_icmp_ne (tgt := 26) C dX11_instance_20 (by decide) (fun c_2 => ?_) (fun c_2 => ?_)
    · have h := iq h c_2
      refine r_aload_n C dX11_instance_26 rfl 0 rfl ?_
      refine gfX11_24 C dX11_instance_27 ?_
      refine r_iload_n C dX11_instance_30 rfl 1 rfl ?_
      obtain ⟨r_3, er_3, h⟩ := bdE h
      refine kX11_108 C (m_X1_addCase er_3) (by decide) (Nat.le_of_ble_eq_true rfl) dX11_instance_31 ?_
      cases h
      exact r_iret C dX11_instance_34
    · have h := ip h c_2
      refine r_bipush (v := (-2)) C dX11_instance_23 (by decide) ?_
      cases h
      exact r_iret C dX11_instance_25
  · have h := ip h c_1
    refine r_iconst (v := (-1)) C dX11_instance_9 (by decide) ?_
    cases h
    exact r_iret C dX11_instance_10
def Q_master_J46  (v1_5 : Int32) (v2_6 : Int32) (v3_7 : Int32)  (s_8 : St) : Option (Int32 × St) :=
  if (s_8.1 3 0 5) = 8 then (some ((-2), s_8)) else (Option.bind (Bk_addMaster v1_5 v2_6 v3_7 s_8) (fun r_10 => some (r_10.1, r_10.2)))
def Q_master (v1 : Int32) (v2 : Int32) (v3 : Int32) (s0 : St) : Option (Int32 × St) :=
  if (Q_within v1 1000) = 0 then (some ((-1), s0)) else (if (Q_within v2 1000) = 0 then (some ((-1), s0)) else (if v1 ≤ v2 then (if v3 = (-9) then (Q_master_J46 v1 v2 v3 s0) else (if (Bk_hasMaster v3 s0) = 0 then (some ((-1), s0)) else (Q_master_J46 v1 v2 v3 s0))) else (some ((-1), s0))))
set_option maxHeartbeats 4000000 in
set_option maxRecDepth 100000 in
theorem t_X11_master_J46 {x : Ctx} {w : Wp} {v1_5 : Int32} {v2_6 : Int32} {v3_7 : Int32}  {s_8 : St} {z : Int32 × St}    (C : Cx x WC w cX11_master 4 RX11 2 (some .int)) (h : Q_master_J46 v1_5 v2_6 v3_7 s_8 = some z) : V x WC w 4 (QM x WC w (some (.int z.1)) z.2) s_8 46 [(0, .ref (wa w 0 0)), (1, .int v1_5), (2, .int v2_6), (3, .int v3_7)] [] := by
  unfold Q_master_J46 at h
  refine r_aload_n C dX11_master_46 rfl 0 rfl ?_
  refine gfX11_24 C dX11_master_47 ?_
  refine gfX11_115 C dX11_master_50 ?_
  refine r_bipush (v := 8) C dX11_master_53 (by decide) ?_
  refine r_icmp_ne (tgt := 61) C dX11_master_55 (by decide) (fun c_9 => ?_) (fun c_9 => ?_)
  · have h := iq h c_9
    refine r_aload_n C dX11_master_61 rfl 0 rfl ?_
    refine gfX11_24 C dX11_master_62 ?_
    refine r_iload_n C dX11_master_65 rfl 1 rfl ?_
    refine r_iload_n C dX11_master_66 rfl 2 rfl ?_
    refine r_iload_n C dX11_master_67 rfl 3 rfl ?_
    obtain ⟨r_10, er_10, h⟩ := bdE h
    refine kX11_118 C (m_X1_addMaster er_10) (by decide) (Nat.le_of_ble_eq_true rfl) dX11_master_68 ?_
    cases h
    exact r_iret C dX11_master_71
  · have h := ip h c_9
    refine r_bipush (v := (-2)) C dX11_master_58 (by decide) ?_
    cases h
    exact r_iret C dX11_master_60
set_option maxHeartbeats 4000000 in
set_option maxRecDepth 100000 in
theorem m_X11_master {l : Launch} {w : Wp} {v1 : Int32} {v2 : Int32} {v3 : Int32}  {s0 : St} {z : Int32 × St} (h : Q_master v1 v2 v3 s0 = some z) : Cm l yX11_master (.code yX11_master cX11_master 4 (some .int)) 2 WC w [.ref (wa w 0 0), .int v1, .int v2, .int v3] s0 (some (.int z.1)) z.2 := by
  refine Cm.of (own := RX11) (by decide +kernel) rfl (Nat.le_of_ble_eq_true rfl) (L := [(0, .ref (wa w 0 0)), (1, .int v1), (2, .int v2), (3, .int v3)]) rfl KoC (fun x hl C => ?_)
  subst hl
  unfold Q_master at h
  refine r_iload_n C dX11_master_0 rfl 1 rfl ?_
  refine r_sipush (v := 1000) C dX11_master_1 (by decide) ?_
  refine kX11_64 C (m_X11_within rfl) (by decide) (Nat.le_of_ble_eq_true rfl) dX11_master_4 ?_
  refine r_if_eq (tgt := 25) C dX11_master_7 (by decide) (fun c_1 => ?_) (fun c_1 => ?_)
  · have h := ip h c_1
    refine r_iconst (v := (-1)) C dX11_master_25 (by decide) ?_
    cases h
    exact r_iret C dX11_master_26
  · have h := iq h c_1
    refine r_iload_n C dX11_master_10 rfl 2 rfl ?_
    refine r_sipush (v := 1000) C dX11_master_11 (by decide) ?_
    refine kX11_64 C (m_X11_within rfl) (by decide) (Nat.le_of_ble_eq_true rfl) dX11_master_14 ?_
    refine r_if_eq (tgt := 25) C dX11_master_17 (by decide) (fun c_2 => ?_) (fun c_2 => ?_)
    · have h := ip h c_2
      refine r_iconst (v := (-1)) C dX11_master_25 (by decide) ?_
      cases h
      exact r_iret C dX11_master_26
    · have h := iq h c_2
      refine r_iload_n C dX11_master_20 rfl 2 rfl ?_
      refine r_iload_n C dX11_master_21 rfl 1 rfl ?_
      refine r_icmp_ge (tgt := 27) C dX11_master_22 (by decide) (fun c_3 => ?_) (fun c_3 => ?_)
      · have h := ip h c_3
        refine r_iload_n C dX11_master_27 rfl 3 rfl ?_
        refine r_bipush (v := (-9)) C dX11_master_28 (by decide) ?_
        refine r_icmp_eq (tgt := 46) C dX11_master_30 (by decide) (fun c_4 => ?_) (fun c_4 => ?_)
        · have h := ip h c_4
          refine r_sub [0, 1, 2, 3] rfl ?_
          exact t_X11_master_J46 C h
        · have h := iq h c_4
          refine r_aload_n C dX11_master_33 rfl 0 rfl ?_
          refine gfX11_24 C dX11_master_34 ?_
          refine r_iload_n C dX11_master_37 rfl 3 rfl ?_
          refine kX11_111 C (m_X1_hasMaster rfl) (by decide) (Nat.le_of_ble_eq_true rfl) dX11_master_38 ?_
          refine r_if_ne (tgt := 46) C dX11_master_41 (by decide) (fun c_11 => ?_) (fun c_11 => ?_)
          · have h := iq h c_11
            refine r_sub [0, 1, 2, 3] rfl ?_
            exact t_X11_master_J46 C h
          · have h := ip h c_11
            refine r_iconst (v := (-1)) C dX11_master_44 (by decide) ?_
            cases h
            exact r_iret C dX11_master_45
      · have h := iq h c_3
        refine r_iconst (v := (-1)) C dX11_master_25 (by decide) ?_
        cases h
        exact r_iret C dX11_master_26
def Q_saying_J52  (v1_6 : Int32) (v2_7 : Int32) (v3_8 : Int32) (v4_9 : Int32) (v5_10 : Int32)  (s_11 : St) : Option (Int32 × St) :=
  Option.bind (Bk_hasRoom v1_6 1 s_11) (fun r_12 => if r_12 = 0 then (some ((-2), s_11)) else (Option.bind (Bk_addSaying v1_6 v2_7 v3_8 v4_9 v5_10 s_11) (fun r_14 => some (r_14.1, r_14.2))))
def Q_saying (v1 : Int32) (v2 : Int32) (v3 : Int32) (v4 : Int32) (v5 : Int32) (s0 : St) : Option (Int32 × St) :=
  Option.bind (Bk_hasYear v1 v3 s0) (fun r_1 => if r_1 = 0 then (some ((-1), s0)) else (if (Bk_hasCase v2 s0) = 0 then (some ((-1), s0)) else (if (Q_within v4 2) = 0 then (some ((-1), s0)) else (if v5 = (-9) then (Q_saying_J52 v1 v2 v3 v4 v5 s0) else (if (Q_within v5 5) = 0 then (some ((-1), s0)) else (Q_saying_J52 v1 v2 v3 v4 v5 s0))))))
set_option maxHeartbeats 4000000 in
set_option maxRecDepth 100000 in
theorem t_X11_saying_J52 {x : Ctx} {w : Wp} {v1_6 : Int32} {v2_7 : Int32} {v3_8 : Int32} {v4_9 : Int32} {v5_10 : Int32}  {s_11 : St} {z : Int32 × St}    (C : Cx x WC w cX11_saying 6 RX11 3 (some .int)) (h : Q_saying_J52 v1_6 v2_7 v3_8 v4_9 v5_10 s_11 = some z) : V x WC w 6 (QM x WC w (some (.int z.1)) z.2) s_11 52 [(0, .ref (wa w 0 0)), (1, .int v1_6), (2, .int v2_7), (3, .int v3_8), (4, .int v4_9), (5, .int v5_10)] [] := by
  unfold Q_saying_J52 at h
  refine r_aload_n C dX11_saying_52 rfl 0 rfl ?_
  refine gfX11_24 C dX11_saying_53 ?_
  refine r_iload_n C dX11_saying_56 rfl 1 rfl ?_
  refine r_iconst (v := 1) C dX11_saying_57 (by decide) ?_
  obtain ⟨r_12, er_12, h⟩ := bdE h
  refine kX11_128 C (m_X1_hasRoom er_12) (by decide) (Nat.le_of_ble_eq_true rfl) dX11_saying_58 ?_
  refine r_if_ne (tgt := 67) C dX11_saying_61 (by decide) (fun c_13 => ?_) (fun c_13 => ?_)
  · have h := iq h c_13
    refine r_aload_n C dX11_saying_67 rfl 0 rfl ?_
    refine gfX11_24 C dX11_saying_68 ?_
    refine r_iload_n C dX11_saying_71 rfl 1 rfl ?_
    refine r_iload_n C dX11_saying_72 rfl 2 rfl ?_
    refine r_iload_n C dX11_saying_73 rfl 3 rfl ?_
    refine r_iload C dX11_saying_74 4 rfl ?_
    refine r_iload C dX11_saying_76 5 rfl ?_
    obtain ⟨r_14, er_14, h⟩ := bdE h
    refine kX11_131 C (m_X1_addSaying er_14) (by decide) (Nat.le_of_ble_eq_true rfl) dX11_saying_78 ?_
    cases h
    exact r_iret C dX11_saying_81
  · have h := ip h c_13
    refine r_bipush (v := (-2)) C dX11_saying_64 (by decide) ?_
    cases h
    exact r_iret C dX11_saying_66
set_option maxHeartbeats 4000000 in
set_option maxRecDepth 100000 in
theorem m_X11_saying {l : Launch} {w : Wp} {v1 : Int32} {v2 : Int32} {v3 : Int32} {v4 : Int32} {v5 : Int32}  {s0 : St} {z : Int32 × St} (h : Q_saying v1 v2 v3 v4 v5 s0 = some z) : Cm l yX11_saying (.code yX11_saying cX11_saying 6 (some .int)) 3 WC w [.ref (wa w 0 0), .int v1, .int v2, .int v3, .int v4, .int v5] s0 (some (.int z.1)) z.2 := by
  refine Cm.of (own := RX11) (by decide +kernel) rfl (Nat.le_of_ble_eq_true rfl) (L := [(0, .ref (wa w 0 0)), (1, .int v1), (2, .int v2), (3, .int v3), (4, .int v4), (5, .int v5)]) rfl KoC (fun x hl C => ?_)
  subst hl
  unfold Q_saying at h
  refine r_aload_n C dX11_saying_0 rfl 0 rfl ?_
  refine gfX11_24 C dX11_saying_1 ?_
  refine r_iload_n C dX11_saying_4 rfl 1 rfl ?_
  refine r_iload_n C dX11_saying_5 rfl 3 rfl ?_
  obtain ⟨r_1, er_1, h⟩ := bdE h
  refine kX11_122 C (m_X1_hasYear er_1) (by decide) (Nat.le_of_ble_eq_true rfl) dX11_saying_6 ?_
  refine r_if_eq (tgt := 23) C dX11_saying_9 (by decide) (fun c_2 => ?_) (fun c_2 => ?_)
  · have h := ip h c_2
    refine r_iconst (v := (-1)) C dX11_saying_23 (by decide) ?_
    cases h
    exact r_iret C dX11_saying_24
  · have h := iq h c_2
    refine r_aload_n C dX11_saying_12 rfl 0 rfl ?_
    refine gfX11_24 C dX11_saying_13 ?_
    refine r_iload_n C dX11_saying_16 rfl 2 rfl ?_
    refine kX11_125 C (m_X1_hasCase rfl) (by decide) (Nat.le_of_ble_eq_true rfl) dX11_saying_17 ?_
    refine r_if_ne (tgt := 25) C dX11_saying_20 (by decide) (fun c_3 => ?_) (fun c_3 => ?_)
    · have h := iq h c_3
      refine r_iload C dX11_saying_25 4 rfl ?_
      refine r_iconst (v := 2) C dX11_saying_27 (by decide) ?_
      refine kX11_64 C (m_X11_within rfl) (by decide) (Nat.le_of_ble_eq_true rfl) dX11_saying_28 ?_
      refine r_if_eq (tgt := 50) C dX11_saying_31 (by decide) (fun c_4 => ?_) (fun c_4 => ?_)
      · have h := ip h c_4
        refine r_iconst (v := (-1)) C dX11_saying_50 (by decide) ?_
        cases h
        exact r_iret C dX11_saying_51
      · have h := iq h c_4
        refine r_iload C dX11_saying_34 5 rfl ?_
        refine r_bipush (v := (-9)) C dX11_saying_36 (by decide) ?_
        refine r_icmp_eq (tgt := 52) C dX11_saying_38 (by decide) (fun c_5 => ?_) (fun c_5 => ?_)
        · have h := ip h c_5
          refine r_sub [0, 1, 2, 3, 4, 5] rfl ?_
          exact t_X11_saying_J52 C h
        · have h := iq h c_5
          refine r_iload C dX11_saying_41 5 rfl ?_
          refine r_iconst (v := 5) C dX11_saying_43 (by decide) ?_
          refine kX11_64 C (m_X11_within rfl) (by decide) (Nat.le_of_ble_eq_true rfl) dX11_saying_44 ?_
          refine r_if_ne (tgt := 52) C dX11_saying_47 (by decide) (fun c_15 => ?_) (fun c_15 => ?_)
          · have h := iq h c_15
            refine r_sub [0, 1, 2, 3, 4, 5] rfl ?_
            exact t_X11_saying_J52 C h
          · have h := ip h c_15
            refine r_iconst (v := (-1)) C dX11_saying_50 (by decide) ?_
            cases h
            exact r_iret C dX11_saying_51
    · have h := ip h c_3
      refine r_iconst (v := (-1)) C dX11_saying_23 (by decide) ?_
      cases h
      exact r_iret C dX11_saying_24
