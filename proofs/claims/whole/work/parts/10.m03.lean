def M_lifeTells (v1 : Int32) (v2 : Int32) (s0 : St) : Option (Int32) :=
  if v2 = 0 then (if inb v1 8 = true then some (s0.1 13 0 v1.toNatClampNeg) else none) else (if v2 = 1 then (if inb v1 8 = true then some (s0.1 14 0 v1.toNatClampNeg) else none) else (if v2 = 2 then (if inb v1 8 = true then some (s0.1 15 0 v1.toNatClampNeg) else none) else (if v2 = 3 then (Option.bind (M_sayingsOf v1 s0) (fun r_6 => some r_6)) else (Option.bind (M_pupils v1 s0) (fun r_5 => some r_5)))))
set_option maxHeartbeats 4000000 in
set_option maxRecDepth 100000 in
theorem m_X12_lifeTells {l : Launch} {w : Wp} {v1 : Int32} {v2 : Int32}  {s0 : St} {z : Int32} (h : M_lifeTells v1 v2 s0 = some z) : Cm l yX12_lifeTells (.code yX12_lifeTells cX12_lifeTells 3 (some .int)) 1 WM w [.ref (wa w 0 0), .int v1, .int v2] s0 (some (.int z)) s0 := by
  refine Cm.of (own := RX12) (by decide +kernel) rfl (Nat.le_of_ble_eq_true rfl) (L := [(0, .ref (wa w 0 0)), (1, .int v1), (2, .int v2)]) rfl KoM (fun x hl C => ?_)
  subst hl
  unfold M_lifeTells at h
  refine r_iload_n C dX12_lifeTells_0 rfl 2 rfl ?_
  refine r_if_ne (tgt := 13) C dX12_lifeTells_1 (by decide) (fun c_1 => ?_) (fun c_1 => ?_)
  · have h := iq h c_1
    refine r_iload_n C dX12_lifeTells_13 rfl 2 rfl ?_
    refine r_iconst (v := 1) C dX12_lifeTells_14 (by decide) ?_
    refine r_icmp_ne (tgt := 27) C dX12_lifeTells_15 (by decide) (fun c_2 => ?_) (fun c_2 => ?_)
    · have h := iq h c_2
      refine r_iload_n C dX12_lifeTells_27 rfl 2 rfl ?_
      refine r_iconst (v := 2) C dX12_lifeTells_28 (by decide) ?_
      refine r_icmp_ne (tgt := 41) C dX12_lifeTells_29 (by decide) (fun c_3 => ?_) (fun c_3 => ?_)
      · have h := iq h c_3
        refine r_iload_n C dX12_lifeTells_41 rfl 2 rfl ?_
        refine r_iconst (v := 3) C dX12_lifeTells_42 (by decide) ?_
        refine r_icmp_ne (tgt := 54) C dX12_lifeTells_43 (by decide) (fun c_4 => ?_) (fun c_4 => ?_)
        · have h := iq h c_4
          refine r_aload_n C dX12_lifeTells_54 rfl 0 rfl ?_
          refine r_iload_n C dX12_lifeTells_55 rfl 1 rfl ?_
          obtain ⟨r_5, er_5, h⟩ := bdE h
          refine kX12_163 C (m_X12_pupils er_5) (by decide) (Nat.le_of_ble_eq_true rfl) dX12_lifeTells_56 ?_
          cases h
          exact r_iret C dX12_lifeTells_59
        · have h := ip h c_4
          refine r_aload_n C dX12_lifeTells_46 rfl 0 rfl ?_
          refine r_iload_n C dX12_lifeTells_47 rfl 1 rfl ?_
          obtain ⟨r_6, er_6, h⟩ := bdE h
          refine kX12_150 C (m_X12_sayingsOf er_6) (by decide) (Nat.le_of_ble_eq_true rfl) dX12_lifeTells_48 ?_
          refine r_goto (tgt := 59) C dX12_lifeTells_51 (by decide) ?_
          cases h
          exact r_iret C dX12_lifeTells_59
      · have h := ip h c_3
        refine r_aload_n C dX12_lifeTells_32 rfl 0 rfl ?_
        refine gfX12_41 C dX12_lifeTells_33 ?_
        refine r_iload_n C dX12_lifeTells_36 rfl 1 rfl ?_
        obtain ⟨g_7, h⟩ := gdE h
        refine ldM_15 C g_7 dX12_lifeTells_37 ?_
        refine r_goto (tgt := 59) C dX12_lifeTells_38 (by decide) ?_
        cases h
        exact r_iret C dX12_lifeTells_59
    · have h := ip h c_2
      refine r_aload_n C dX12_lifeTells_18 rfl 0 rfl ?_
      refine gfX12_38 C dX12_lifeTells_19 ?_
      refine r_iload_n C dX12_lifeTells_22 rfl 1 rfl ?_
      obtain ⟨g_8, h⟩ := gdE h
      refine ldM_14 C g_8 dX12_lifeTells_23 ?_
      refine r_goto (tgt := 59) C dX12_lifeTells_24 (by decide) ?_
      cases h
      exact r_iret C dX12_lifeTells_59
  · have h := ip h c_1
    refine r_aload_n C dX12_lifeTells_4 rfl 0 rfl ?_
    refine gfX12_35 C dX12_lifeTells_5 ?_
    refine r_iload_n C dX12_lifeTells_8 rfl 1 rfl ?_
    obtain ⟨g_9, h⟩ := gdE h
    refine ldM_13 C g_9 dX12_lifeTells_9 ?_
    refine r_goto (tgt := 59) C dX12_lifeTells_10 (by decide) ?_
    cases h
    exact r_iret C dX12_lifeTells_59
def M_life (v1 : Int32) (v2 : Int32) (s0 : St) : Option (Int32 × St) :=
  if (M_isMaster v1 s0) = 0 then (some ((-1), s0)) else (if (M_in v2 0 4) = 0 then (some ((-1), s0)) else (Option.bind (M_lifeTells v1 v2 s0) (fun r_3 => Option.bind (M_ask r_3 1 s0) (fun r_4 => some (r_4.1, r_4.2)))))
set_option maxHeartbeats 4000000 in
set_option maxRecDepth 100000 in
theorem m_X12_life {l : Launch} {w : Wp} {v1 : Int32} {v2 : Int32}  {s0 : St} {z : Int32 × St} (h : M_life v1 v2 s0 = some z) : Cm l yX12_life (.code yX12_life cX12_life 3 (some .int)) 2 WM w [.ref (wa w 0 0), .int v1, .int v2] s0 (some (.int z.1)) z.2 := by
  refine Cm.of (own := RX12) (by decide +kernel) rfl (Nat.le_of_ble_eq_true rfl) (L := [(0, .ref (wa w 0 0)), (1, .int v1), (2, .int v2)]) rfl KoM (fun x hl C => ?_)
  subst hl
  unfold M_life at h
  refine r_aload_n C dX12_life_0 rfl 0 rfl ?_
  refine r_iload_n C dX12_life_1 rfl 1 rfl ?_
  refine kX12_137 C (m_X12_isMaster rfl) (by decide) (Nat.le_of_ble_eq_true rfl) dX12_life_2 ?_
  refine r_if_eq (tgt := 31) C dX12_life_5 (by decide) (fun c_1 => ?_) (fun c_1 => ?_)
  · have h := ip h c_1
    refine r_iconst (v := (-1)) C dX12_life_31 (by decide) ?_
    cases h
    exact r_iret C dX12_life_32
  · have h := iq h c_1
    refine r_iload_n C dX12_life_8 rfl 2 rfl ?_
    refine r_iconst (v := 0) C dX12_life_9 (by decide) ?_
    refine r_iconst (v := 4) C dX12_life_10 (by decide) ?_
    refine kX12_97 C (m_X12_in rfl) (by decide) (Nat.le_of_ble_eq_true rfl) dX12_life_11 ?_
    refine r_if_eq (tgt := 31) C dX12_life_14 (by decide) (fun c_2 => ?_) (fun c_2 => ?_)
    · have h := ip h c_2
      refine r_iconst (v := (-1)) C dX12_life_31 (by decide) ?_
      cases h
      exact r_iret C dX12_life_32
    · have h := iq h c_2
      refine r_aload_n C dX12_life_17 rfl 0 rfl ?_
      refine r_aload_n C dX12_life_18 rfl 0 rfl ?_
      refine r_iload_n C dX12_life_19 rfl 1 rfl ?_
      refine r_iload_n C dX12_life_20 rfl 2 rfl ?_
      obtain ⟨r_3, er_3, h⟩ := bdE h
      refine kX12_166 C (m_X12_lifeTells er_3) (by decide) (Nat.le_of_ble_eq_true rfl) dX12_life_21 ?_
      refine r_iconst (v := 1) C dX12_life_24 (by decide) ?_
      obtain ⟨r_4, er_4, h⟩ := bdE h
      refine kX12_119 C (m_X12_ask er_4) (by decide) (Nat.le_of_ble_eq_true rfl) dX12_life_25 ?_
      refine r_goto (tgt := 32) C dX12_life_28 (by decide) ?_
      cases h
      exact r_iret C dX12_life_32
def M_byteAt (v1 : Int32) (v2 : Int32) (s0 : St) : Option (Int32) :=
  if inb v1 4 = true then if (s0.1 8 0 v1.toNatClampNeg) ≤ v2 then (some (-9)) else (if inb ((40 * v1) + v2) 160 = true then some (s0.1 9 0 (((40 * v1) + v2).toNatClampNeg)) else none) else none
set_option maxHeartbeats 4000000 in
set_option maxRecDepth 100000 in
theorem m_X12_byteAt {l : Launch} {w : Wp} {v1 : Int32} {v2 : Int32}  {s0 : St} {z : Int32} (h : M_byteAt v1 v2 s0 = some z) : Cm l yX12_byteAt (.code yX12_byteAt cX12_byteAt 3 (some .int)) 0 WM w [.ref (wa w 0 0), .int v1, .int v2] s0 (some (.int z)) s0 := by
  refine Cm.of (own := RX12) (by decide +kernel) rfl (Nat.le_of_ble_eq_true rfl) (L := [(0, .ref (wa w 0 0)), (1, .int v1), (2, .int v2)]) rfl KoM (fun x hl C => ?_)
  subst hl
  unfold M_byteAt at h
  refine r_iload_n C dX12_byteAt_0 rfl 2 rfl ?_
  refine r_aload_n C dX12_byteAt_1 rfl 0 rfl ?_
  refine gfX12_26 C dX12_byteAt_2 ?_
  refine r_iload_n C dX12_byteAt_5 rfl 1 rfl ?_
  obtain ⟨g_1, h⟩ := gdE h
  refine ldM_8 C g_1 dX12_byteAt_6 ?_
  refine r_icmp_ge (tgt := 24) C dX12_byteAt_7 (by decide) (fun c_2 => ?_) (fun c_2 => ?_)
  · have h := ip h c_2
    refine r_bipush (v := (-9)) C dX12_byteAt_24 (by decide) ?_
    cases h
    exact r_iret C dX12_byteAt_26
  · have h := iq h c_2
    refine r_aload_n C dX12_byteAt_10 rfl 0 rfl ?_
    refine gfX12_29 C dX12_byteAt_11 ?_
    refine r_bipush (v := 40) C dX12_byteAt_14 (by decide) ?_
    refine r_iload_n C dX12_byteAt_16 rfl 1 rfl ?_
    refine r_imul C dX12_byteAt_17 ?_
    refine r_iload_n C dX12_byteAt_18 rfl 2 rfl ?_
    refine r_iadd C dX12_byteAt_19 ?_
    obtain ⟨g_3, h⟩ := gdE h
    refine ldM_9 C g_3 dX12_byteAt_20 ?_
    refine r_goto (tgt := 26) C dX12_byteAt_21 (by decide) ?_
    cases h
    exact r_iret C dX12_byteAt_26
def M_power_L4  (v0_1 : Int32) : Nat → Int32 → Int32 → Option (Int32)
  | 0, _, _ => none
  | n + 1, v1_2, v2_3 => if v0_1 ≤ v2_3 then (some v1_2) else ((M_power_L4 v0_1 n) (v1_2 * 3) (v2_3 + 1))
def M_power (v0 : Int32) : Option (Int32) :=
  M_power_L4 v0 1100 1 0
set_option maxHeartbeats 4000000 in
set_option maxRecDepth 100000 in
theorem t_X12_power_L4 {x : Ctx} {w : Wp} {v0_1 : Int32} {s0 : St} {z : Int32}    (C : Cx x WM w cX12_power 3 RX12 0 (some .int)) : ∀ (n : Nat) (v1_2 : Int32) (v2_3 : Int32), M_power_L4 v0_1 n v1_2 v2_3 = some z → V x WM w 3 (QM x WM w (some (.int z)) s0) s0 4 [(0, .int v0_1), (1, .int v1_2), (2, .int v2_3)] [] := by
  intro n
  induction n with
  | zero => intro v1_2 v2_3 h; cases h
  | succ n ih =>
    intro v1_2 v2_3 h
    unfold M_power_L4 at h
    refine r_iload_n C dX12_power_4 rfl 2 rfl ?_
    refine r_iload_n C dX12_power_5 rfl 0 rfl ?_
    refine r_icmp_ge (tgt := 19) C dX12_power_6 (by decide) (fun c_4 => ?_) (fun c_4 => ?_)
    · have h := ip h c_4
      refine r_iload_n C dX12_power_19 rfl 1 rfl ?_
      cases h
      exact r_iret C dX12_power_20
    · have h := iq h c_4
      refine r_iload_n C dX12_power_9 rfl 1 rfl ?_
      refine r_iconst (v := 3) C dX12_power_10 (by decide) ?_
      refine r_imul C dX12_power_11 ?_
      refine r_istore_n C dX12_power_12 rfl (Nat.le_of_ble_eq_true rfl) (L' := [(1, _), (0, _), (2, _)]) rfl ?_
      refine r_iinc (v := v2_3 + 1) C dX12_power_13 (j := 2) rfl rfl (Nat.le_of_ble_eq_true rfl) (L' := [(2, _), (1, _), (0, _)]) rfl ?_
      refine r_goto (tgt := 4) C dX12_power_16 (by decide) ?_
      refine r_sub [2, 1, 0] rfl ?_
      exact ih _ _ h
set_option maxHeartbeats 4000000 in
set_option maxRecDepth 100000 in
theorem m_X12_power {l : Launch} {w : Wp} {v0 : Int32}  {s0 : St} {z : Int32} (h : M_power v0 = some z) : Cm l yX12_power (.code yX12_power cX12_power 3 (some .int)) 0 WM w [.int v0] s0 (some (.int z)) s0 := by
  refine Cm.of (own := RX12) (by decide +kernel) rfl (Nat.le_of_ble_eq_true rfl) (L := [(0, .int v0)]) rfl KoM (fun x hl C => ?_)
  subst hl
  unfold M_power at h
  refine r_iconst (v := 1) C dX12_power_0 (by decide) ?_
  refine r_istore_n C dX12_power_1 rfl (Nat.le_of_ble_eq_true rfl) (L' := [(1, _), (0, _)]) rfl ?_
  refine r_iconst (v := 0) C dX12_power_2 (by decide) ?_
  refine r_istore_n C dX12_power_3 rfl (Nat.le_of_ble_eq_true rfl) (L' := [(2, _), (1, _), (0, _)]) rfl ?_
  refine r_sub [2, 1, 0] rfl ?_
  exact t_X12_power_L4 C _ _ _ h
def M_goesOn_L2 (K19 : Int32 → St → Option (Int32 × St)) (v1_1 : Int32) : Nat → Int32 → St → Option (Int32 × St)
  | 0, _, _ => none
  | n + 1, v2_2, s_3 => Option.bind (M_byteAt v1_1 v2_2 s_3) (fun r_4 => if r_4 = 32 then ((M_goesOn_L2 K19 v1_1 n) (v2_2 + 1) s_3) else (K19 v2_2 s_3))
def M_goesOn_L208 (K225 : Int32 → St → Option (Int32 × St)) (v1_24 : Int32) : Nat → Int32 → St → Option (Int32 × St)
  | 0, _, _ => none
  | n + 1, v2_25, s_26 => Option.bind (M_byteAt v1_24 v2_25 s_26) (fun r_27 => if r_27 = 32 then ((M_goesOn_L208 K225 v1_24 n) (v2_25 + 1) s_26) else (K225 v2_25 s_26))
def M_goesOn_J201  (v1_19 : Int32) (v2_20 : Int32) (v3_21 : Int32)  (s_22 : St) : Option (Int32 × St) :=
  if v2_20 = v3_21 then (some (v2_20, s_22)) else (M_goesOn_L208 (fun (v2_31 : Int32) (s_32 : St) => if inb v1_19 4 = true then some ((if v2_31 = (s_32.1 8 0 v1_19.toNatClampNeg) then (-9) else v2_31 : Int32), s_32) else none) v1_19 1100 v2_20 s_22)
def M_goesOn_J48  (v1_12 : Int32) (v2_13 : Int32) (v3_14 : Int32)  (s_15 : St) : Option (Int32 × St) :=
  Option.bind (M_byteAt v1_12 v2_13 s_15) (fun r_16 => M_goesOn_J201 v1_12 (v2_13 + 1) v3_14 (sX s_15 0 0 23 (if r_16 = 48 then 243 else 0 : Int32)))
def M_goesOn_J198 (B82 : Int32 → Int32 → Int32 → St → Option (Int32 × St)) (v1_55 : Int32) (v2_56 : Int32) (v3_57 : Int32) (v4_58 : Int32) (v5_59 : Int32)  (s_60 : St) : Option (Int32 × St) :=
  B82 v2_56 v4_58 v5_59 s_60
def M_goesOn_L82 (K201 : Int32 → St → Option (Int32 × St)) (v1_38 : Int32) (v3_40 : Int32) : Nat → Int32 → Int32 → Int32 → St → Option (Int32 × St)
  | 0, _, _, _, _ => none
  | n + 1, v2_39, v4_41, v5_42, s_43 => if v5_42 = 0 then (K201 v2_39 s_43) else (Option.bind (M_byteAt v1_38 v2_39 s_43) (fun r_45 => Option.bind (M_byteAt v1_38 (v2_39 + (if r_45 = 33 then 1 else 0 : Int32)) s_43) (fun r_48 => if (if (M_isTrait (r_48 - 97)) = 0 then 0 else (if (r_48 - 97) ≤ v4_41 then 0 else 1) : Int32) = 0 then (if (if r_45 = 33 then 1 else 0 : Int32) = 1 then (some (v2_39 + (if r_45 = 33 then 1 else 0 : Int32), s_43)) else (if (M_isTrait (r_48 - 97)) = 0 then (M_goesOn_J198 (M_goesOn_L82 K201 v1_38 v3_40 n) v1_38 v2_39 v3_40 v4_41 (if (M_isTrait (r_48 - 97)) = 0 then 0 else (if (r_48 - 97) ≤ v4_41 then 0 else 1) : Int32) s_43) else (some (v2_39 + (if r_45 = 33 then 1 else 0 : Int32), s_43)))) else (Option.bind (M_power (r_48 - 97)) (fun r_65 => M_goesOn_J198 (M_goesOn_L82 K201 v1_38 v3_40 n) v1_38 (v2_39 + ((if r_45 = 33 then 1 else 0 : Int32) + 1)) v3_40 (r_48 - 97) (if (M_isTrait (r_48 - 97)) = 0 then 0 else (if (r_48 - 97) ≤ v4_41 then 0 else 1) : Int32) (sX s_43 0 0 23 ((s_43.1 0 0 23) + (r_65 * (1 + (if r_45 = 33 then 1 else 0 : Int32))))))))))
def M_goesOn (v1 : Int32) (s0 : St) : Option (Int32 × St) :=
  M_goesOn_L2 (fun (v2_8 : Int32) (s_9 : St) => Option.bind (M_byteAt v1 v2_8 (sX s_9 0 0 23 0)) (fun r_10 => if r_10 = 48 then (M_goesOn_J48 v1 v2_8 v2_8 (sX s_9 0 0 23 0)) else (Option.bind (M_byteAt v1 v2_8 (sX s_9 0 0 23 0)) (fun r_36 => if r_36 = 49 then (M_goesOn_J48 v1 v2_8 v2_8 (sX s_9 0 0 23 0)) else (M_goesOn_L82 (fun (v2_68 : Int32) (s_69 : St) => M_goesOn_J201 v1 v2_68 v2_8 s_69) v1 v2_8 1100 v2_8 (-1) 1 (sX s_9 0 0 23 0)))))) v1 1100 0 s0
set_option maxHeartbeats 4000000 in
set_option maxRecDepth 100000 in
theorem t_X12_goesOn_L2 {x : Ctx} {w : Wp} {v1_1 : Int32} {z : Int32 × St}  {K19 : Int32 → St → Option (Int32 × St)} (hK19 : ∀ (u2_6 : Int32) (s_7 : St), K19 u2_6 s_7 = some z → V x WM w 8 (QM x WM w (some (.int z.1)) z.2) s_7 19 [(0, .ref (wa w 0 0)), (1, .int v1_1), (2, .int u2_6)] []) (C : Cx x WM w cX12_goesOn 8 RX12 2 (some .int)) : ∀ (n : Nat) (v2_2 : Int32) (s_3 : St), M_goesOn_L2 K19 v1_1 n v2_2 s_3 = some z → V x WM w 8 (QM x WM w (some (.int z.1)) z.2) s_3 2 [(0, .ref (wa w 0 0)), (1, .int v1_1), (2, .int v2_2)] [] := by
  intro n
  induction n with
  | zero => intro v2_2 s_3 h; cases h
  | succ n ih =>
    intro v2_2 s_3 h
    unfold M_goesOn_L2 at h
    refine r_aload_n C dX12_goesOn_2 rfl 0 rfl ?_
    refine r_iload_n C dX12_goesOn_3 rfl 1 rfl ?_
    refine r_iload_n C dX12_goesOn_4 rfl 2 rfl ?_
    obtain ⟨r_4, er_4, h⟩ := bdE h
    refine kX12_169 C (m_X12_byteAt er_4) (by decide) (Nat.le_of_ble_eq_true rfl) dX12_goesOn_5 ?_
    refine r_bipush (v := 32) C dX12_goesOn_8 (by decide) ?_
    refine r_icmp_ne (tgt := 19) C dX12_goesOn_10 (by decide) (fun c_5 => ?_) (fun c_5 => ?_)
    · have h := iq h c_5
      refine r_sub [0, 1, 2] rfl ?_
      exact hK19 _ _ h
    · have h := ip h c_5
      refine r_iinc (v := v2_2 + 1) C dX12_goesOn_13 (j := 2) rfl rfl (Nat.le_of_ble_eq_true rfl) (L' := [(2, _), (0, _), (1, _)]) rfl ?_
      refine r_goto (tgt := 2) C dX12_goesOn_16 (by decide) ?_
      refine r_sub [1, 2, 0] rfl ?_
      exact ih _ _ h
set_option maxHeartbeats 4000000 in
set_option maxRecDepth 100000 in
theorem t_X12_goesOn_L208 {x : Ctx} {w : Wp} {v1_24 : Int32} {z : Int32 × St}  {K225 : Int32 → St → Option (Int32 × St)} (hK225 : ∀ (u2_29 : Int32) (s_30 : St), K225 u2_29 s_30 = some z → V x WM w 8 (QM x WM w (some (.int z.1)) z.2) s_30 225 [(0, .ref (wa w 0 0)), (1, .int v1_24), (2, .int u2_29)] []) (C : Cx x WM w cX12_goesOn 8 RX12 2 (some .int)) : ∀ (n : Nat) (v2_25 : Int32) (s_26 : St), M_goesOn_L208 K225 v1_24 n v2_25 s_26 = some z → V x WM w 8 (QM x WM w (some (.int z.1)) z.2) s_26 208 [(0, .ref (wa w 0 0)), (1, .int v1_24), (2, .int v2_25)] [] := by
  intro n
  induction n with
  | zero => intro v2_25 s_26 h; cases h
  | succ n ih =>
    intro v2_25 s_26 h
    unfold M_goesOn_L208 at h
    refine r_aload_n C dX12_goesOn_208 rfl 0 rfl ?_
    refine r_iload_n C dX12_goesOn_209 rfl 1 rfl ?_
    refine r_iload_n C dX12_goesOn_210 rfl 2 rfl ?_
    obtain ⟨r_27, er_27, h⟩ := bdE h
    refine kX12_169 C (m_X12_byteAt er_27) (by decide) (Nat.le_of_ble_eq_true rfl) dX12_goesOn_211 ?_
    refine r_bipush (v := 32) C dX12_goesOn_214 (by decide) ?_
    refine r_icmp_ne (tgt := 225) C dX12_goesOn_216 (by decide) (fun c_28 => ?_) (fun c_28 => ?_)
    · have h := iq h c_28
      refine r_sub [0, 1, 2] rfl ?_
      exact hK225 _ _ h
    · have h := ip h c_28
      refine r_iinc (v := v2_25 + 1) C dX12_goesOn_219 (j := 2) rfl rfl (Nat.le_of_ble_eq_true rfl) (L' := [(2, _), (0, _), (1, _)]) rfl ?_
      refine r_goto (tgt := 208) C dX12_goesOn_222 (by decide) ?_
      refine r_sub [1, 2, 0] rfl ?_
      exact ih _ _ h
set_option maxHeartbeats 4000000 in
set_option maxRecDepth 100000 in
theorem t_X12_goesOn_J201 {x : Ctx} {w : Wp} {v1_19 : Int32} {v2_20 : Int32} {v3_21 : Int32}  {s_22 : St} {z : Int32 × St}    (C : Cx x WM w cX12_goesOn 8 RX12 2 (some .int)) (h : M_goesOn_J201 v1_19 v2_20 v3_21 s_22 = some z) : V x WM w 8 (QM x WM w (some (.int z.1)) z.2) s_22 201 [(0, .ref (wa w 0 0)), (1, .int v1_19), (2, .int v2_20), (3, .int v3_21)] [] := by
  unfold M_goesOn_J201 at h
  refine r_iload_n C dX12_goesOn_201 rfl 2 rfl ?_
  refine r_iload_n C dX12_goesOn_202 rfl 3 rfl ?_
  refine r_icmp_ne (tgt := 208) C dX12_goesOn_203 (by decide) (fun c_23 => ?_) (fun c_23 => ?_)
  · have h := iq h c_23
    refine r_sub [0, 1, 2] rfl ?_
    refine t_X12_goesOn_L208 (fun v2_31 s_32 h => ?_) C _ _ _ h
    refine r_iload_n C dX12_goesOn_225 rfl 2 rfl ?_
    refine r_aload_n C dX12_goesOn_226 rfl 0 rfl ?_
    refine gfX12_26 C dX12_goesOn_227 ?_
    refine r_iload_n C dX12_goesOn_230 rfl 1 rfl ?_
    obtain ⟨g_33, h⟩ := gdE h
    refine ldM_8 C g_33 dX12_goesOn_231 ?_
    refine r_em (st := []) 241 ((if v2_31 = (s_32.1 8 0 v1_19.toNatClampNeg) then (-9) else v2_31 : Int32)) (fun hM_35 => ?_) ?_
    · refine r_icmp_ne (tgt := 240) C dX12_goesOn_232 (by decide) (fun c_34 => ?_) (fun c_34 => ?_)
      · refine r_iload_n C dX12_goesOn_240 rfl 2 rfl ?_
        exact (em_neg c_34 hM_35)
      · refine r_bipush (v := (-9)) C dX12_goesOn_235 (by decide) ?_
        refine r_goto (tgt := 241) C dX12_goesOn_237 (by decide) ?_
        exact (em_pos c_34 hM_35)
    cases h
    exact r_iret C dX12_goesOn_241
  · have h := ip h c_23
    refine r_iload_n C dX12_goesOn_206 rfl 2 rfl ?_
    cases h
    exact r_iret C dX12_goesOn_207
set_option maxHeartbeats 4000000 in
set_option maxRecDepth 100000 in
theorem t_X12_goesOn_J48 {x : Ctx} {w : Wp} {v1_12 : Int32} {v2_13 : Int32} {v3_14 : Int32}  {s_15 : St} {z : Int32 × St}    (C : Cx x WM w cX12_goesOn 8 RX12 2 (some .int)) (h : M_goesOn_J48 v1_12 v2_13 v3_14 s_15 = some z) : V x WM w 8 (QM x WM w (some (.int z.1)) z.2) s_15 48 [(0, .ref (wa w 0 0)), (1, .int v1_12), (2, .int v2_13), (3, .int v3_14)] [] := by
  unfold M_goesOn_J48 at h
  refine r_aload_n C dX12_goesOn_48 rfl 0 rfl ?_
  refine r_aload_n C dX12_goesOn_49 rfl 0 rfl ?_
  refine r_iload_n C dX12_goesOn_50 rfl 1 rfl ?_
  refine r_iload_n C dX12_goesOn_51 rfl 2 rfl ?_
  obtain ⟨r_16, er_16, h⟩ := bdE h
  refine kX12_169 C (m_X12_byteAt er_16) (by decide) (Nat.le_of_ble_eq_true rfl) dX12_goesOn_52 ?_
  refine r_bipush (v := 48) C dX12_goesOn_55 (by decide) ?_
  refine r_em (st := [.ref (wa w 0 0)]) 67 ((if r_16 = 48 then 243 else 0 : Int32)) (fun hM_18 => ?_) ?_
  · refine r_icmp_ne (tgt := 66) C dX12_goesOn_57 (by decide) (fun c_17 => ?_) (fun c_17 => ?_)
    · refine r_iconst (v := 0) C dX12_goesOn_66 (by decide) ?_
      exact (em_neg c_17 hM_18)
    · refine r_sipush (v := 243) C dX12_goesOn_60 (by decide) ?_
      refine r_goto (tgt := 67) C dX12_goesOn_63 (by decide) ?_
      exact (em_pos c_17 hM_18)
  refine pfX12_172 C dX12_goesOn_67 ?_
  refine r_iinc (v := v2_13 + 1) C dX12_goesOn_70 (j := 2) rfl rfl (Nat.le_of_ble_eq_true rfl) (L' := [(2, _), (0, _), (1, _), (3, _)]) rfl ?_
  refine r_goto (tgt := 201) C dX12_goesOn_73 (by decide) ?_
  refine r_sub [1, 2, 0, 3] rfl ?_
  exact t_X12_goesOn_J201 C h
set_option maxHeartbeats 4000000 in
set_option maxRecDepth 100000 in
theorem t_X12_goesOn_J198 {x : Ctx} {w : Wp} {v1_55 : Int32} {v2_56 : Int32} {v3_57 : Int32} {v4_58 : Int32} {v5_59 : Int32}  {s_60 : St} {z : Int32 × St}  {B82 : Int32 → Int32 → Int32 → St → Option (Int32 × St)} (hB82 : ∀ (u2_61 : Int32) (u4_62 : Int32) (u5_63 : Int32) (s_64 : St), B82 u2_61 u4_62 u5_63 s_64 = some z → V x WM w 8 (QM x WM w (some (.int z.1)) z.2) s_64 82 [(0, .ref (wa w 0 0)), (1, .int v1_55), (2, .int u2_61), (3, .int v3_57), (4, .int u4_62), (5, .int u5_63)] []) (C : Cx x WM w cX12_goesOn 8 RX12 2 (some .int)) (h : M_goesOn_J198 B82 v1_55 v2_56 v3_57 v4_58 v5_59 s_60 = some z) : V x WM w 8 (QM x WM w (some (.int z.1)) z.2) s_60 198 [(0, .ref (wa w 0 0)), (1, .int v1_55), (2, .int v2_56), (3, .int v3_57), (4, .int v4_58), (5, .int v5_59)] [] := by
  unfold M_goesOn_J198 at h
  refine r_goto (tgt := 82) C dX12_goesOn_198 (by decide) ?_
  refine r_sub [0, 1, 2, 3, 4, 5] rfl ?_
  exact hB82 _ _ _ _ h
set_option maxHeartbeats 4000000 in
set_option maxRecDepth 100000 in
theorem t_X12_goesOn_L82 {x : Ctx} {w : Wp} {v1_38 : Int32} {v3_40 : Int32} {z : Int32 × St}  {K201 : Int32 → St → Option (Int32 × St)} (hK201 : ∀ (u2_66 : Int32) (s_67 : St), K201 u2_66 s_67 = some z → V x WM w 8 (QM x WM w (some (.int z.1)) z.2) s_67 201 [(0, .ref (wa w 0 0)), (1, .int v1_38), (2, .int u2_66), (3, .int v3_40)] []) (C : Cx x WM w cX12_goesOn 8 RX12 2 (some .int)) : ∀ (n : Nat) (v2_39 : Int32) (v4_41 : Int32) (v5_42 : Int32) (s_43 : St), M_goesOn_L82 K201 v1_38 v3_40 n v2_39 v4_41 v5_42 s_43 = some z → V x WM w 8 (QM x WM w (some (.int z.1)) z.2) s_43 82 [(0, .ref (wa w 0 0)), (1, .int v1_38), (2, .int v2_39), (3, .int v3_40), (4, .int v4_41), (5, .int v5_42)] [] := by
  intro n
  induction n with
  | zero => intro v2_39 v4_41 v5_42 s_43 h; cases h
  | succ n ih =>
    intro v2_39 v4_41 v5_42 s_43 h
    unfold M_goesOn_L82 at h
    refine r_iload C dX12_goesOn_82 5 rfl ?_
    refine r_if_eq (tgt := 201) C dX12_goesOn_84 (by decide) (fun c_44 => ?_) (fun c_44 => ?_)
    · have h := ip h c_44
      refine r_sub [0, 1, 2, 3] rfl ?_
      exact hK201 _ _ h
    · have h := iq h c_44
      refine r_aload_n C dX12_goesOn_87 rfl 0 rfl ?_
      refine r_iload_n C dX12_goesOn_88 rfl 1 rfl ?_
      refine r_iload_n C dX12_goesOn_89 rfl 2 rfl ?_
      obtain ⟨r_45, er_45, h⟩ := bdE h
      refine kX12_169 C (m_X12_byteAt er_45) (by decide) (Nat.le_of_ble_eq_true rfl) dX12_goesOn_90 ?_
      refine r_bipush (v := 33) C dX12_goesOn_93 (by decide) ?_
      refine r_em (st := []) 103 ((if r_45 = 33 then 1 else 0 : Int32)) (fun hM_47 => ?_) ?_
      · refine r_icmp_ne (tgt := 102) C dX12_goesOn_95 (by decide) (fun c_46 => ?_) (fun c_46 => ?_)
        · refine r_iconst (v := 0) C dX12_goesOn_102 (by decide) ?_
          exact (em_neg c_46 hM_47)
        · refine r_iconst (v := 1) C dX12_goesOn_98 (by decide) ?_
          refine r_goto (tgt := 103) C dX12_goesOn_99 (by decide) ?_
          exact (em_pos c_46 hM_47)
      refine r_istore C dX12_goesOn_103 (Nat.le_of_ble_eq_true rfl) (L' := [(6, _), (0, _), (1, _), (2, _), (3, _), (4, _), (5, _)]) rfl ?_
      refine r_aload_n C dX12_goesOn_105 rfl 1 rfl ?_
      refine r_iload_n C dX12_goesOn_106 rfl 2 rfl ?_
      refine r_iload_n C dX12_goesOn_107 rfl 3 rfl ?_
      refine r_iload C dX12_goesOn_108 0 rfl ?_
      refine r_iadd C dX12_goesOn_110 ?_
      obtain ⟨r_48, er_48, h⟩ := bdE h
      refine kX12_169 C (m_X12_byteAt er_48) (by decide) (Nat.le_of_ble_eq_true rfl) dX12_goesOn_111 ?_
      refine r_bipush (v := 97) C dX12_goesOn_114 (by decide) ?_
      refine r_isub C dX12_goesOn_116 ?_
      refine r_istore C dX12_goesOn_117 (Nat.le_of_ble_eq_true rfl) (L' := [(7, _), (6, _), (0, _), (1, _), (2, _), (3, _), (4, _), (5, _)]) rfl ?_
      refine r_iload C dX12_goesOn_119 0 rfl ?_
      refine kX12_147 C (m_X12_isTrait rfl) (by decide) (Nat.le_of_ble_eq_true rfl) dX12_goesOn_121 ?_
      refine r_em (st := []) 139 ((if (M_isTrait (r_48 - 97)) = 0 then 0 else (if (r_48 - 97) ≤ v4_41 then 0 else 1) : Int32)) (fun hM_51 => ?_) ?_
      · refine r_if_eq (tgt := 138) C dX12_goesOn_124 (by decide) (fun c_50 => ?_) (fun c_50 => ?_)
        · refine r_iconst (v := 0) C dX12_goesOn_138 (by decide) ?_
          exact (em_pos c_50 hM_51)
        · refine r_iload C dX12_goesOn_127 0 rfl ?_
          refine r_iload C dX12_goesOn_129 6 rfl ?_
          refine r_icmp_le (tgt := 138) C dX12_goesOn_131 (by decide) (fun c_49 => ?_) (fun c_49 => ?_)
          · refine r_iconst (v := 0) C dX12_goesOn_138 (by decide) ?_
            exact (em_pos c_49 (em_neg c_50 hM_51))
          · refine r_iconst (v := 1) C dX12_goesOn_134 (by decide) ?_
            refine r_goto (tgt := 139) C dX12_goesOn_135 (by decide) ?_
            exact (em_neg c_49 (em_neg c_50 hM_51))
      refine r_istore C dX12_goesOn_139 (Nat.le_of_ble_eq_true rfl) (L' := [(5, _), (7, _), (6, _), (0, _), (1, _), (2, _), (3, _), (4, _)]) rfl ?_
      refine r_iload C dX12_goesOn_141 0 rfl ?_
      refine r_if_eq (tgt := 179) C dX12_goesOn_143 (by decide) (fun c_52 => ?_) (fun c_52 => ?_)
      · have h := ip h c_52
        refine r_iload C dX12_goesOn_179 2 rfl ?_
        refine r_iconst (v := 1) C dX12_goesOn_181 (by decide) ?_
        refine r_icmp_eq (tgt := 193) C dX12_goesOn_182 (by decide) (fun c_53 => ?_) (fun c_53 => ?_)
        · have h := ip h c_53
          refine r_iload_n C dX12_goesOn_193 rfl 5 rfl ?_
          refine r_iload C dX12_goesOn_194 2 rfl ?_
          refine r_iadd C dX12_goesOn_196 ?_
          cases h
          exact r_iret C dX12_goesOn_197
        · have h := iq h c_53
          refine r_iload C dX12_goesOn_185 1 rfl ?_
          refine kX12_147 C (m_X12_isTrait rfl) (by decide) (Nat.le_of_ble_eq_true rfl) dX12_goesOn_187 ?_
          refine r_if_eq (tgt := 198) C dX12_goesOn_190 (by decide) (fun c_54 => ?_) (fun c_54 => ?_)
          · have h := ip h c_54
            refine r_sub [3, 4, 5, 6, 7, 0] rfl ?_
            exact t_X12_goesOn_J198 ih C h
          · have h := iq h c_54
            refine r_iload_n C dX12_goesOn_193 rfl 5 rfl ?_
            refine r_iload C dX12_goesOn_194 2 rfl ?_
            refine r_iadd C dX12_goesOn_196 ?_
            cases h
            exact r_iret C dX12_goesOn_197
      · have h := iq h c_52
        refine r_aload_n C dX12_goesOn_146 rfl 3 rfl ?_
        refine r_dup C dX12_goesOn_147 rfl ?_
        refine gfX12_172 C dX12_goesOn_148 ?_
        refine r_iload C dX12_goesOn_151 1 rfl ?_
        obtain ⟨r_65, er_65, h⟩ := bdE h
        refine kX12_175 C (m_X12_power er_65) (by decide) (Nat.le_of_ble_eq_true rfl) dX12_goesOn_153 ?_
        refine r_iconst (v := 1) C dX12_goesOn_156 (by decide) ?_
        refine r_iload C dX12_goesOn_157 2 rfl ?_
        refine r_iadd C dX12_goesOn_159 ?_
        refine r_imul C dX12_goesOn_160 ?_
        refine r_iadd C dX12_goesOn_161 ?_
        refine pfX12_172 C dX12_goesOn_162 ?_
        refine r_iload C dX12_goesOn_165 1 rfl ?_
        refine r_istore C dX12_goesOn_167 (Nat.le_of_ble_eq_true rfl) (L' := [(4, _), (5, _), (7, _), (6, _), (0, _), (1, _), (2, _), (3, _)]) rfl ?_
        refine r_iload_n C dX12_goesOn_169 rfl 6 rfl ?_
        refine r_iload C dX12_goesOn_170 3 rfl ?_
        refine r_iconst (v := 1) C dX12_goesOn_172 (by decide) ?_
        refine r_iadd C dX12_goesOn_173 ?_
        refine r_iadd C dX12_goesOn_174 ?_
        refine r_istore_n C dX12_goesOn_175 rfl (Nat.le_of_ble_eq_true rfl) (L' := [(2, _), (4, _), (5, _), (7, _), (6, _), (0, _), (1, _), (3, _)]) rfl ?_
        refine r_goto (tgt := 198) C dX12_goesOn_176 (by decide) ?_
        refine r_sub [5, 6, 0, 7, 1, 2] rfl ?_
        exact t_X12_goesOn_J198 ih C h
set_option maxHeartbeats 4000000 in
set_option maxRecDepth 100000 in
theorem m_X12_goesOn {l : Launch} {w : Wp} {v1 : Int32}  {s0 : St} {z : Int32 × St} (h : M_goesOn v1 s0 = some z) : Cm l yX12_goesOn (.code yX12_goesOn cX12_goesOn 8 (some .int)) 2 WM w [.ref (wa w 0 0), .int v1] s0 (some (.int z.1)) z.2 := by
  refine Cm.of (own := RX12) (by decide +kernel) rfl (Nat.le_of_ble_eq_true rfl) (L := [(0, .ref (wa w 0 0)), (1, .int v1)]) rfl KoM (fun x hl C => ?_)
  subst hl
  unfold M_goesOn at h
  refine r_iconst (v := 0) C dX12_goesOn_0 (by decide) ?_
  refine r_istore_n C dX12_goesOn_1 rfl (Nat.le_of_ble_eq_true rfl) (L' := [(2, _), (0, _), (1, _)]) rfl ?_
  refine r_sub [1, 2, 0] rfl ?_
  refine t_X12_goesOn_L2 (fun v2_8 s_9 h => ?_) C _ _ _ h
  refine r_iload_n C dX12_goesOn_19 rfl 2 rfl ?_
  refine r_istore_n C dX12_goesOn_20 rfl (Nat.le_of_ble_eq_true rfl) (L' := [(3, _), (0, _), (1, _), (2, _)]) rfl ?_
  refine r_aload_n C dX12_goesOn_21 rfl 1 rfl ?_
  refine r_iconst (v := 0) C dX12_goesOn_22 (by decide) ?_
  refine pfX12_172 C dX12_goesOn_23 ?_
  refine r_aload_n C dX12_goesOn_26 rfl 1 rfl ?_
  refine r_iload_n C dX12_goesOn_27 rfl 2 rfl ?_
  refine r_iload_n C dX12_goesOn_28 rfl 3 rfl ?_
  obtain ⟨r_10, er_10, h⟩ := bdE h
  refine kX12_169 C (m_X12_byteAt er_10) (by decide) (Nat.le_of_ble_eq_true rfl) dX12_goesOn_29 ?_
  refine r_bipush (v := 48) C dX12_goesOn_32 (by decide) ?_
  refine r_icmp_eq (tgt := 48) C dX12_goesOn_34 (by decide) (fun c_11 => ?_) (fun c_11 => ?_)
  · have h := ip h c_11
    refine r_sub [1, 2, 3, 0] rfl ?_
    exact t_X12_goesOn_J48 C h
  · have h := iq h c_11
    refine r_aload_n C dX12_goesOn_37 rfl 1 rfl ?_
    refine r_iload_n C dX12_goesOn_38 rfl 2 rfl ?_
    refine r_iload_n C dX12_goesOn_39 rfl 3 rfl ?_
    obtain ⟨r_36, er_36, h⟩ := bdE h
    refine kX12_169 C (m_X12_byteAt er_36) (by decide) (Nat.le_of_ble_eq_true rfl) dX12_goesOn_40 ?_
    refine r_bipush (v := 49) C dX12_goesOn_43 (by decide) ?_
    refine r_icmp_ne (tgt := 76) C dX12_goesOn_45 (by decide) (fun c_37 => ?_) (fun c_37 => ?_)
    · have h := iq h c_37
      refine r_iconst (v := (-1)) C dX12_goesOn_76 (by decide) ?_
      refine r_istore C dX12_goesOn_77 (Nat.le_of_ble_eq_true rfl) (L' := [(4, _), (3, _), (0, _), (1, _), (2, _)]) rfl ?_
      refine r_iconst (v := 1) C dX12_goesOn_79 (by decide) ?_
      refine r_istore C dX12_goesOn_80 (Nat.le_of_ble_eq_true rfl) (L' := [(5, _), (4, _), (3, _), (0, _), (1, _), (2, _)]) rfl ?_
      refine r_sub [3, 4, 5, 2, 1, 0] rfl ?_
      refine t_X12_goesOn_L82 (fun v2_68 s_69 h => ?_) C _ _ _ _ _ h
      refine r_sub [0, 1, 2, 3] rfl ?_
      exact t_X12_goesOn_J201 C h
    · have h := ip h c_37
      refine r_sub [1, 2, 3, 0] rfl ?_
      exact t_X12_goesOn_J48 C h
def M_fault (v1 : Int32) (s0 : St) : Option (Int32 × St) :=
  Option.bind (M_askedText v1 s0) (fun r_1 => if 0 ≤ r_1.1 then (Option.bind (M_goesOn v1 r_1.2) (fun r_3 => some (r_3.1, r_3.2))) else (some (r_1.1, r_1.2)))
set_option maxHeartbeats 4000000 in
set_option maxRecDepth 100000 in
theorem m_X12_fault {l : Launch} {w : Wp} {v1 : Int32}  {s0 : St} {z : Int32 × St} (h : M_fault v1 s0 = some z) : Cm l yX12_fault (.code yX12_fault cX12_fault 3 (some .int)) 3 WM w [.ref (wa w 0 0), .int v1] s0 (some (.int z.1)) z.2 := by
  refine Cm.of (own := RX12) (by decide +kernel) rfl (Nat.le_of_ble_eq_true rfl) (L := [(0, .ref (wa w 0 0)), (1, .int v1)]) rfl KoM (fun x hl C => ?_)
  subst hl
  unfold M_fault at h
  refine r_aload_n C dX12_fault_0 rfl 0 rfl ?_
  refine r_iload_n C dX12_fault_1 rfl 1 rfl ?_
  obtain ⟨r_1, er_1, h⟩ := bdE h
  refine kX12_122 C (m_X12_askedText er_1) (by decide) (Nat.le_of_ble_eq_true rfl) dX12_fault_2 ?_
  refine r_istore_n C dX12_fault_5 rfl (Nat.le_of_ble_eq_true rfl) (L' := [(2, _), (0, _), (1, _)]) rfl ?_
  refine r_iload_n C dX12_fault_6 rfl 0 rfl ?_
  refine r_if_ge (tgt := 14) C dX12_fault_7 (by decide) (fun c_2 => ?_) (fun c_2 => ?_)
  · have h := ip h c_2
    refine r_aload_n C dX12_fault_14 rfl 1 rfl ?_
    refine r_iload_n C dX12_fault_15 rfl 2 rfl ?_
    obtain ⟨r_3, er_3, h⟩ := bdE h
    refine kX12_178 C (m_X12_goesOn er_3) (by decide) (Nat.le_of_ble_eq_true rfl) dX12_fault_16 ?_
    cases h
    exact r_iret C dX12_fault_19
  · have h := iq h c_2
    refine r_iload_n C dX12_fault_10 rfl 0 rfl ?_
    refine r_goto (tgt := 19) C dX12_fault_11 (by decide) ?_
    cases h
    exact r_iret C dX12_fault_19
def M_rule (v1 : Int32) (s0 : St) : Option (Int32 × St) :=
  Option.bind (M_fault v1 s0) (fun r_1 => some ((if r_1.1 = (-9) then (r_1.2.1 0 0 23) else (if r_1.1 < 0 then r_1.1 else (-4)) : Int32), r_1.2))
set_option maxHeartbeats 4000000 in
set_option maxRecDepth 100000 in
theorem m_X12_rule {l : Launch} {w : Wp} {v1 : Int32}  {s0 : St} {z : Int32 × St} (h : M_rule v1 s0 = some z) : Cm l yX12_rule (.code yX12_rule cX12_rule 3 (some .int)) 4 WM w [.ref (wa w 0 0), .int v1] s0 (some (.int z.1)) z.2 := by
  refine Cm.of (own := RX12) (by decide +kernel) rfl (Nat.le_of_ble_eq_true rfl) (L := [(0, .ref (wa w 0 0)), (1, .int v1)]) rfl KoM (fun x hl C => ?_)
  subst hl
  unfold M_rule at h
  refine r_aload_n C dX12_rule_0 rfl 0 rfl ?_
  refine r_iload_n C dX12_rule_1 rfl 1 rfl ?_
  obtain ⟨r_1, er_1, h⟩ := bdE h
  refine kX12_181 C (m_X12_fault er_1) (by decide) (Nat.le_of_ble_eq_true rfl) dX12_rule_2 ?_
  refine r_istore_n C dX12_rule_5 rfl (Nat.le_of_ble_eq_true rfl) (L' := [(2, _), (0, _), (1, _)]) rfl ?_
  refine r_iload_n C dX12_rule_6 rfl 0 rfl ?_
  refine r_bipush (v := (-9)) C dX12_rule_7 (by decide) ?_
  refine r_em (st := []) 29 ((if r_1.1 = (-9) then (r_1.2.1 0 0 23) else (if r_1.1 < 0 then r_1.1 else (-4)) : Int32)) (fun hM_4 => ?_) ?_
  · refine r_icmp_ne (tgt := 19) C dX12_rule_9 (by decide) (fun c_3 => ?_) (fun c_3 => ?_)
    · refine r_iload_n C dX12_rule_19 rfl 0 rfl ?_
      refine r_if_lt (tgt := 28) C dX12_rule_20 (by decide) (fun c_2 => ?_) (fun c_2 => ?_)
      · refine r_iload_n C dX12_rule_28 rfl 0 rfl ?_
        exact (em_pos c_2 (em_neg c_3 hM_4))
      · refine r_bipush (v := (-4)) C dX12_rule_23 (by decide) ?_
        refine r_goto (tgt := 29) C dX12_rule_25 (by decide) ?_
        exact (em_neg c_2 (em_neg c_3 hM_4))
    · refine r_aload_n C dX12_rule_12 rfl 1 rfl ?_
      refine gfX12_172 C dX12_rule_13 ?_
      refine r_goto (tgt := 29) C dX12_rule_16 (by decide) ?_
      exact (em_pos c_3 hM_4)
  cases h
  exact r_iret C dX12_rule_29
def M_isRule (v0 : Int32) : Int32 :=
  M_in v0 0 243
set_option maxHeartbeats 4000000 in
set_option maxRecDepth 100000 in
theorem m_X12_isRule {l : Launch} {w : Wp} {v0 : Int32}  {s0 : St} {z : Int32} (h : M_isRule v0 = z) : Cm l yX12_isRule (.code yX12_isRule cX12_isRule 1 (some .boolean)) 1 WM w [.int v0] s0 (some (.int z)) s0 := by
  refine Cm.of (own := RX12) (by decide +kernel) rfl (Nat.le_of_ble_eq_true rfl) (L := [(0, .int v0)]) rfl KoM (fun x hl C => ?_)
  subst hl
  unfold M_isRule at h
  refine r_iload_n C dX12_isRule_0 rfl 0 rfl ?_
  refine r_iconst (v := 0) C dX12_isRule_1 (by decide) ?_
  refine r_sipush (v := 243) C dX12_isRule_2 (by decide) ?_
  refine kX12_97 C (m_X12_in rfl) (by decide) (Nat.le_of_ble_eq_true rfl) dX12_isRule_5 ?_
  subst h
  exact r_zret C nb_X12_in dX12_isRule_8
theorem nb_X12_isRule {v0 : Int32} : narrow .boolean (.int (M_isRule v0)) = .int (M_isRule v0) := by
  unfold M_isRule
  exact nb_X12_in
def M_figure (v0 : Int32) (v1 : Int32) : Option (Int32) :=
  if v0 = 243 then (some 0) else (Option.bind (M_power v1) (fun r_2 => if ¬ r_2 = 0 then some ((v0 / r_2) - (v0 / r_2) / 3 * 3) else none))
set_option maxHeartbeats 4000000 in
set_option maxRecDepth 100000 in
theorem m_X12_figure {l : Launch} {w : Wp} {v0 : Int32} {v1 : Int32}  {s0 : St} {z : Int32} (h : M_figure v0 v1 = some z) : Cm l yX12_figure (.code yX12_figure cX12_figure 2 (some .int)) 1 WM w [.int v0, .int v1] s0 (some (.int z)) s0 := by
  refine Cm.of (own := RX12) (by decide +kernel) rfl (Nat.le_of_ble_eq_true rfl) (L := [(0, .int v0), (1, .int v1)]) rfl KoM (fun x hl C => ?_)
  subst hl
  unfold M_figure at h
  refine r_iload_n C dX12_figure_0 rfl 0 rfl ?_
  refine r_sipush (v := 243) C dX12_figure_1 (by decide) ?_
  refine r_icmp_ne (tgt := 11) C dX12_figure_4 (by decide) (fun c_1 => ?_) (fun c_1 => ?_)
  · have h := iq h c_1
    refine r_iload_n C dX12_figure_11 rfl 0 rfl ?_
    refine r_iload_n C dX12_figure_12 rfl 1 rfl ?_
    obtain ⟨r_2, er_2, h⟩ := bdE h
    refine kX12_175 C (m_X12_power er_2) (by decide) (Nat.le_of_ble_eq_true rfl) dX12_figure_13 ?_
    obtain ⟨g_3, h⟩ := gdE h
    refine r_idiv C dX12_figure_16 g_3 ?_
    refine r_iconst (v := 3) C dX12_figure_17 (by decide) ?_
    refine r_irem C dX12_figure_18 (by decide) ?_
    cases h
    exact r_iret C dX12_figure_19
  · have h := ip h c_1
    refine r_iconst (v := 0) C dX12_figure_7 (by decide) ?_
    refine r_goto (tgt := 19) C dX12_figure_8 (by decide) ?_
    cases h
    exact r_iret C dX12_figure_19
def M_answer_L15 (K67 : Int32 → Option (Int32)) (v0_3 : Int32) (v1_4 : Int32) : Nat → Int32 → Int32 → Option (Int32)
  | 0, _, _ => none
  | n + 1, v2_5, v3_6 => if 5 ≤ v3_6 then (K67 v2_5) else (Option.bind (M_figure v0_3 v3_6) (fun r_8 => (M_answer_L15 K67 v0_3 v1_4 n) (if v2_5 = 0 then 0 else (if r_8 = 0 then 1 else (if (M_has v1_4 v3_6) = (if r_8 = 1 then 1 else 0 : Int32) then 1 else 0)) : Int32) (v3_6 + 1)))
def M_answer (v0 : Int32) (v1 : Int32) : Option (Int32) :=
  M_answer_L15 (fun (v2_16 : Int32) => some (if v2_16 = 0 then 0 else 1 : Int32)) v0 v1 1100 (if v0 = 243 then 0 else 1 : Int32) 0
set_option maxHeartbeats 4000000 in
set_option maxRecDepth 100000 in
theorem t_X12_answer_L15 {x : Ctx} {w : Wp} {v0_3 : Int32} {v1_4 : Int32} {s0 : St} {z : Int32}  {K67 : Int32 → Option (Int32)} (hK67 : ∀ (u2_15 : Int32), K67 u2_15 = some z → V x WM w 5 (QM x WM w (some (.int z)) s0) s0 67 [(2, .int u2_15)] []) (C : Cx x WM w cX12_answer 5 RX12 2 (some .int)) : ∀ (n : Nat) (v2_5 : Int32) (v3_6 : Int32), M_answer_L15 K67 v0_3 v1_4 n v2_5 v3_6 = some z → V x WM w 5 (QM x WM w (some (.int z)) s0) s0 15 [(0, .int v0_3), (1, .int v1_4), (2, .int v2_5), (3, .int v3_6)] [] := by
  intro n
  induction n with
  | zero => intro v2_5 v3_6 h; cases h
  | succ n ih =>
    intro v2_5 v3_6 h
    unfold M_answer_L15 at h
    refine r_iload_n C dX12_answer_15 rfl 3 rfl ?_
    refine r_iconst (v := 5) C dX12_answer_16 (by decide) ?_
    refine r_icmp_ge (tgt := 67) C dX12_answer_17 (by decide) (fun c_7 => ?_) (fun c_7 => ?_)
    · have h := ip h c_7
      refine r_sub [2] rfl ?_
      exact hK67 _ h
    · have h := iq h c_7
      refine r_iload_n C dX12_answer_20 rfl 0 rfl ?_
      refine r_iload_n C dX12_answer_21 rfl 3 rfl ?_
      obtain ⟨r_8, er_8, h⟩ := bdE h
      refine kX12_184 C (m_X12_figure er_8) (by decide) (Nat.le_of_ble_eq_true rfl) dX12_answer_22 ?_
      refine r_istore C dX12_answer_25 (Nat.le_of_ble_eq_true rfl) (L' := [(4, _), (0, _), (1, _), (2, _), (3, _)]) rfl ?_
      refine r_iload_n C dX12_answer_27 rfl 3 rfl ?_
      refine r_em (st := []) 60 ((if v2_5 = 0 then 0 else (if r_8 = 0 then 1 else (if (M_has v1_4 v3_6) = (if r_8 = 1 then 1 else 0 : Int32) then 1 else 0)) : Int32)) (fun hM_14 => ?_) ?_
      · refine r_if_eq (tgt := 59) C dX12_answer_28 (by decide) (fun c_13 => ?_) (fun c_13 => ?_)
        · refine r_iconst (v := 0) C dX12_answer_59 (by decide) ?_
          exact (em_pos c_13 hM_14)
        · refine r_iload C dX12_answer_31 0 rfl ?_
          refine r_if_eq (tgt := 55) C dX12_answer_33 (by decide) (fun c_9 => ?_) (fun c_9 => ?_)
          · refine r_iconst (v := 1) C dX12_answer_55 (by decide) ?_
            refine r_goto (tgt := 60) C dX12_answer_56 (by decide) ?_
            exact (em_pos c_9 (em_neg c_13 hM_14))
          · refine r_iload_n C dX12_answer_36 rfl 2 rfl ?_
            refine r_iload_n C dX12_answer_37 rfl 4 rfl ?_
            refine kX12_187 C (m_X12_has rfl) (by decide) (Nat.le_of_ble_eq_true rfl) dX12_answer_38 ?_
            refine r_iload C dX12_answer_41 0 rfl ?_
            refine r_iconst (v := 1) C dX12_answer_43 (by decide) ?_
            refine r_em (st := [.int (M_has v1_4 v3_6)]) 52 ((if r_8 = 1 then 1 else 0 : Int32)) (fun hM_11 => ?_) ?_
            · refine r_icmp_ne (tgt := 51) C dX12_answer_44 (by decide) (fun c_10 => ?_) (fun c_10 => ?_)
              · refine r_iconst (v := 0) C dX12_answer_51 (by decide) ?_
                exact (em_neg c_10 hM_11)
              · refine r_iconst (v := 1) C dX12_answer_47 (by decide) ?_
                refine r_goto (tgt := 52) C dX12_answer_48 (by decide) ?_
                exact (em_pos c_10 hM_11)
            refine r_icmp_ne (tgt := 59) C dX12_answer_52 (by decide) (fun c_12 => ?_) (fun c_12 => ?_)
            · refine r_iconst (v := 0) C dX12_answer_59 (by decide) ?_
              exact (em_neg c_12 (em_neg c_9 (em_neg c_13 hM_14)))
            · refine r_iconst (v := 1) C dX12_answer_55 (by decide) ?_
              refine r_goto (tgt := 60) C dX12_answer_56 (by decide) ?_
              exact (em_pos c_12 (em_neg c_9 (em_neg c_13 hM_14)))
      refine r_istore_n C dX12_answer_60 rfl (Nat.le_of_ble_eq_true rfl) (L' := [(2, _), (4, _), (0, _), (1, _), (3, _)]) rfl ?_
      refine r_iinc (v := v3_6 + 1) C dX12_answer_61 (j := 4) rfl rfl (Nat.le_of_ble_eq_true rfl) (L' := [(3, _), (2, _), (4, _), (0, _), (1, _)]) rfl ?_
      refine r_goto (tgt := 15) C dX12_answer_64 (by decide) ?_
      refine r_sub [3, 4, 1, 0] rfl ?_
      exact ih _ _ h
set_option maxHeartbeats 4000000 in
set_option maxRecDepth 100000 in
theorem m_X12_answer {l : Launch} {w : Wp} {v0 : Int32} {v1 : Int32}  {s0 : St} {z : Int32} (h : M_answer v0 v1 = some z) : Cm l yX12_answer (.code yX12_answer cX12_answer 5 (some .int)) 2 WM w [.int v0, .int v1] s0 (some (.int z)) s0 := by
  refine Cm.of (own := RX12) (by decide +kernel) rfl (Nat.le_of_ble_eq_true rfl) (L := [(0, .int v0), (1, .int v1)]) rfl KoM (fun x hl C => ?_)
  subst hl
  unfold M_answer at h
  refine r_iload_n C dX12_answer_0 rfl 0 rfl ?_
  refine r_sipush (v := 243) C dX12_answer_1 (by decide) ?_
  refine r_em (st := []) 12 ((if v0 = 243 then 0 else 1 : Int32)) (fun hM_2 => ?_) ?_
  · refine r_icmp_eq (tgt := 11) C dX12_answer_4 (by decide) (fun c_1 => ?_) (fun c_1 => ?_)
    · refine r_iconst (v := 0) C dX12_answer_11 (by decide) ?_
      exact (em_pos c_1 hM_2)
    · refine r_iconst (v := 1) C dX12_answer_7 (by decide) ?_
      refine r_goto (tgt := 12) C dX12_answer_8 (by decide) ?_
      exact (em_neg c_1 hM_2)
  refine r_istore_n C dX12_answer_12 rfl (Nat.le_of_ble_eq_true rfl) (L' := [(2, _), (0, _), (1, _)]) rfl ?_
  refine r_iconst (v := 0) C dX12_answer_13 (by decide) ?_
  refine r_istore_n C dX12_answer_14 rfl (Nat.le_of_ble_eq_true rfl) (L' := [(3, _), (2, _), (0, _), (1, _)]) rfl ?_
  refine r_sub [2, 3, 1, 0] rfl ?_
  refine t_X12_answer_L15 (fun v2_16 h => ?_) C _ _ _ h
  refine r_iload_n C dX12_answer_67 rfl 0 rfl ?_
  refine r_em (st := []) 76 ((if v2_16 = 0 then 0 else 1 : Int32)) (fun hM_18 => ?_) ?_
  · refine r_if_eq (tgt := 75) C dX12_answer_68 (by decide) (fun c_17 => ?_) (fun c_17 => ?_)
    · refine r_iconst (v := 0) C dX12_answer_75 (by decide) ?_
      exact (em_pos c_17 hM_18)
    · refine r_iconst (v := 1) C dX12_answer_71 (by decide) ?_
      refine r_goto (tgt := 76) C dX12_answer_72 (by decide) ?_
      exact (em_neg c_17 hM_18)
  cases h
  exact r_iret C dX12_answer_76
def M_answers (v1 : Int32) (v2 : Int32) : Option (Int32) :=
  if (M_isRule v1) = 0 then (some (-1)) else (if (M_isSet v2) = 0 then (some (-1)) else (Option.bind (M_answer v1 v2) (fun r_3 => some r_3)))
set_option maxHeartbeats 4000000 in
set_option maxRecDepth 100000 in
theorem m_X12_answers {l : Launch} {w : Wp} {v1 : Int32} {v2 : Int32}  {s0 : St} {z : Int32} (h : M_answers v1 v2 = some z) : Cm l yX12_answers (.code yX12_answers cX12_answers 3 (some .int)) 3 WM w [.ref (wa w 0 0), .int v1, .int v2] s0 (some (.int z)) s0 := by
  refine Cm.of (own := RX12) (by decide +kernel) rfl (Nat.le_of_ble_eq_true rfl) (L := [(0, .ref (wa w 0 0)), (1, .int v1), (2, .int v2)]) rfl KoM (fun x hl C => ?_)
  subst hl
  unfold M_answers at h
  refine r_iload_n C dX12_answers_0 rfl 1 rfl ?_
  refine kX12_190 C (m_X12_isRule rfl) (by decide) (Nat.le_of_ble_eq_true rfl) dX12_answers_1 ?_
  refine r_if_eq (tgt := 22) C dX12_answers_4 (by decide) (fun c_1 => ?_) (fun c_1 => ?_)
  · have h := ip h c_1
    refine r_iconst (v := (-1)) C dX12_answers_22 (by decide) ?_
    cases h
    exact r_iret C dX12_answers_23
  · have h := iq h c_1
    refine r_iload_n C dX12_answers_7 rfl 2 rfl ?_
    refine kX12_134 C (m_X12_isSet rfl) (by decide) (Nat.le_of_ble_eq_true rfl) dX12_answers_8 ?_
    refine r_if_eq (tgt := 22) C dX12_answers_11 (by decide) (fun c_2 => ?_) (fun c_2 => ?_)
    · have h := ip h c_2
      refine r_iconst (v := (-1)) C dX12_answers_22 (by decide) ?_
      cases h
      exact r_iret C dX12_answers_23
    · have h := iq h c_2
      refine r_iload_n C dX12_answers_14 rfl 1 rfl ?_
      refine r_iload_n C dX12_answers_15 rfl 2 rfl ?_
      obtain ⟨r_3, er_3, h⟩ := bdE h
      refine kX12_193 C (m_X12_answer er_3) (by decide) (Nat.le_of_ble_eq_true rfl) dX12_answers_16 ?_
      refine r_goto (tgt := 23) C dX12_answers_19 (by decide) ?_
      cases h
      exact r_iret C dX12_answers_23
def M_doesFit (v1 : Int32) (v2 : Int32) (v3 : Int32) (s0 : St) : Option (Int32) :=
  Option.bind (M_answer v3 v2) (fun r_1 => if inb v1 24 = true then if r_1 = (s0.1 20 0 v1.toNatClampNeg) then (if inb v1 24 = true then if (s0.1 21 0 v1.toNatClampNeg) = (-9) then (some 1) else (if inb v1 24 = true then Option.bind (M_figure v3 (s0.1 21 0 v1.toNatClampNeg)) (fun r_7 => some (if r_7 ≤ 0 then 0 else 1 : Int32)) else none) else none) else (some 0) else none)
set_option maxHeartbeats 4000000 in
set_option maxRecDepth 100000 in
theorem m_X12_doesFit {l : Launch} {w : Wp} {v1 : Int32} {v2 : Int32} {v3 : Int32}  {s0 : St} {z : Int32} (h : M_doesFit v1 v2 v3 s0 = some z) : Cm l yX12_doesFit (.code yX12_doesFit cX12_doesFit 4 (some .boolean)) 3 WM w [.ref (wa w 0 0), .int v1, .int v2, .int v3] s0 (some (.int z)) s0 := by
  refine Cm.of (own := RX12) (by decide +kernel) rfl (Nat.le_of_ble_eq_true rfl) (L := [(0, .ref (wa w 0 0)), (1, .int v1), (2, .int v2), (3, .int v3)]) rfl KoM (fun x hl C => ?_)
  subst hl
  unfold M_doesFit at h
  refine r_iload_n C dX12_doesFit_0 rfl 3 rfl ?_
  refine r_iload_n C dX12_doesFit_1 rfl 2 rfl ?_
  obtain ⟨r_1, er_1, h⟩ := bdE h
  refine kX12_193 C (m_X12_answer er_1) (by decide) (Nat.le_of_ble_eq_true rfl) dX12_doesFit_2 ?_
  refine r_aload_n C dX12_doesFit_5 rfl 0 rfl ?_
  refine gfX12_53 C dX12_doesFit_6 ?_
  refine r_iload_n C dX12_doesFit_9 rfl 1 rfl ?_
  obtain ⟨g_2, h⟩ := gdE h
  refine ldM_20 C g_2 dX12_doesFit_10 ?_
  refine r_icmp_ne (tgt := 42) C dX12_doesFit_11 (by decide) (fun c_3 => ?_) (fun c_3 => ?_)
  · have h := iq h c_3
    refine r_iconst (v := 0) C dX12_doesFit_42 (by decide) ?_
    cases h
    exact r_zret C rfl dX12_doesFit_43
  · have h := ip h c_3
    refine r_aload_n C dX12_doesFit_14 rfl 0 rfl ?_
    refine gfX12_56 C dX12_doesFit_15 ?_
    refine r_iload_n C dX12_doesFit_18 rfl 1 rfl ?_
    obtain ⟨g_4, h⟩ := gdE h
    refine ldM_21 C g_4 dX12_doesFit_19 ?_
    refine r_bipush (v := (-9)) C dX12_doesFit_20 (by decide) ?_
    refine r_icmp_eq (tgt := 38) C dX12_doesFit_22 (by decide) (fun c_5 => ?_) (fun c_5 => ?_)
    · have h := ip h c_5
      refine r_iconst (v := 1) C dX12_doesFit_38 (by decide) ?_
      refine r_goto (tgt := 43) C dX12_doesFit_39 (by decide) ?_
      cases h
      exact r_zret C rfl dX12_doesFit_43
    · have h := iq h c_5
      refine r_iload_n C dX12_doesFit_25 rfl 3 rfl ?_
      refine r_aload_n C dX12_doesFit_26 rfl 0 rfl ?_
      refine gfX12_56 C dX12_doesFit_27 ?_
      refine r_iload_n C dX12_doesFit_30 rfl 1 rfl ?_
      obtain ⟨g_6, h⟩ := gdE h
      refine ldM_21 C g_6 dX12_doesFit_31 ?_
      obtain ⟨r_7, er_7, h⟩ := bdE h
      refine kX12_184 C (m_X12_figure er_7) (by decide) (Nat.le_of_ble_eq_true rfl) dX12_doesFit_32 ?_
      refine r_em (st := []) 43 ((if r_7 ≤ 0 then 0 else 1 : Int32)) (fun hM_9 => ?_) ?_
      · refine r_if_le (tgt := 42) C dX12_doesFit_35 (by decide) (fun c_8 => ?_) (fun c_8 => ?_)
        · refine r_iconst (v := 0) C dX12_doesFit_42 (by decide) ?_
          exact (em_pos c_8 hM_9)
        · refine r_iconst (v := 1) C dX12_doesFit_38 (by decide) ?_
          refine r_goto (tgt := 43) C dX12_doesFit_39 (by decide) ?_
          exact (em_neg c_8 hM_9)
      cases h
      exact r_zret C (nb_ite rfl rfl) dX12_doesFit_43
def M_fits_J15    (s0 : St) : Option (Int32) :=
  some (-1)
def M_fits (v1 : Int32) (v2 : Int32) (s0 : St) : Option (Int32) :=
  if (M_isSaying v1 s0) = 0 then (M_fits_J15 s0) else (if (M_isRule v2) = 0 then (M_fits_J15 s0) else (if inb v1 24 = true then if inb (s0.1 18 0 v1.toNatClampNeg) 12 = true then Option.bind (M_doesFit v1 (s0.1 11 0 ((s0.1 18 0 v1.toNatClampNeg).toNatClampNeg)) v2 s0) (fun r_5 => some (if r_5 = 0 then 0 else 1 : Int32)) else none else none))
set_option maxHeartbeats 4000000 in
set_option maxRecDepth 100000 in
theorem t_X12_fits_J15 {x : Ctx} {w : Wp}   {s0 : St} {z : Int32}    (C : Cx x WM w cX12_fits 3 RX12 4 (some .int)) (h : M_fits_J15 s0 = some z) : V x WM w 3 (QM x WM w (some (.int z)) s0) s0 15 [] [] := by
  unfold M_fits_J15 at h
  refine r_iconst (v := (-1)) C dX12_fits_15 (by decide) ?_
  refine r_goto (tgt := 44) C dX12_fits_16 (by decide) ?_
  cases h
  exact r_iret C dX12_fits_44
set_option maxHeartbeats 4000000 in
set_option maxRecDepth 100000 in
theorem m_X12_fits {l : Launch} {w : Wp} {v1 : Int32} {v2 : Int32}  {s0 : St} {z : Int32} (h : M_fits v1 v2 s0 = some z) : Cm l yX12_fits (.code yX12_fits cX12_fits 3 (some .int)) 4 WM w [.ref (wa w 0 0), .int v1, .int v2] s0 (some (.int z)) s0 := by
  refine Cm.of (own := RX12) (by decide +kernel) rfl (Nat.le_of_ble_eq_true rfl) (L := [(0, .ref (wa w 0 0)), (1, .int v1), (2, .int v2)]) rfl KoM (fun x hl C => ?_)
  subst hl
  unfold M_fits at h
  refine r_aload_n C dX12_fits_0 rfl 0 rfl ?_
  refine r_iload_n C dX12_fits_1 rfl 1 rfl ?_
  refine kX12_157 C (m_X12_isSaying rfl) (by decide) (Nat.le_of_ble_eq_true rfl) dX12_fits_2 ?_
  refine r_if_eq (tgt := 15) C dX12_fits_5 (by decide) (fun c_1 => ?_) (fun c_1 => ?_)
  · have h := ip h c_1
    refine r_sub [] rfl ?_
    exact t_X12_fits_J15 C h
  · have h := iq h c_1
    refine r_iload_n C dX12_fits_8 rfl 2 rfl ?_
    refine kX12_190 C (m_X12_isRule rfl) (by decide) (Nat.le_of_ble_eq_true rfl) dX12_fits_9 ?_
    refine r_if_ne (tgt := 19) C dX12_fits_12 (by decide) (fun c_2 => ?_) (fun c_2 => ?_)
    · have h := iq h c_2
      refine r_aload_n C dX12_fits_19 rfl 0 rfl ?_
      refine r_iload_n C dX12_fits_20 rfl 1 rfl ?_
      refine r_aload_n C dX12_fits_21 rfl 0 rfl ?_
      refine gfX12_32 C dX12_fits_22 ?_
      refine r_aload_n C dX12_fits_25 rfl 0 rfl ?_
      refine gfX12_47 C dX12_fits_26 ?_
      refine r_iload_n C dX12_fits_29 rfl 1 rfl ?_
      obtain ⟨g_3, h⟩ := gdE h
      refine ldM_18 C g_3 dX12_fits_30 ?_
      obtain ⟨g_4, h⟩ := gdE h
      refine ldM_11 C g_4 dX12_fits_31 ?_
      refine r_iload_n C dX12_fits_32 rfl 2 rfl ?_
      obtain ⟨r_5, er_5, h⟩ := bdE h
      refine kX12_196 C (m_X12_doesFit er_5) (by decide) (Nat.le_of_ble_eq_true rfl) dX12_fits_33 ?_
      refine r_em (st := []) 44 ((if r_5 = 0 then 0 else 1 : Int32)) (fun hM_7 => ?_) ?_
      · refine r_if_eq (tgt := 43) C dX12_fits_36 (by decide) (fun c_6 => ?_) (fun c_6 => ?_)
        · refine r_iconst (v := 0) C dX12_fits_43 (by decide) ?_
          exact (em_pos c_6 hM_7)
        · refine r_iconst (v := 1) C dX12_fits_39 (by decide) ?_
          refine r_goto (tgt := 44) C dX12_fits_40 (by decide) ?_
          exact (em_neg c_6 hM_7)
      cases h
      exact r_iret C dX12_fits_44
    · have h := ip h c_2
      refine r_sub [] rfl ?_
      exact t_X12_fits_J15 C h
def M_isPrice (v0 : Int32) : Int32 :=
  M_in v0 0 99
set_option maxHeartbeats 4000000 in
set_option maxRecDepth 100000 in
theorem m_X12_isPrice {l : Launch} {w : Wp} {v0 : Int32}  {s0 : St} {z : Int32} (h : M_isPrice v0 = z) : Cm l yX12_isPrice (.code yX12_isPrice cX12_isPrice 1 (some .boolean)) 1 WM w [.int v0] s0 (some (.int z)) s0 := by
  refine Cm.of (own := RX12) (by decide +kernel) rfl (Nat.le_of_ble_eq_true rfl) (L := [(0, .int v0)]) rfl KoM (fun x hl C => ?_)
  subst hl
  unfold M_isPrice at h
  refine r_iload_n C dX12_isPrice_0 rfl 0 rfl ?_
  refine r_iconst (v := 0) C dX12_isPrice_1 (by decide) ?_
  refine r_bipush (v := 99) C dX12_isPrice_2 (by decide) ?_
  refine kX12_97 C (m_X12_in rfl) (by decide) (Nat.le_of_ble_eq_true rfl) dX12_isPrice_4 ?_
  subst h
  exact r_zret C nb_X12_in dX12_isPrice_7
theorem nb_X12_isPrice {v0 : Int32} : narrow .boolean (.int (M_isPrice v0)) = .int (M_isPrice v0) := by
  unfold M_isPrice
  exact nb_X12_in
def M_prices (v1 : Int32) (v2 : Int32) (v3 : Int32) (s0 : St) : Option (Int32 × St) :=
  if (M_isPrice v1) = 0 then (some ((-1), s0)) else (if (M_isPrice v2) = 0 then (some ((-1), s0)) else (if (M_isPrice v3) = 0 then (some ((-1), s0)) else (some (1, sX (sX (sX s0 24 0 0 v1) 24 0 1 v2) 24 0 2 v3))))
set_option maxHeartbeats 4000000 in
set_option maxRecDepth 100000 in
theorem m_X12_prices {l : Launch} {w : Wp} {v1 : Int32} {v2 : Int32} {v3 : Int32}  {s0 : St} {z : Int32 × St} (h : M_prices v1 v2 v3 s0 = some z) : Cm l yX12_prices (.code yX12_prices cX12_prices 4 (some .int)) 2 WM w [.ref (wa w 0 0), .int v1, .int v2, .int v3] s0 (some (.int z.1)) z.2 := by
  refine Cm.of (own := RX12) (by decide +kernel) rfl (Nat.le_of_ble_eq_true rfl) (L := [(0, .ref (wa w 0 0)), (1, .int v1), (2, .int v2), (3, .int v3)]) rfl KoM (fun x hl C => ?_)
  subst hl
  unfold M_prices at h
  refine r_iload_n C dX12_prices_0 rfl 1 rfl ?_
  refine kX12_199 C (m_X12_isPrice rfl) (by decide) (Nat.le_of_ble_eq_true rfl) dX12_prices_1 ?_
  refine r_if_eq (tgt := 21) C dX12_prices_4 (by decide) (fun c_1 => ?_) (fun c_1 => ?_)
  · have h := ip h c_1
    refine r_iconst (v := (-1)) C dX12_prices_21 (by decide) ?_
    cases h
    exact r_iret C dX12_prices_22
  · have h := iq h c_1
    refine r_iload_n C dX12_prices_7 rfl 2 rfl ?_
    refine kX12_199 C (m_X12_isPrice rfl) (by decide) (Nat.le_of_ble_eq_true rfl) dX12_prices_8 ?_
    refine r_if_eq (tgt := 21) C dX12_prices_11 (by decide) (fun c_2 => ?_) (fun c_2 => ?_)
    · have h := ip h c_2
      refine r_iconst (v := (-1)) C dX12_prices_21 (by decide) ?_
      cases h
      exact r_iret C dX12_prices_22
    · have h := iq h c_2
      refine r_iload_n C dX12_prices_14 rfl 3 rfl ?_
      refine kX12_199 C (m_X12_isPrice rfl) (by decide) (Nat.le_of_ble_eq_true rfl) dX12_prices_15 ?_
      refine r_if_ne (tgt := 23) C dX12_prices_18 (by decide) (fun c_3 => ?_) (fun c_3 => ?_)
      · have h := iq h c_3
        refine r_aload_n C dX12_prices_23 rfl 0 rfl ?_
        refine gfX12_62 C dX12_prices_24 ?_
        refine r_iconst (v := 0) C dX12_prices_27 (by decide) ?_
        refine r_iload_n C dX12_prices_28 rfl 1 rfl ?_
        refine stM_24 C (by decide) dX12_prices_29 ?_
        refine r_aload_n C dX12_prices_30 rfl 0 rfl ?_
        refine gfX12_62 C dX12_prices_31 ?_
        refine r_iconst (v := 1) C dX12_prices_34 (by decide) ?_
        refine r_iload_n C dX12_prices_35 rfl 2 rfl ?_
        refine stM_24 C (by decide) dX12_prices_36 ?_
        refine r_aload_n C dX12_prices_37 rfl 0 rfl ?_
        refine gfX12_62 C dX12_prices_38 ?_
        refine r_iconst (v := 2) C dX12_prices_41 (by decide) ?_
        refine r_iload_n C dX12_prices_42 rfl 3 rfl ?_
        refine stM_24 C (by decide) dX12_prices_43 ?_
        refine r_iconst (v := 1) C dX12_prices_44 (by decide) ?_
        cases h
        exact r_iret C dX12_prices_45
      · have h := ip h c_3
        refine r_iconst (v := (-1)) C dX12_prices_21 (by decide) ?_
        cases h
        exact r_iret C dX12_prices_22
