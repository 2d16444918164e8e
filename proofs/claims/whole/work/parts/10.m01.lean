def M_in (v0 : Int32) (v1 : Int32) (v2 : Int32) : Int32 :=
  (if v0 < v1 then 0 else (if v2 < v0 then 0 else 1) : Int32)
set_option maxHeartbeats 4000000 in
set_option maxRecDepth 100000 in
theorem m_X12_in {l : Launch} {w : Wp} {v0 : Int32} {v1 : Int32} {v2 : Int32}  {s0 : St} {z : Int32} (h : M_in v0 v1 v2 = z) : Cm l yX12_in (.code yX12_in cX12_in 3 (some .boolean)) 0 WM w [.int v0, .int v1, .int v2] s0 (some (.int z)) s0 := by
  refine Cm.of (own := RX12) (by decide +kernel) rfl (Nat.le_of_ble_eq_true rfl) (L := [(0, .int v0), (1, .int v1), (2, .int v2)]) rfl KoM (fun x hl C => ?_)
  subst hl
  unfold M_in at h
  refine r_iload_n C dX12_in_0 rfl 0 rfl ?_
  refine r_iload_n C dX12_in_1 rfl 1 rfl ?_
  refine r_em (st := []) 15 ((if v0 < v1 then 0 else (if v2 < v0 then 0 else 1) : Int32)) (fun hM_3 => ?_) ?_
  · refine r_icmp_lt (tgt := 14) C dX12_in_2 (by decide) (fun c_2 => ?_) (fun c_2 => ?_)
    · refine r_iconst (v := 0) C dX12_in_14 (by decide) ?_
      exact (em_pos c_2 hM_3)
    · refine r_iload_n C dX12_in_5 rfl 0 rfl ?_
      refine r_iload_n C dX12_in_6 rfl 2 rfl ?_
      refine r_icmp_gt (tgt := 14) C dX12_in_7 (by decide) (fun c_1 => ?_) (fun c_1 => ?_)
      · refine r_iconst (v := 0) C dX12_in_14 (by decide) ?_
        exact (em_pos c_1 (em_neg c_2 hM_3))
      · refine r_iconst (v := 1) C dX12_in_10 (by decide) ?_
        refine r_goto (tgt := 15) C dX12_in_11 (by decide) ?_
        exact (em_neg c_1 (em_neg c_2 hM_3))
  subst h
  exact r_zret C (nb_ite rfl (nb_ite rfl rfl)) dX12_in_15
theorem nb_X12_in {v0 : Int32} {v1 : Int32} {v2 : Int32} : narrow .boolean (.int (M_in v0 v1 v2)) = .int (M_in v0 v1 v2) := by
  unfold M_in
  exact (nb_ite rfl (nb_ite rfl rfl))
def M_meets (v1 : Int32) (s0 : St) : Option (Int32 × St) :=
  if inb v1 6 = true then if inb v1 6 = true then some ((-3), sX (sX s0 0 0 0 v1) 1 0 v1.toNatClampNeg (((sX s0 0 0 0 v1).1 1 0 v1.toNatClampNeg) + 1)) else none else none
set_option maxHeartbeats 4000000 in
set_option maxRecDepth 100000 in
theorem m_X12_meets {l : Launch} {w : Wp} {v1 : Int32}  {s0 : St} {z : Int32 × St} (h : M_meets v1 s0 = some z) : Cm l yX12_meets (.code yX12_meets cX12_meets 2 (some .int)) 0 WM w [.ref (wa w 0 0), .int v1] s0 (some (.int z.1)) z.2 := by
  refine Cm.of (own := RX12) (by decide +kernel) rfl (Nat.le_of_ble_eq_true rfl) (L := [(0, .ref (wa w 0 0)), (1, .int v1)]) rfl KoM (fun x hl C => ?_)
  subst hl
  unfold M_meets at h
  refine r_aload_n C dX12_meets_0 rfl 0 rfl ?_
  refine r_iload_n C dX12_meets_1 rfl 1 rfl ?_
  refine pfX12_90 C dX12_meets_2 ?_
  refine r_aload_n C dX12_meets_5 rfl 0 rfl ?_
  refine gfX12_7 C dX12_meets_6 ?_
  refine r_iload_n C dX12_meets_9 rfl 1 rfl ?_
  refine r_dup2 C dX12_meets_10 rfl rfl ?_
  obtain ⟨g_1, h⟩ := gdE h
  refine ldM_1 C g_1 dX12_meets_11 ?_
  refine r_iconst (v := 1) C dX12_meets_12 (by decide) ?_
  refine r_iadd C dX12_meets_13 ?_
  obtain ⟨g_2, h⟩ := gdE h
  refine stM_1 C g_2 dX12_meets_14 ?_
  refine r_bipush (v := (-3)) C dX12_meets_15 (by decide) ?_
  cases h
  exact r_iret C dX12_meets_17
def M_ask (v1 : Int32) (v2 : Int32) (s0 : St) : Option (Int32 × St) :=
  some (v2, sX s0 0 0 2 v1)
set_option maxHeartbeats 4000000 in
set_option maxRecDepth 100000 in
theorem m_X12_ask {l : Launch} {w : Wp} {v1 : Int32} {v2 : Int32}  {s0 : St} {z : Int32 × St} (h : M_ask v1 v2 s0 = some z) : Cm l yX12_ask (.code yX12_ask cX12_ask 3 (some .int)) 0 WM w [.ref (wa w 0 0), .int v1, .int v2] s0 (some (.int z.1)) z.2 := by
  refine Cm.of (own := RX12) (by decide +kernel) rfl (Nat.le_of_ble_eq_true rfl) (L := [(0, .ref (wa w 0 0)), (1, .int v1), (2, .int v2)]) rfl KoM (fun x hl C => ?_)
  subst hl
  unfold M_ask at h
  refine r_aload_n C dX12_ask_0 rfl 0 rfl ?_
  refine r_iload_n C dX12_ask_1 rfl 1 rfl ?_
  refine pfX12_94 C dX12_ask_2 ?_
  refine r_iload_n C dX12_ask_5 rfl 2 rfl ?_
  cases h
  exact r_iret C dX12_ask_6
def M_has (v0 : Int32) (v1 : Int32) : Int32 :=
  (if ((v0 >>> (v1 &&& 31)) &&& 1) = 1 then 1 else 0 : Int32)
set_option maxHeartbeats 4000000 in
set_option maxRecDepth 100000 in
theorem m_X12_has {l : Launch} {w : Wp} {v0 : Int32} {v1 : Int32}  {s0 : St} {z : Int32} (h : M_has v0 v1 = z) : Cm l yX12_has (.code yX12_has cX12_has 2 (some .boolean)) 0 WM w [.int v0, .int v1] s0 (some (.int z)) s0 := by
  refine Cm.of (own := RX12) (by decide +kernel) rfl (Nat.le_of_ble_eq_true rfl) (L := [(0, .int v0), (1, .int v1)]) rfl KoM (fun x hl C => ?_)
  subst hl
  unfold M_has at h
  refine r_iload_n C dX12_has_0 rfl 0 rfl ?_
  refine r_iload_n C dX12_has_1 rfl 1 rfl ?_
  refine r_ishr C dX12_has_2 ?_
  refine r_iconst (v := 1) C dX12_has_3 (by decide) ?_
  refine r_iand C dX12_has_4 ?_
  refine r_iconst (v := 1) C dX12_has_5 (by decide) ?_
  refine r_em (st := []) 14 ((if ((v0 >>> (v1 &&& 31)) &&& 1) = 1 then 1 else 0 : Int32)) (fun hM_2 => ?_) ?_
  · refine r_icmp_ne (tgt := 13) C dX12_has_6 (by decide) (fun c_1 => ?_) (fun c_1 => ?_)
    · refine r_iconst (v := 0) C dX12_has_13 (by decide) ?_
      exact (em_neg c_1 hM_2)
    · refine r_iconst (v := 1) C dX12_has_9 (by decide) ?_
      refine r_goto (tgt := 14) C dX12_has_10 (by decide) ?_
      exact (em_pos c_1 hM_2)
  subst h
  exact r_zret C (nb_ite rfl rfl) dX12_has_14
theorem nb_X12_has {v0 : Int32} {v1 : Int32} : narrow .boolean (.int (M_has v0 v1)) = .int (M_has v0 v1) := by
  unfold M_has
  exact (nb_ite rfl rfl)
def M_isRow (v0 : Int32) : Int32 :=
  M_in v0 0 5
set_option maxHeartbeats 4000000 in
set_option maxRecDepth 100000 in
theorem m_X12_isRow {l : Launch} {w : Wp} {v0 : Int32}  {s0 : St} {z : Int32} (h : M_isRow v0 = z) : Cm l yX12_isRow (.code yX12_isRow cX12_isRow 1 (some .boolean)) 1 WM w [.int v0] s0 (some (.int z)) s0 := by
  refine Cm.of (own := RX12) (by decide +kernel) rfl (Nat.le_of_ble_eq_true rfl) (L := [(0, .int v0)]) rfl KoM (fun x hl C => ?_)
  subst hl
  unfold M_isRow at h
  refine r_iload_n C dX12_isRow_0 rfl 0 rfl ?_
  refine r_iconst (v := 0) C dX12_isRow_1 (by decide) ?_
  refine r_iconst (v := 5) C dX12_isRow_2 (by decide) ?_
  refine kX12_97 C (m_X12_in rfl) (by decide) (Nat.le_of_ble_eq_true rfl) dX12_isRow_3 ?_
  subst h
  exact r_zret C nb_X12_in dX12_isRow_6
theorem nb_X12_isRow {v0 : Int32} : narrow .boolean (.int (M_isRow v0)) = .int (M_isRow v0) := by
  unfold M_isRow
  exact nb_X12_in
def M_isText (v0 : Int32) : Int32 :=
  M_in v0 0 3
set_option maxHeartbeats 4000000 in
set_option maxRecDepth 100000 in
theorem m_X12_isText {l : Launch} {w : Wp} {v0 : Int32}  {s0 : St} {z : Int32} (h : M_isText v0 = z) : Cm l yX12_isText (.code yX12_isText cX12_isText 1 (some .boolean)) 1 WM w [.int v0] s0 (some (.int z)) s0 := by
  refine Cm.of (own := RX12) (by decide +kernel) rfl (Nat.le_of_ble_eq_true rfl) (L := [(0, .int v0)]) rfl KoM (fun x hl C => ?_)
  subst hl
  unfold M_isText at h
  refine r_iload_n C dX12_isText_0 rfl 0 rfl ?_
  refine r_iconst (v := 0) C dX12_isText_1 (by decide) ?_
  refine r_iconst (v := 3) C dX12_isText_2 (by decide) ?_
  refine kX12_97 C (m_X12_in rfl) (by decide) (Nat.le_of_ble_eq_true rfl) dX12_isText_3 ?_
  subst h
  exact r_zret C nb_X12_in dX12_isText_6
theorem nb_X12_isText {v0 : Int32} : narrow .boolean (.int (M_isText v0)) = .int (M_isText v0) := by
  unfold M_isText
  exact nb_X12_in
def M_askedRow (v1 : Int32) (s0 : St) : Option (Int32 × St) :=
  if (M_isRow v1) = 0 then (some ((-1), s0)) else (if inb v1 6 = true then if 0 ≤ (s0.1 5 0 v1.toNatClampNeg) then (some (0, s0)) else (Option.bind (M_meets 1 s0) (fun r_4 => some (r_4.1, r_4.2))) else none)
set_option maxHeartbeats 4000000 in
set_option maxRecDepth 100000 in
theorem m_X12_askedRow {l : Launch} {w : Wp} {v1 : Int32}  {s0 : St} {z : Int32 × St} (h : M_askedRow v1 s0 = some z) : Cm l yX12_askedRow (.code yX12_askedRow cX12_askedRow 2 (some .int)) 2 WM w [.ref (wa w 0 0), .int v1] s0 (some (.int z.1)) z.2 := by
  refine Cm.of (own := RX12) (by decide +kernel) rfl (Nat.le_of_ble_eq_true rfl) (L := [(0, .ref (wa w 0 0)), (1, .int v1)]) rfl KoM (fun x hl C => ?_)
  subst hl
  unfold M_askedRow at h
  refine r_iload_n C dX12_askedRow_0 rfl 1 rfl ?_
  refine kX12_101 C (m_X12_isRow rfl) (by decide) (Nat.le_of_ble_eq_true rfl) dX12_askedRow_1 ?_
  refine r_if_ne (tgt := 11) C dX12_askedRow_4 (by decide) (fun c_1 => ?_) (fun c_1 => ?_)
  · have h := iq h c_1
    refine r_aload_n C dX12_askedRow_11 rfl 0 rfl ?_
    refine gfX12_17 C dX12_askedRow_12 ?_
    refine r_iload_n C dX12_askedRow_15 rfl 1 rfl ?_
    obtain ⟨g_2, h⟩ := gdE h
    refine ldM_5 C g_2 dX12_askedRow_16 ?_
    refine r_if_ge (tgt := 28) C dX12_askedRow_17 (by decide) (fun c_3 => ?_) (fun c_3 => ?_)
    · have h := ip h c_3
      refine r_iconst (v := 0) C dX12_askedRow_28 (by decide) ?_
      cases h
      exact r_iret C dX12_askedRow_29
    · have h := iq h c_3
      refine r_aload_n C dX12_askedRow_20 rfl 0 rfl ?_
      refine r_iconst (v := 1) C dX12_askedRow_21 (by decide) ?_
      obtain ⟨r_4, er_4, h⟩ := bdE h
      refine kX12_105 C (m_X12_meets er_4) (by decide) (Nat.le_of_ble_eq_true rfl) dX12_askedRow_22 ?_
      refine r_goto (tgt := 29) C dX12_askedRow_25 (by decide) ?_
      cases h
      exact r_iret C dX12_askedRow_29
  · have h := ip h c_1
    refine r_iconst (v := (-1)) C dX12_askedRow_7 (by decide) ?_
    refine r_goto (tgt := 29) C dX12_askedRow_8 (by decide) ?_
    cases h
    exact r_iret C dX12_askedRow_29
def M_askedText (v1 : Int32) (s0 : St) : Option (Int32 × St) :=
  if (M_isText v1) = 0 then (some ((-1), s0)) else (if inb v1 4 = true then if 0 ≤ (s0.1 8 0 v1.toNatClampNeg) then (some (0, s0)) else (Option.bind (M_meets 1 s0) (fun r_4 => some (r_4.1, r_4.2))) else none)
set_option maxHeartbeats 4000000 in
set_option maxRecDepth 100000 in
theorem m_X12_askedText {l : Launch} {w : Wp} {v1 : Int32}  {s0 : St} {z : Int32 × St} (h : M_askedText v1 s0 = some z) : Cm l yX12_askedText (.code yX12_askedText cX12_askedText 2 (some .int)) 2 WM w [.ref (wa w 0 0), .int v1] s0 (some (.int z.1)) z.2 := by
  refine Cm.of (own := RX12) (by decide +kernel) rfl (Nat.le_of_ble_eq_true rfl) (L := [(0, .ref (wa w 0 0)), (1, .int v1)]) rfl KoM (fun x hl C => ?_)
  subst hl
  unfold M_askedText at h
  refine r_iload_n C dX12_askedText_0 rfl 1 rfl ?_
  refine kX12_109 C (m_X12_isText rfl) (by decide) (Nat.le_of_ble_eq_true rfl) dX12_askedText_1 ?_
  refine r_if_ne (tgt := 11) C dX12_askedText_4 (by decide) (fun c_1 => ?_) (fun c_1 => ?_)
  · have h := iq h c_1
    refine r_aload_n C dX12_askedText_11 rfl 0 rfl ?_
    refine gfX12_26 C dX12_askedText_12 ?_
    refine r_iload_n C dX12_askedText_15 rfl 1 rfl ?_
    obtain ⟨g_2, h⟩ := gdE h
    refine ldM_8 C g_2 dX12_askedText_16 ?_
    refine r_if_ge (tgt := 28) C dX12_askedText_17 (by decide) (fun c_3 => ?_) (fun c_3 => ?_)
    · have h := ip h c_3
      refine r_iconst (v := 0) C dX12_askedText_28 (by decide) ?_
      cases h
      exact r_iret C dX12_askedText_29
    · have h := iq h c_3
      refine r_aload_n C dX12_askedText_20 rfl 0 rfl ?_
      refine r_iconst (v := 1) C dX12_askedText_21 (by decide) ?_
      obtain ⟨r_4, er_4, h⟩ := bdE h
      refine kX12_105 C (m_X12_meets er_4) (by decide) (Nat.le_of_ble_eq_true rfl) dX12_askedText_22 ?_
      refine r_goto (tgt := 29) C dX12_askedText_25 (by decide) ?_
      cases h
      exact r_iret C dX12_askedText_29
  · have h := ip h c_1
    refine r_iconst (v := (-1)) C dX12_askedText_7 (by decide) ?_
    refine r_goto (tgt := 29) C dX12_askedText_8 (by decide) ?_
    cases h
    exact r_iret C dX12_askedText_29
def M_rowAt (v1 : Int32) (v2 : Int32) (s0 : St) : Option (Int32) :=
  if inb ((40 * v1) + v2) 240 = true then some (s0.1 6 0 (((40 * v1) + v2).toNatClampNeg)) else none
set_option maxHeartbeats 4000000 in
set_option maxRecDepth 100000 in
theorem m_X12_rowAt {l : Launch} {w : Wp} {v1 : Int32} {v2 : Int32}  {s0 : St} {z : Int32} (h : M_rowAt v1 v2 s0 = some z) : Cm l yX12_rowAt (.code yX12_rowAt cX12_rowAt 3 (some .int)) 0 WM w [.ref (wa w 0 0), .int v1, .int v2] s0 (some (.int z)) s0 := by
  refine Cm.of (own := RX12) (by decide +kernel) rfl (Nat.le_of_ble_eq_true rfl) (L := [(0, .ref (wa w 0 0)), (1, .int v1), (2, .int v2)]) rfl KoM (fun x hl C => ?_)
  subst hl
  unfold M_rowAt at h
  refine r_aload_n C dX12_rowAt_0 rfl 0 rfl ?_
  refine gfX12_20 C dX12_rowAt_1 ?_
  refine r_bipush (v := 40) C dX12_rowAt_4 (by decide) ?_
  refine r_iload_n C dX12_rowAt_6 rfl 1 rfl ?_
  refine r_imul C dX12_rowAt_7 ?_
  refine r_iload_n C dX12_rowAt_8 rfl 2 rfl ?_
  refine r_iadd C dX12_rowAt_9 ?_
  obtain ⟨g_1, h⟩ := gdE h
  refine ldM_6 C g_1 dX12_rowAt_10 ?_
  cases h
  exact r_iret C dX12_rowAt_11
def M_row_L34  (v1_5 : Int32) (v2_6 : Int32) : Nat → Int32 → St → Option (Int32 × St)
  | 0, _, _ => none
  | n + 1, v3_7, s_8 => if 40 ≤ v3_7 then (some (v2_6, s_8)) else (if inb ((40 * v1_5) + v3_7) 240 = true then (M_row_L34 v1_5 v2_6 n) (v3_7 + 1) (sX s_8 6 0 (((40 * v1_5) + v3_7).toNatClampNeg) 0) else none)
def M_row (v1 : Int32) (v2 : Int32) (s0 : St) : Option (Int32 × St) :=
  if (M_isRow v1) = 0 then (some ((-1), s0)) else (if v2 ≤ 40 then (if 0 ≤ v2 then (if inb v1 6 = true then M_row_L34 v1 v2 1100 0 (sX s0 5 0 v1.toNatClampNeg v2) else none) else (Option.bind (M_meets 5 s0) (fun r_11 => some (r_11.1, r_11.2)))) else (some ((-1), s0)))
set_option maxHeartbeats 4000000 in
set_option maxRecDepth 100000 in
theorem t_X12_row_L34 {x : Ctx} {w : Wp} {v1_5 : Int32} {v2_6 : Int32} {z : Int32 × St}    (C : Cx x WM w cX12_row 4 RX12 2 (some .int)) : ∀ (n : Nat) (v3_7 : Int32) (s_8 : St), M_row_L34 v1_5 v2_6 n v3_7 s_8 = some z → V x WM w 4 (QM x WM w (some (.int z.1)) z.2) s_8 34 [(0, .ref (wa w 0 0)), (1, .int v1_5), (2, .int v2_6), (3, .int v3_7)] [] := by
  intro n
  induction n with
  | zero => intro v3_7 s_8 h; cases h
  | succ n ih =>
    intro v3_7 s_8 h
    unfold M_row_L34 at h
    refine r_iload_n C dX12_row_34 rfl 3 rfl ?_
    refine r_bipush (v := 40) C dX12_row_35 (by decide) ?_
    refine r_icmp_ge (tgt := 58) C dX12_row_37 (by decide) (fun c_9 => ?_) (fun c_9 => ?_)
    · have h := ip h c_9
      refine r_iload_n C dX12_row_58 rfl 2 rfl ?_
      cases h
      exact r_iret C dX12_row_59
    · have h := iq h c_9
      refine r_aload_n C dX12_row_40 rfl 0 rfl ?_
      refine gfX12_20 C dX12_row_41 ?_
      refine r_bipush (v := 40) C dX12_row_44 (by decide) ?_
      refine r_iload_n C dX12_row_46 rfl 1 rfl ?_
      refine r_imul C dX12_row_47 ?_
      refine r_iload_n C dX12_row_48 rfl 3 rfl ?_
      refine r_iadd C dX12_row_49 ?_
      refine r_iconst (v := 0) C dX12_row_50 (by decide) ?_
      obtain ⟨g_10, h⟩ := gdE h
      refine stM_6 C g_10 dX12_row_51 ?_
      refine r_iinc (v := v3_7 + 1) C dX12_row_52 (j := 3) rfl rfl (Nat.le_of_ble_eq_true rfl) (L' := [(3, _), (0, _), (1, _), (2, _)]) rfl ?_
      refine r_goto (tgt := 34) C dX12_row_55 (by decide) ?_
      refine r_sub [1, 2, 3, 0] rfl ?_
      exact ih _ _ h
set_option maxHeartbeats 4000000 in
set_option maxRecDepth 100000 in
theorem m_X12_row {l : Launch} {w : Wp} {v1 : Int32} {v2 : Int32}  {s0 : St} {z : Int32 × St} (h : M_row v1 v2 s0 = some z) : Cm l yX12_row (.code yX12_row cX12_row 4 (some .int)) 2 WM w [.ref (wa w 0 0), .int v1, .int v2] s0 (some (.int z.1)) z.2 := by
  refine Cm.of (own := RX12) (by decide +kernel) rfl (Nat.le_of_ble_eq_true rfl) (L := [(0, .ref (wa w 0 0)), (1, .int v1), (2, .int v2)]) rfl KoM (fun x hl C => ?_)
  subst hl
  unfold M_row at h
  refine r_iload_n C dX12_row_0 rfl 1 rfl ?_
  refine kX12_101 C (m_X12_isRow rfl) (by decide) (Nat.le_of_ble_eq_true rfl) dX12_row_1 ?_
  refine r_if_eq (tgt := 13) C dX12_row_4 (by decide) (fun c_1 => ?_) (fun c_1 => ?_)
  · have h := ip h c_1
    refine r_iconst (v := (-1)) C dX12_row_13 (by decide) ?_
    cases h
    exact r_iret C dX12_row_14
  · have h := iq h c_1
    refine r_iload_n C dX12_row_7 rfl 2 rfl ?_
    refine r_bipush (v := 40) C dX12_row_8 (by decide) ?_
    refine r_icmp_le (tgt := 15) C dX12_row_10 (by decide) (fun c_2 => ?_) (fun c_2 => ?_)
    · have h := ip h c_2
      refine r_iload_n C dX12_row_15 rfl 2 rfl ?_
      refine r_if_ge (tgt := 25) C dX12_row_16 (by decide) (fun c_3 => ?_) (fun c_3 => ?_)
      · have h := ip h c_3
        refine r_aload_n C dX12_row_25 rfl 0 rfl ?_
        refine gfX12_17 C dX12_row_26 ?_
        refine r_iload_n C dX12_row_29 rfl 1 rfl ?_
        refine r_iload_n C dX12_row_30 rfl 2 rfl ?_
        obtain ⟨g_4, h⟩ := gdE h
        refine stM_5 C g_4 dX12_row_31 ?_
        refine r_iconst (v := 0) C dX12_row_32 (by decide) ?_
        refine r_istore_n C dX12_row_33 rfl (Nat.le_of_ble_eq_true rfl) (L' := [(3, _), (0, _), (1, _), (2, _)]) rfl ?_
        refine r_sub [1, 2, 3, 0] rfl ?_
        exact t_X12_row_L34 C _ _ _ h
      · have h := iq h c_3
        refine r_aload_n C dX12_row_19 rfl 0 rfl ?_
        refine r_iconst (v := 5) C dX12_row_20 (by decide) ?_
        obtain ⟨r_11, er_11, h⟩ := bdE h
        refine kX12_105 C (m_X12_meets er_11) (by decide) (Nat.le_of_ble_eq_true rfl) dX12_row_21 ?_
        cases h
        exact r_iret C dX12_row_24
    · have h := iq h c_2
      refine r_iconst (v := (-1)) C dX12_row_13 (by decide) ?_
      cases h
      exact r_iret C dX12_row_14
def M_lay (v1 : Int32) (v2 : Int32) (v3 : Int32) (s0 : St) : Option (Int32 × St) :=
  Option.bind (M_askedRow v1 s0) (fun r_1 => if 0 ≤ r_1.1 then (if inb v1 6 = true then if (M_in v2 0 ((r_1.2.1 5 0 v1.toNatClampNeg) - 1)) = 0 then (Option.bind (M_meets 2 r_1.2) (fun r_7 => some (r_7.1, r_7.2))) else (Option.bind (M_rowAt v1 v2 r_1.2) (fun r_5 => if inb ((40 * v1) + v2) 240 = true then some (1, sX (sX r_1.2 0 0 2 r_5) 6 0 (((40 * v1) + v2).toNatClampNeg) v3) else none)) else none) else (some (r_1.1, r_1.2)))
set_option maxHeartbeats 4000000 in
set_option maxRecDepth 100000 in
theorem m_X12_lay {l : Launch} {w : Wp} {v1 : Int32} {v2 : Int32} {v3 : Int32}  {s0 : St} {z : Int32 × St} (h : M_lay v1 v2 v3 s0 = some z) : Cm l yX12_lay (.code yX12_lay cX12_lay 5 (some .int)) 3 WM w [.ref (wa w 0 0), .int v1, .int v2, .int v3] s0 (some (.int z.1)) z.2 := by
  refine Cm.of (own := RX12) (by decide +kernel) rfl (Nat.le_of_ble_eq_true rfl) (L := [(0, .ref (wa w 0 0)), (1, .int v1), (2, .int v2), (3, .int v3)]) rfl KoM (fun x hl C => ?_)
  subst hl
  unfold M_lay at h
  refine r_aload_n C dX12_lay_0 rfl 0 rfl ?_
  refine r_iload_n C dX12_lay_1 rfl 1 rfl ?_
  obtain ⟨r_1, er_1, h⟩ := bdE h
  refine kX12_112 C (m_X12_askedRow er_1) (by decide) (Nat.le_of_ble_eq_true rfl) dX12_lay_2 ?_
  refine r_istore C dX12_lay_5 (Nat.le_of_ble_eq_true rfl) (L' := [(4, _), (0, _), (1, _), (2, _), (3, _)]) rfl ?_
  refine r_iload C dX12_lay_7 0 rfl ?_
  refine r_if_ge (tgt := 15) C dX12_lay_9 (by decide) (fun c_2 => ?_) (fun c_2 => ?_)
  · have h := ip h c_2
    refine r_iload_n C dX12_lay_15 rfl 3 rfl ?_
    refine r_iconst (v := 0) C dX12_lay_16 (by decide) ?_
    refine r_aload_n C dX12_lay_17 rfl 1 rfl ?_
    refine gfX12_17 C dX12_lay_18 ?_
    refine r_iload_n C dX12_lay_21 rfl 2 rfl ?_
    obtain ⟨g_3, h⟩ := gdE h
    refine ldM_5 C g_3 dX12_lay_22 ?_
    refine r_iconst (v := 1) C dX12_lay_23 (by decide) ?_
    refine r_isub C dX12_lay_24 ?_
    refine kX12_97 C (m_X12_in rfl) (by decide) (Nat.le_of_ble_eq_true rfl) dX12_lay_25 ?_
    refine r_if_ne (tgt := 37) C dX12_lay_28 (by decide) (fun c_4 => ?_) (fun c_4 => ?_)
    · have h := iq h c_4
      refine r_aload_n C dX12_lay_37 rfl 1 rfl ?_
      refine r_aload_n C dX12_lay_38 rfl 1 rfl ?_
      refine r_iload_n C dX12_lay_39 rfl 2 rfl ?_
      refine r_iload_n C dX12_lay_40 rfl 3 rfl ?_
      obtain ⟨r_5, er_5, h⟩ := bdE h
      refine kX12_115 C (m_X12_rowAt er_5) (by decide) (Nat.le_of_ble_eq_true rfl) dX12_lay_41 ?_
      refine pfX12_94 C dX12_lay_44 ?_
      refine r_aload_n C dX12_lay_47 rfl 1 rfl ?_
      refine gfX12_20 C dX12_lay_48 ?_
      refine r_bipush (v := 40) C dX12_lay_51 (by decide) ?_
      refine r_iload_n C dX12_lay_53 rfl 2 rfl ?_
      refine r_imul C dX12_lay_54 ?_
      refine r_iload_n C dX12_lay_55 rfl 3 rfl ?_
      refine r_iadd C dX12_lay_56 ?_
      refine r_iload_n C dX12_lay_57 rfl 4 rfl ?_
      obtain ⟨g_6, h⟩ := gdE h
      refine stM_6 C g_6 dX12_lay_58 ?_
      refine r_iconst (v := 1) C dX12_lay_59 (by decide) ?_
      cases h
      exact r_iret C dX12_lay_60
    · have h := ip h c_4
      refine r_aload_n C dX12_lay_31 rfl 1 rfl ?_
      refine r_iconst (v := 2) C dX12_lay_32 (by decide) ?_
      obtain ⟨r_7, er_7, h⟩ := bdE h
      refine kX12_105 C (m_X12_meets er_7) (by decide) (Nat.le_of_ble_eq_true rfl) dX12_lay_33 ?_
      cases h
      exact r_iret C dX12_lay_36
  · have h := iq h c_2
    refine r_iload C dX12_lay_12 0 rfl ?_
    cases h
    exact r_iret C dX12_lay_14
def M_tear (v1 : Int32) (s0 : St) : Option (Int32 × St) :=
  Option.bind (M_askedRow v1 s0) (fun r_1 => if 0 ≤ r_1.1 then (if inb v1 6 = true then some (1, sX r_1.2 5 0 v1.toNatClampNeg (-9)) else none) else (some (r_1.1, r_1.2)))
set_option maxHeartbeats 4000000 in
set_option maxRecDepth 100000 in
theorem m_X12_tear {l : Launch} {w : Wp} {v1 : Int32}  {s0 : St} {z : Int32 × St} (h : M_tear v1 s0 = some z) : Cm l yX12_tear (.code yX12_tear cX12_tear 3 (some .int)) 3 WM w [.ref (wa w 0 0), .int v1] s0 (some (.int z.1)) z.2 := by
  refine Cm.of (own := RX12) (by decide +kernel) rfl (Nat.le_of_ble_eq_true rfl) (L := [(0, .ref (wa w 0 0)), (1, .int v1)]) rfl KoM (fun x hl C => ?_)
  subst hl
  unfold M_tear at h
  refine r_aload_n C dX12_tear_0 rfl 0 rfl ?_
  refine r_iload_n C dX12_tear_1 rfl 1 rfl ?_
  obtain ⟨r_1, er_1, h⟩ := bdE h
  refine kX12_112 C (m_X12_askedRow er_1) (by decide) (Nat.le_of_ble_eq_true rfl) dX12_tear_2 ?_
  refine r_istore_n C dX12_tear_5 rfl (Nat.le_of_ble_eq_true rfl) (L' := [(2, _), (0, _), (1, _)]) rfl ?_
  refine r_iload_n C dX12_tear_6 rfl 0 rfl ?_
  refine r_if_ge (tgt := 12) C dX12_tear_7 (by decide) (fun c_2 => ?_) (fun c_2 => ?_)
  · have h := ip h c_2
    refine r_aload_n C dX12_tear_12 rfl 1 rfl ?_
    refine gfX12_17 C dX12_tear_13 ?_
    refine r_iload_n C dX12_tear_16 rfl 2 rfl ?_
    refine r_bipush (v := (-9)) C dX12_tear_17 (by decide) ?_
    obtain ⟨g_3, h⟩ := gdE h
    refine stM_5 C g_3 dX12_tear_19 ?_
    refine r_iconst (v := 1) C dX12_tear_20 (by decide) ?_
    cases h
    exact r_iret C dX12_tear_21
  · have h := iq h c_2
    refine r_iload_n C dX12_tear_10 rfl 0 rfl ?_
    cases h
    exact r_iret C dX12_tear_11
def M_copy_J45    (s_6 : St) : Option (Int32 × St) :=
  Option.bind (M_meets 1 s_6) (fun r_7 => some (r_7.1, r_7.2))
def M_copy_J95    (s_11 : St) : Option (Int32 × St) :=
  Option.bind (M_meets 2 s_11) (fun r_12 => some (r_12.1, r_12.2))
def M_copy_L104 (K133 : St → Option (Int32 × St)) (v1_18 : Int32) (v2_19 : Int32) (v3_20 : Int32) (v4_21 : Int32) (v5_22 : Int32) : Nat → Int32 → St → Option (Int32 × St)
  | 0, _, _ => none
  | n + 1, v6_23, s_24 => if v5_22 ≤ v6_23 then (K133 s_24) else (Option.bind (M_rowAt v1_18 (v2_19 + v6_23) s_24) (fun r_26 => if inb v6_23 40 = true then (M_copy_L104 K133 v1_18 v2_19 v3_20 v4_21 v5_22 n) (v6_23 + 1) (sX s_24 7 0 v6_23.toNatClampNeg r_26) else none))
def M_copy_L136  (v3_30 : Int32) (v4_31 : Int32) (v5_32 : Int32) : Nat → Int32 → St → Option (Int32 × St)
  | 0, _, _ => none
  | n + 1, v6_33, s_34 => if v5_32 ≤ v6_33 then (some (1, s_34)) else (if inb v6_33 40 = true then if inb (((40 * v3_30) + v4_31) + v6_33) 240 = true then (M_copy_L136 v3_30 v4_31 v5_32 n) (v6_33 + 1) (sX s_34 6 0 ((((40 * v3_30) + v4_31) + v6_33).toNatClampNeg) (s_34.1 7 0 v6_33.toNatClampNeg)) else none else none)
def M_copy (v1 : Int32) (v2 : Int32) (v3 : Int32) (v4 : Int32) (v5 : Int32) (s0 : St) : Option (Int32 × St) :=
  if (M_isRow v1) = 0 then (some ((-1), s0)) else (if (M_isRow v3) = 0 then (some ((-1), s0)) else (if 0 ≤ v5 then (if inb v1 6 = true then if (s0.1 5 0 v1.toNatClampNeg) < 0 then (M_copy_J45 s0) else (if inb v3 6 = true then if 0 ≤ (s0.1 5 0 v3.toNatClampNeg) then (if v2 < 0 then (M_copy_J95 s0) else (if v4 < 0 then (M_copy_J95 s0) else (if inb v1 6 = true then if 0 < (lg_cmp (v2.toInt64 + v5.toInt64) ((s0.1 5 0 v1.toNatClampNeg).toInt64)) then (M_copy_J95 s0) else (if inb v3 6 = true then if (lg_cmp (v4.toInt64 + v5.toInt64) ((s0.1 5 0 v3.toNatClampNeg).toInt64)) ≤ 0 then (M_copy_L104 (fun (s_29 : St) => M_copy_L136 v3 v4 v5 1100 0 s_29) v1 v2 v3 v4 v5 1100 0 s0) else (M_copy_J95 s0) else none) else none))) else (M_copy_J45 s0) else none) else none) else (Option.bind (M_meets 5 s0) (fun r_38 => some (r_38.1, r_38.2)))))
set_option maxHeartbeats 4000000 in
set_option maxRecDepth 100000 in
theorem t_X12_copy_J45 {x : Ctx} {w : Wp}   {s_6 : St} {z : Int32 × St}    (C : Cx x WM w cX12_copy 7 RX12 2 (some .int)) (h : M_copy_J45 s_6 = some z) : V x WM w 7 (QM x WM w (some (.int z.1)) z.2) s_6 45 [(0, .ref (wa w 0 0))] [] := by
  unfold M_copy_J45 at h
  refine r_aload_n C dX12_copy_45 rfl 0 rfl ?_
  refine r_iconst (v := 1) C dX12_copy_46 (by decide) ?_
  obtain ⟨r_7, er_7, h⟩ := bdE h
  refine kX12_105 C (m_X12_meets er_7) (by decide) (Nat.le_of_ble_eq_true rfl) dX12_copy_47 ?_
  cases h
  exact r_iret C dX12_copy_50
set_option maxHeartbeats 4000000 in
set_option maxRecDepth 100000 in
theorem t_X12_copy_J95 {x : Ctx} {w : Wp}   {s_11 : St} {z : Int32 × St}    (C : Cx x WM w cX12_copy 7 RX12 2 (some .int)) (h : M_copy_J95 s_11 = some z) : V x WM w 7 (QM x WM w (some (.int z.1)) z.2) s_11 95 [(0, .ref (wa w 0 0))] [] := by
  unfold M_copy_J95 at h
  refine r_aload_n C dX12_copy_95 rfl 0 rfl ?_
  refine r_iconst (v := 2) C dX12_copy_96 (by decide) ?_
  obtain ⟨r_12, er_12, h⟩ := bdE h
  refine kX12_105 C (m_X12_meets er_12) (by decide) (Nat.le_of_ble_eq_true rfl) dX12_copy_97 ?_
  cases h
  exact r_iret C dX12_copy_100
set_option maxHeartbeats 4000000 in
set_option maxRecDepth 100000 in
theorem t_X12_copy_L104 {x : Ctx} {w : Wp} {v1_18 : Int32} {v2_19 : Int32} {v3_20 : Int32} {v4_21 : Int32} {v5_22 : Int32} {z : Int32 × St}  {K133 : St → Option (Int32 × St)} (hK133 : ∀ (s_28 : St), K133 s_28 = some z → V x WM w 7 (QM x WM w (some (.int z.1)) z.2) s_28 133 [(0, .ref (wa w 0 0)), (3, .int v3_20), (4, .int v4_21), (5, .int v5_22)] []) (C : Cx x WM w cX12_copy 7 RX12 2 (some .int)) : ∀ (n : Nat) (v6_23 : Int32) (s_24 : St), M_copy_L104 K133 v1_18 v2_19 v3_20 v4_21 v5_22 n v6_23 s_24 = some z → V x WM w 7 (QM x WM w (some (.int z.1)) z.2) s_24 104 [(0, .ref (wa w 0 0)), (1, .int v1_18), (2, .int v2_19), (3, .int v3_20), (4, .int v4_21), (5, .int v5_22), (6, .int v6_23)] [] := by
  intro n
  induction n with
  | zero => intro v6_23 s_24 h; cases h
  | succ n ih =>
    intro v6_23 s_24 h
    unfold M_copy_L104 at h
    refine r_iload C dX12_copy_104 6 rfl ?_
    refine r_iload C dX12_copy_106 5 rfl ?_
    refine r_icmp_ge (tgt := 133) C dX12_copy_108 (by decide) (fun c_25 => ?_) (fun c_25 => ?_)
    · have h := ip h c_25
      refine r_sub [0, 3, 4, 5] rfl ?_
      exact hK133 _ h
    · have h := iq h c_25
      refine r_aload_n C dX12_copy_111 rfl 0 rfl ?_
      refine gfX12_23 C dX12_copy_112 ?_
      refine r_iload C dX12_copy_115 6 rfl ?_
      refine r_aload_n C dX12_copy_117 rfl 0 rfl ?_
      refine r_iload_n C dX12_copy_118 rfl 1 rfl ?_
      refine r_iload_n C dX12_copy_119 rfl 2 rfl ?_
      refine r_iload C dX12_copy_120 6 rfl ?_
      refine r_iadd C dX12_copy_122 ?_
      obtain ⟨r_26, er_26, h⟩ := bdE h
      refine kX12_115 C (m_X12_rowAt er_26) (by decide) (Nat.le_of_ble_eq_true rfl) dX12_copy_123 ?_
      obtain ⟨g_27, h⟩ := gdE h
      refine stM_7 C g_27 dX12_copy_126 ?_
      refine r_iinc (v := v6_23 + 1) C dX12_copy_127 (j := 6) rfl rfl (Nat.le_of_ble_eq_true rfl) (L' := [(6, _), (0, _), (1, _), (2, _), (3, _), (4, _), (5, _)]) rfl ?_
      refine r_goto (tgt := 104) C dX12_copy_130 (by decide) ?_
      refine r_sub [1, 2, 3, 4, 5, 6, 0] rfl ?_
      exact ih _ _ h
set_option maxHeartbeats 4000000 in
set_option maxRecDepth 100000 in
theorem t_X12_copy_L136 {x : Ctx} {w : Wp} {v3_30 : Int32} {v4_31 : Int32} {v5_32 : Int32} {z : Int32 × St}    (C : Cx x WM w cX12_copy 7 RX12 2 (some .int)) : ∀ (n : Nat) (v6_33 : Int32) (s_34 : St), M_copy_L136 v3_30 v4_31 v5_32 n v6_33 s_34 = some z → V x WM w 7 (QM x WM w (some (.int z.1)) z.2) s_34 136 [(0, .ref (wa w 0 0)), (3, .int v3_30), (4, .int v4_31), (5, .int v5_32), (6, .int v6_33)] [] := by
  intro n
  induction n with
  | zero => intro v6_33 s_34 h; cases h
  | succ n ih =>
    intro v6_33 s_34 h
    unfold M_copy_L136 at h
    refine r_iload C dX12_copy_136 4 rfl ?_
    refine r_iload C dX12_copy_138 3 rfl ?_
    refine r_icmp_ge (tgt := 171) C dX12_copy_140 (by decide) (fun c_35 => ?_) (fun c_35 => ?_)
    · have h := ip h c_35
      refine r_iconst (v := 1) C dX12_copy_171 (by decide) ?_
      cases h
      exact r_iret C dX12_copy_172
    · have h := iq h c_35
      refine r_aload_n C dX12_copy_143 rfl 0 rfl ?_
      refine gfX12_20 C dX12_copy_144 ?_
      refine r_bipush (v := 40) C dX12_copy_147 (by decide) ?_
      refine r_iload_n C dX12_copy_149 rfl 1 rfl ?_
      refine r_imul C dX12_copy_150 ?_
      refine r_iload C dX12_copy_151 2 rfl ?_
      refine r_iadd C dX12_copy_153 ?_
      refine r_iload C dX12_copy_154 4 rfl ?_
      refine r_iadd C dX12_copy_156 ?_
      refine r_aload_n C dX12_copy_157 rfl 0 rfl ?_
      refine gfX12_23 C dX12_copy_158 ?_
      refine r_iload C dX12_copy_161 4 rfl ?_
      obtain ⟨g_36, h⟩ := gdE h
      refine ldM_7 C g_36 dX12_copy_163 ?_
      obtain ⟨g_37, h⟩ := gdE h
      refine stM_6 C g_37 dX12_copy_164 ?_
      refine r_iinc (v := v6_33 + 1) C dX12_copy_165 (j := 4) rfl rfl (Nat.le_of_ble_eq_true rfl) (L' := [(6, _), (0, _), (3, _), (4, _), (5, _)]) rfl ?_
      refine r_goto (tgt := 136) C dX12_copy_168 (by decide) ?_
      refine r_sub [1, 2, 3, 4, 0] rfl ?_
      exact ih _ _ h
set_option maxHeartbeats 4000000 in
set_option maxRecDepth 100000 in
theorem m_X12_copy {l : Launch} {w : Wp} {v1 : Int32} {v2 : Int32} {v3 : Int32} {v4 : Int32} {v5 : Int32}  {s0 : St} {z : Int32 × St} (h : M_copy v1 v2 v3 v4 v5 s0 = some z) : Cm l yX12_copy (.code yX12_copy cX12_copy 7 (some .int)) 2 WM w [.ref (wa w 0 0), .int v1, .int v2, .int v3, .int v4, .int v5] s0 (some (.int z.1)) z.2 := by
  refine Cm.of (own := RX12) (by decide +kernel) rfl (Nat.le_of_ble_eq_true rfl) (L := [(0, .ref (wa w 0 0)), (1, .int v1), (2, .int v2), (3, .int v3), (4, .int v4), (5, .int v5)]) rfl KoM (fun x hl C => ?_)
  subst hl
  unfold M_copy at h
  refine r_iload_n C dX12_copy_0 rfl 1 rfl ?_
  refine kX12_101 C (m_X12_isRow rfl) (by decide) (Nat.le_of_ble_eq_true rfl) dX12_copy_1 ?_
  refine r_if_eq (tgt := 14) C dX12_copy_4 (by decide) (fun c_1 => ?_) (fun c_1 => ?_)
  · have h := ip h c_1
    refine r_iconst (v := (-1)) C dX12_copy_14 (by decide) ?_
    cases h
    exact r_iret C dX12_copy_15
  · have h := iq h c_1
    refine r_iload_n C dX12_copy_7 rfl 3 rfl ?_
    refine kX12_101 C (m_X12_isRow rfl) (by decide) (Nat.le_of_ble_eq_true rfl) dX12_copy_8 ?_
    refine r_if_ne (tgt := 16) C dX12_copy_11 (by decide) (fun c_2 => ?_) (fun c_2 => ?_)
    · have h := iq h c_2
      refine r_iload C dX12_copy_16 5 rfl ?_
      refine r_if_ge (tgt := 27) C dX12_copy_18 (by decide) (fun c_3 => ?_) (fun c_3 => ?_)
      · have h := ip h c_3
        refine r_aload_n C dX12_copy_27 rfl 0 rfl ?_
        refine gfX12_17 C dX12_copy_28 ?_
        refine r_iload_n C dX12_copy_31 rfl 1 rfl ?_
        obtain ⟨g_4, h⟩ := gdE h
        refine ldM_5 C g_4 dX12_copy_32 ?_
        refine r_if_lt (tgt := 45) C dX12_copy_33 (by decide) (fun c_5 => ?_) (fun c_5 => ?_)
        · have h := ip h c_5
          refine r_sub [0] rfl ?_
          exact t_X12_copy_J45 C h
        · have h := iq h c_5
          refine r_aload_n C dX12_copy_36 rfl 0 rfl ?_
          refine gfX12_17 C dX12_copy_37 ?_
          refine r_iload_n C dX12_copy_40 rfl 3 rfl ?_
          obtain ⟨g_8, h⟩ := gdE h
          refine ldM_5 C g_8 dX12_copy_41 ?_
          refine r_if_ge (tgt := 51) C dX12_copy_42 (by decide) (fun c_9 => ?_) (fun c_9 => ?_)
          · have h := ip h c_9
            refine r_iload_n C dX12_copy_51 rfl 2 rfl ?_
            refine r_if_lt (tgt := 95) C dX12_copy_52 (by decide) (fun c_10 => ?_) (fun c_10 => ?_)
            · have h := ip h c_10
              refine r_sub [0] rfl ?_
              exact t_X12_copy_J95 C h
            · have h := iq h c_10
              refine r_iload C dX12_copy_55 4 rfl ?_
              refine r_if_lt (tgt := 95) C dX12_copy_57 (by decide) (fun c_13 => ?_) (fun c_13 => ?_)
              · have h := ip h c_13
                refine r_sub [0] rfl ?_
                exact t_X12_copy_J95 C h
              · have h := iq h c_13
                refine r_iload_n C dX12_copy_60 rfl 2 rfl ?_
                refine r_i2l C dX12_copy_61 ?_
                refine r_iload C dX12_copy_62 5 rfl ?_
                refine r_i2l C dX12_copy_64 ?_
                refine r_ladd C dX12_copy_65 ?_
                refine r_aload_n C dX12_copy_66 rfl 0 rfl ?_
                refine gfX12_17 C dX12_copy_67 ?_
                refine r_iload_n C dX12_copy_70 rfl 1 rfl ?_
                obtain ⟨g_14, h⟩ := gdE h
                refine ldM_5 C g_14 dX12_copy_71 ?_
                refine r_i2l C dX12_copy_72 ?_
                refine r_lcmp C dX12_copy_73 ?_
                refine r_if_gt (tgt := 95) C dX12_copy_74 (by decide) (fun c_15 => ?_) (fun c_15 => ?_)
                · have h := ip h c_15
                  refine r_sub [0] rfl ?_
                  exact t_X12_copy_J95 C h
                · have h := iq h c_15
                  refine r_iload C dX12_copy_77 4 rfl ?_
                  refine r_i2l C dX12_copy_79 ?_
                  refine r_iload C dX12_copy_80 5 rfl ?_
                  refine r_i2l C dX12_copy_82 ?_
                  refine r_ladd C dX12_copy_83 ?_
                  refine r_aload_n C dX12_copy_84 rfl 0 rfl ?_
                  refine gfX12_17 C dX12_copy_85 ?_
                  refine r_iload_n C dX12_copy_88 rfl 3 rfl ?_
                  obtain ⟨g_16, h⟩ := gdE h
                  refine ldM_5 C g_16 dX12_copy_89 ?_
                  refine r_i2l C dX12_copy_90 ?_
                  refine r_lcmp C dX12_copy_91 ?_
                  refine r_if_le (tgt := 101) C dX12_copy_92 (by decide) (fun c_17 => ?_) (fun c_17 => ?_)
                  · have h := ip h c_17
                    refine r_iconst (v := 0) C dX12_copy_101 (by decide) ?_
                    refine r_istore C dX12_copy_102 (Nat.le_of_ble_eq_true rfl) (L' := [(6, _), (0, _), (1, _), (2, _), (3, _), (4, _), (5, _)]) rfl ?_
                    refine r_sub [1, 2, 3, 4, 5, 6, 0] rfl ?_
                    refine t_X12_copy_L104 (fun s_29 h => ?_) C _ _ _ h
                    refine r_iconst (v := 0) C dX12_copy_133 (by decide) ?_
                    refine r_istore C dX12_copy_134 (Nat.le_of_ble_eq_true rfl) (L' := [(6, _), (0, _), (3, _), (4, _), (5, _)]) rfl ?_
                    refine r_sub [1, 2, 3, 4, 0] rfl ?_
                    exact t_X12_copy_L136 C _ _ _ h
                  · have h := iq h c_17
                    refine r_sub [0] rfl ?_
                    exact t_X12_copy_J95 C h
          · have h := iq h c_9
            refine r_sub [0] rfl ?_
            exact t_X12_copy_J45 C h
      · have h := iq h c_3
        refine r_aload_n C dX12_copy_21 rfl 0 rfl ?_
        refine r_iconst (v := 5) C dX12_copy_22 (by decide) ?_
        obtain ⟨r_38, er_38, h⟩ := bdE h
        refine kX12_105 C (m_X12_meets er_38) (by decide) (Nat.le_of_ble_eq_true rfl) dX12_copy_23 ?_
        cases h
        exact r_iret C dX12_copy_26
    · have h := ip h c_2
      refine r_iconst (v := (-1)) C dX12_copy_14 (by decide) ?_
      cases h
      exact r_iret C dX12_copy_15
def M_mean_L17 (K45 : Int64 → St → Option (Int32 × St)) (v1_3 : Int32) : Nat → Int64 → Int32 → St → Option (Int32 × St)
  | 0, _, _, _ => none
  | n + 1, v3_4, v5_5, s_6 => if inb v1_3 6 = true then if (s_6.1 5 0 v1_3.toNatClampNeg) ≤ v5_5 then (K45 v3_4 s_6) else (Option.bind (M_rowAt v1_3 v5_5 s_6) (fun r_9 => (M_mean_L17 K45 v1_3 n) (v3_4 + r_9.toInt64) (v5_5 + 1) s_6)) else none
def M_mean (v1 : Int32) (s0 : St) : Option (Int32 × St) :=
  Option.bind (M_askedRow v1 s0) (fun r_1 => if 0 ≤ r_1.1 then (M_mean_L17 (fun (v3_12 : Int64) (s_13 : St) => if inb v1 6 = true then if (s_13.1 5 0 v1.toNatClampNeg) = 0 then (Option.bind (M_meets 4 s_13) (fun r_19 => some (r_19.1, r_19.2))) else (if inb v1 6 = true then if ¬ ((s_13.1 5 0 v1.toNatClampNeg).toInt64) = 0 then Option.bind (M_ask ((v3_12 / ((s_13.1 5 0 v1.toNatClampNeg).toInt64)).toInt32) 1 s_13) (fun r_18 => some (r_18.1, r_18.2)) else none else none) else none) v1 1100 0 0 r_1.2) else (some (r_1.1, r_1.2)))
set_option maxHeartbeats 4000000 in
set_option maxRecDepth 100000 in
theorem t_X12_mean_L17 {x : Ctx} {w : Wp} {v1_3 : Int32} {z : Int32 × St}  {K45 : Int64 → St → Option (Int32 × St)} (hK45 : ∀ (u3_10 : Int64) (s_11 : St), K45 u3_10 s_11 = some z → V x WM w 6 (QM x WM w (some (.int z.1)) z.2) s_11 45 [(0, .ref (wa w 0 0)), (1, .int v1_3), (3, .long u3_10)] []) (C : Cx x WM w cX12_mean 6 RX12 3 (some .int)) : ∀ (n : Nat) (v3_4 : Int64) (v5_5 : Int32) (s_6 : St), M_mean_L17 K45 v1_3 n v3_4 v5_5 s_6 = some z → V x WM w 6 (QM x WM w (some (.int z.1)) z.2) s_6 17 [(0, .ref (wa w 0 0)), (1, .int v1_3), (3, .long v3_4), (5, .int v5_5)] [] := by
  intro n
  induction n with
  | zero => intro v3_4 v5_5 s_6 h; cases h
  | succ n ih =>
    intro v3_4 v5_5 s_6 h
    unfold M_mean_L17 at h
    refine r_iload C dX12_mean_17 3 rfl ?_
    refine r_aload_n C dX12_mean_19 rfl 0 rfl ?_
    refine gfX12_17 C dX12_mean_20 ?_
    refine r_iload_n C dX12_mean_23 rfl 1 rfl ?_
    obtain ⟨g_7, h⟩ := gdE h
    refine ldM_5 C g_7 dX12_mean_24 ?_
    refine r_icmp_ge (tgt := 45) C dX12_mean_25 (by decide) (fun c_8 => ?_) (fun c_8 => ?_)
    · have h := ip h c_8
      refine r_sub [0, 1, 2] rfl ?_
      exact hK45 _ _ h
    · have h := iq h c_8
      refine r_lload_n C dX12_mean_28 rfl 2 rfl ?_
      refine r_aload_n C dX12_mean_29 rfl 0 rfl ?_
      refine r_iload_n C dX12_mean_30 rfl 1 rfl ?_
      refine r_iload C dX12_mean_31 3 rfl ?_
      obtain ⟨r_9, er_9, h⟩ := bdE h
      refine kX12_115 C (m_X12_rowAt er_9) (by decide) (Nat.le_of_ble_eq_true rfl) dX12_mean_33 ?_
      refine r_i2l C dX12_mean_36 ?_
      refine r_ladd C dX12_mean_37 ?_
      refine r_lstore_n C dX12_mean_38 rfl (Nat.le_of_ble_eq_true rfl) (L' := [(3, _), (0, _), (1, _), (5, _)]) rfl ?_
      refine r_iinc (v := v5_5 + 1) C dX12_mean_39 (j := 3) rfl rfl (Nat.le_of_ble_eq_true rfl) (L' := [(5, _), (3, _), (0, _), (1, _)]) rfl ?_
      refine r_goto (tgt := 17) C dX12_mean_42 (by decide) ?_
      refine r_sub [2, 3, 1, 0] rfl ?_
      exact ih _ _ _ h
set_option maxHeartbeats 4000000 in
set_option maxRecDepth 100000 in
theorem m_X12_mean {l : Launch} {w : Wp} {v1 : Int32}  {s0 : St} {z : Int32 × St} (h : M_mean v1 s0 = some z) : Cm l yX12_mean (.code yX12_mean cX12_mean 6 (some .int)) 3 WM w [.ref (wa w 0 0), .int v1] s0 (some (.int z.1)) z.2 := by
  refine Cm.of (own := RX12) (by decide +kernel) rfl (Nat.le_of_ble_eq_true rfl) (L := [(0, .ref (wa w 0 0)), (1, .int v1)]) rfl KoM (fun x hl C => ?_)
  subst hl
  unfold M_mean at h
  refine r_aload_n C dX12_mean_0 rfl 0 rfl ?_
  refine r_iload_n C dX12_mean_1 rfl 1 rfl ?_
  obtain ⟨r_1, er_1, h⟩ := bdE h
  refine kX12_112 C (m_X12_askedRow er_1) (by decide) (Nat.le_of_ble_eq_true rfl) dX12_mean_2 ?_
  refine r_istore_n C dX12_mean_5 rfl (Nat.le_of_ble_eq_true rfl) (L' := [(2, _), (0, _), (1, _)]) rfl ?_
  refine r_iload_n C dX12_mean_6 rfl 0 rfl ?_
  refine r_if_ge (tgt := 12) C dX12_mean_7 (by decide) (fun c_2 => ?_) (fun c_2 => ?_)
  · have h := ip h c_2
    refine r_lconst (v := 0) C dX12_mean_12 (by decide) ?_
    refine r_lstore_n C dX12_mean_13 rfl (Nat.le_of_ble_eq_true rfl) (L' := [(3, _), (2, _), (0, _), (1, _)]) rfl ?_
    refine r_iconst (v := 0) C dX12_mean_14 (by decide) ?_
    refine r_istore C dX12_mean_15 (Nat.le_of_ble_eq_true rfl) (L' := [(5, _), (3, _), (2, _), (0, _), (1, _)]) rfl ?_
    refine r_sub [3, 4, 1, 0] rfl ?_
    refine t_X12_mean_L17 (fun v3_12 s_13 h => ?_) C _ _ _ _ h
    refine r_aload_n C dX12_mean_45 rfl 0 rfl ?_
    refine gfX12_17 C dX12_mean_46 ?_
    refine r_iload_n C dX12_mean_49 rfl 1 rfl ?_
    obtain ⟨g_14, h⟩ := gdE h
    refine ldM_5 C g_14 dX12_mean_50 ?_
    refine r_if_ne (tgt := 62) C dX12_mean_51 (by decide) (fun c_15 => ?_) (fun c_15 => ?_)
    · have h := iq h c_15
      refine r_aload_n C dX12_mean_62 rfl 0 rfl ?_
      refine r_lload_n C dX12_mean_63 rfl 2 rfl ?_
      refine r_aload_n C dX12_mean_64 rfl 0 rfl ?_
      refine gfX12_17 C dX12_mean_65 ?_
      refine r_iload_n C dX12_mean_68 rfl 1 rfl ?_
      obtain ⟨g_16, h⟩ := gdE h
      refine ldM_5 C g_16 dX12_mean_69 ?_
      refine r_i2l C dX12_mean_70 ?_
      obtain ⟨g_17, h⟩ := gdE h
      refine r_ldiv C dX12_mean_71 g_17 ?_
      refine r_l2i C dX12_mean_72 ?_
      refine r_iconst (v := 1) C dX12_mean_73 (by decide) ?_
      obtain ⟨r_18, er_18, h⟩ := bdE h
      refine kX12_119 C (m_X12_ask er_18) (by decide) (Nat.le_of_ble_eq_true rfl) dX12_mean_74 ?_
      cases h
      exact r_iret C dX12_mean_77
    · have h := ip h c_15
      refine r_aload_n C dX12_mean_54 rfl 0 rfl ?_
      refine r_iconst (v := 4) C dX12_mean_55 (by decide) ?_
      obtain ⟨r_19, er_19, h⟩ := bdE h
      refine kX12_105 C (m_X12_meets er_19) (by decide) (Nat.le_of_ble_eq_true rfl) dX12_mean_56 ?_
      refine r_goto (tgt := 77) C dX12_mean_59 (by decide) ?_
      cases h
      exact r_iret C dX12_mean_77
  · have h := iq h c_2
    refine r_iload_n C dX12_mean_10 rfl 0 rfl ?_
    cases h
    exact r_iret C dX12_mean_11
def M_text_L34  (v1_5 : Int32) (v2_6 : Int32) : Nat → Int32 → St → Option (Int32 × St)
  | 0, _, _ => none
  | n + 1, v3_7, s_8 => if 40 ≤ v3_7 then (some (v2_6, s_8)) else (if inb ((40 * v1_5) + v3_7) 160 = true then (M_text_L34 v1_5 v2_6 n) (v3_7 + 1) (sX s_8 9 0 (((40 * v1_5) + v3_7).toNatClampNeg) 32) else none)
def M_text (v1 : Int32) (v2 : Int32) (s0 : St) : Option (Int32 × St) :=
  if (M_isText v1) = 0 then (some ((-1), s0)) else (if v2 ≤ 40 then (if 0 ≤ v2 then (if inb v1 4 = true then M_text_L34 v1 v2 1100 0 (sX s0 8 0 v1.toNatClampNeg v2) else none) else (Option.bind (M_meets 5 s0) (fun r_11 => some (r_11.1, r_11.2)))) else (some ((-1), s0)))
set_option maxHeartbeats 4000000 in
set_option maxRecDepth 100000 in
theorem t_X12_text_L34 {x : Ctx} {w : Wp} {v1_5 : Int32} {v2_6 : Int32} {z : Int32 × St}    (C : Cx x WM w cX12_text 4 RX12 2 (some .int)) : ∀ (n : Nat) (v3_7 : Int32) (s_8 : St), M_text_L34 v1_5 v2_6 n v3_7 s_8 = some z → V x WM w 4 (QM x WM w (some (.int z.1)) z.2) s_8 34 [(0, .ref (wa w 0 0)), (1, .int v1_5), (2, .int v2_6), (3, .int v3_7)] [] := by
  intro n
  induction n with
  | zero => intro v3_7 s_8 h; cases h
  | succ n ih =>
    intro v3_7 s_8 h
    unfold M_text_L34 at h
    refine r_iload_n C dX12_text_34 rfl 3 rfl ?_
    refine r_bipush (v := 40) C dX12_text_35 (by decide) ?_
    refine r_icmp_ge (tgt := 59) C dX12_text_37 (by decide) (fun c_9 => ?_) (fun c_9 => ?_)
    · have h := ip h c_9
      refine r_iload_n C dX12_text_59 rfl 2 rfl ?_
      cases h
      exact r_iret C dX12_text_60
    · have h := iq h c_9
      refine r_aload_n C dX12_text_40 rfl 0 rfl ?_
      refine gfX12_29 C dX12_text_41 ?_
      refine r_bipush (v := 40) C dX12_text_44 (by decide) ?_
      refine r_iload_n C dX12_text_46 rfl 1 rfl ?_
      refine r_imul C dX12_text_47 ?_
      refine r_iload_n C dX12_text_48 rfl 3 rfl ?_
      refine r_iadd C dX12_text_49 ?_
      refine r_bipush (v := 32) C dX12_text_50 (by decide) ?_
      obtain ⟨g_10, h⟩ := gdE h
      refine stM_9 C g_10 dX12_text_52 ?_
      refine r_iinc (v := v3_7 + 1) C dX12_text_53 (j := 3) rfl rfl (Nat.le_of_ble_eq_true rfl) (L' := [(3, _), (0, _), (1, _), (2, _)]) rfl ?_
      refine r_goto (tgt := 34) C dX12_text_56 (by decide) ?_
      refine r_sub [1, 2, 3, 0] rfl ?_
      exact ih _ _ h
set_option maxHeartbeats 4000000 in
set_option maxRecDepth 100000 in
theorem m_X12_text {l : Launch} {w : Wp} {v1 : Int32} {v2 : Int32}  {s0 : St} {z : Int32 × St} (h : M_text v1 v2 s0 = some z) : Cm l yX12_text (.code yX12_text cX12_text 4 (some .int)) 2 WM w [.ref (wa w 0 0), .int v1, .int v2] s0 (some (.int z.1)) z.2 := by
  refine Cm.of (own := RX12) (by decide +kernel) rfl (Nat.le_of_ble_eq_true rfl) (L := [(0, .ref (wa w 0 0)), (1, .int v1), (2, .int v2)]) rfl KoM (fun x hl C => ?_)
  subst hl
  unfold M_text at h
  refine r_iload_n C dX12_text_0 rfl 1 rfl ?_
  refine kX12_109 C (m_X12_isText rfl) (by decide) (Nat.le_of_ble_eq_true rfl) dX12_text_1 ?_
  refine r_if_eq (tgt := 13) C dX12_text_4 (by decide) (fun c_1 => ?_) (fun c_1 => ?_)
  · have h := ip h c_1
    refine r_iconst (v := (-1)) C dX12_text_13 (by decide) ?_
    cases h
    exact r_iret C dX12_text_14
  · have h := iq h c_1
    refine r_iload_n C dX12_text_7 rfl 2 rfl ?_
    refine r_bipush (v := 40) C dX12_text_8 (by decide) ?_
    refine r_icmp_le (tgt := 15) C dX12_text_10 (by decide) (fun c_2 => ?_) (fun c_2 => ?_)
    · have h := ip h c_2
      refine r_iload_n C dX12_text_15 rfl 2 rfl ?_
      refine r_if_ge (tgt := 25) C dX12_text_16 (by decide) (fun c_3 => ?_) (fun c_3 => ?_)
      · have h := ip h c_3
        refine r_aload_n C dX12_text_25 rfl 0 rfl ?_
        refine gfX12_26 C dX12_text_26 ?_
        refine r_iload_n C dX12_text_29 rfl 1 rfl ?_
        refine r_iload_n C dX12_text_30 rfl 2 rfl ?_
        obtain ⟨g_4, h⟩ := gdE h
        refine stM_8 C g_4 dX12_text_31 ?_
        refine r_iconst (v := 0) C dX12_text_32 (by decide) ?_
        refine r_istore_n C dX12_text_33 rfl (Nat.le_of_ble_eq_true rfl) (L' := [(3, _), (0, _), (1, _), (2, _)]) rfl ?_
        refine r_sub [1, 2, 3, 0] rfl ?_
        exact t_X12_text_L34 C _ _ _ h
      · have h := iq h c_3
        refine r_aload_n C dX12_text_19 rfl 0 rfl ?_
        refine r_iconst (v := 5) C dX12_text_20 (by decide) ?_
        obtain ⟨r_11, er_11, h⟩ := bdE h
        refine kX12_105 C (m_X12_meets er_11) (by decide) (Nat.le_of_ble_eq_true rfl) dX12_text_21 ?_
        cases h
        exact r_iret C dX12_text_24
    · have h := iq h c_2
      refine r_iconst (v := (-1)) C dX12_text_13 (by decide) ?_
      cases h
      exact r_iret C dX12_text_14
def M_put (v1 : Int32) (v2 : Int32) (v3 : Int32) (s0 : St) : Option (Int32 × St) :=
  Option.bind (M_askedText v1 s0) (fun r_1 => if 0 ≤ r_1.1 then (if inb v1 4 = true then if (M_in v2 0 ((r_1.2.1 8 0 v1.toNatClampNeg) - 1)) = 0 then (Option.bind (M_meets 2 r_1.2) (fun r_7 => some (r_7.1, r_7.2))) else (if inb ((40 * v1) + v2) 160 = true then if inb ((40 * v1) + v2) 160 = true then some ((r_1.2.1 9 0 (((40 * v1) + v2).toNatClampNeg)) + 1000, sX r_1.2 9 0 (((40 * v1) + v2).toNatClampNeg) v3.toInt8.toInt32) else none else none) else none) else (some (r_1.1, r_1.2)))
set_option maxHeartbeats 4000000 in
set_option maxRecDepth 100000 in
theorem m_X12_put {l : Launch} {w : Wp} {v1 : Int32} {v2 : Int32} {v3 : Int32}  {s0 : St} {z : Int32 × St} (h : M_put v1 v2 v3 s0 = some z) : Cm l yX12_put (.code yX12_put cX12_put 6 (some .int)) 3 WM w [.ref (wa w 0 0), .int v1, .int v2, .int v3] s0 (some (.int z.1)) z.2 := by
  refine Cm.of (own := RX12) (by decide +kernel) rfl (Nat.le_of_ble_eq_true rfl) (L := [(0, .ref (wa w 0 0)), (1, .int v1), (2, .int v2), (3, .int v3)]) rfl KoM (fun x hl C => ?_)
  subst hl
  unfold M_put at h
  refine r_aload_n C dX12_put_0 rfl 0 rfl ?_
  refine r_iload_n C dX12_put_1 rfl 1 rfl ?_
  obtain ⟨r_1, er_1, h⟩ := bdE h
  refine kX12_122 C (m_X12_askedText er_1) (by decide) (Nat.le_of_ble_eq_true rfl) dX12_put_2 ?_
  refine r_istore C dX12_put_5 (Nat.le_of_ble_eq_true rfl) (L' := [(4, _), (0, _), (1, _), (2, _), (3, _)]) rfl ?_
  refine r_iload C dX12_put_7 0 rfl ?_
  refine r_if_ge (tgt := 15) C dX12_put_9 (by decide) (fun c_2 => ?_) (fun c_2 => ?_)
  · have h := ip h c_2
    refine r_iload_n C dX12_put_15 rfl 3 rfl ?_
    refine r_iconst (v := 0) C dX12_put_16 (by decide) ?_
    refine r_aload_n C dX12_put_17 rfl 1 rfl ?_
    refine gfX12_26 C dX12_put_18 ?_
    refine r_iload_n C dX12_put_21 rfl 2 rfl ?_
    obtain ⟨g_3, h⟩ := gdE h
    refine ldM_8 C g_3 dX12_put_22 ?_
    refine r_iconst (v := 1) C dX12_put_23 (by decide) ?_
    refine r_isub C dX12_put_24 ?_
    refine kX12_97 C (m_X12_in rfl) (by decide) (Nat.le_of_ble_eq_true rfl) dX12_put_25 ?_
    refine r_if_ne (tgt := 37) C dX12_put_28 (by decide) (fun c_4 => ?_) (fun c_4 => ?_)
    · have h := iq h c_4
      refine r_aload_n C dX12_put_37 rfl 1 rfl ?_
      refine gfX12_29 C dX12_put_38 ?_
      refine r_bipush (v := 40) C dX12_put_41 (by decide) ?_
      refine r_iload_n C dX12_put_43 rfl 2 rfl ?_
      refine r_imul C dX12_put_44 ?_
      refine r_iload_n C dX12_put_45 rfl 3 rfl ?_
      refine r_iadd C dX12_put_46 ?_
      obtain ⟨g_5, h⟩ := gdE h
      refine ldM_9 C g_5 dX12_put_47 ?_
      refine r_istore C dX12_put_48 (Nat.le_of_ble_eq_true rfl) (L' := [(5, _), (4, _), (0, _), (1, _), (2, _), (3, _)]) rfl ?_
      refine r_aload_n C dX12_put_50 rfl 2 rfl ?_
      refine gfX12_29 C dX12_put_51 ?_
      refine r_bipush (v := 40) C dX12_put_54 (by decide) ?_
      refine r_iload_n C dX12_put_56 rfl 3 rfl ?_
      refine r_imul C dX12_put_57 ?_
      refine r_iload_n C dX12_put_58 rfl 4 rfl ?_
      refine r_iadd C dX12_put_59 ?_
      refine r_iload_n C dX12_put_60 rfl 5 rfl ?_
      refine r_i2b C dX12_put_61 ?_
      obtain ⟨g_6, h⟩ := gdE h
      refine stM_9 C g_6 dX12_put_62 ?_
      refine r_iload C dX12_put_63 0 rfl ?_
      refine r_sipush (v := 1000) C dX12_put_65 (by decide) ?_
      refine r_iadd C dX12_put_68 ?_
      cases h
      exact r_iret C dX12_put_69
    · have h := ip h c_4
      refine r_aload_n C dX12_put_31 rfl 1 rfl ?_
      refine r_iconst (v := 2) C dX12_put_32 (by decide) ?_
      obtain ⟨r_7, er_7, h⟩ := bdE h
      refine kX12_105 C (m_X12_meets er_7) (by decide) (Nat.le_of_ble_eq_true rfl) dX12_put_33 ?_
      cases h
      exact r_iret C dX12_put_36
  · have h := iq h c_2
    refine r_iload C dX12_put_12 0 rfl ?_
    cases h
    exact r_iret C dX12_put_14
def M_isCase (v1 : Int32) (s0 : St) : Int32 :=
  M_in v1 0 ((s0.1 0 0 10) - 1)
set_option maxHeartbeats 4000000 in
set_option maxRecDepth 100000 in
theorem m_X12_isCase {l : Launch} {w : Wp} {v1 : Int32}  {s0 : St} {z : Int32} (h : M_isCase v1 s0 = z) : Cm l yX12_isCase (.code yX12_isCase cX12_isCase 2 (some .boolean)) 1 WM w [.ref (wa w 0 0), .int v1] s0 (some (.int z)) s0 := by
  refine Cm.of (own := RX12) (by decide +kernel) rfl (Nat.le_of_ble_eq_true rfl) (L := [(0, .ref (wa w 0 0)), (1, .int v1)]) rfl KoM (fun x hl C => ?_)
  subst hl
  unfold M_isCase at h
  refine r_iload_n C dX12_isCase_0 rfl 1 rfl ?_
  refine r_iconst (v := 0) C dX12_isCase_1 (by decide) ?_
  refine r_aload_n C dX12_isCase_2 rfl 0 rfl ?_
  refine gfX12_125 C dX12_isCase_3 ?_
  refine r_iconst (v := 1) C dX12_isCase_6 (by decide) ?_
  refine r_isub C dX12_isCase_7 ?_
  refine kX12_97 C (m_X12_in rfl) (by decide) (Nat.le_of_ble_eq_true rfl) dX12_isCase_8 ?_
  subst h
  exact r_zret C nb_X12_in dX12_isCase_11
theorem nb_X12_isCase {v1 : Int32} {s0 : St} : narrow .boolean (.int (M_isCase v1 s0)) = .int (M_isCase v1 s0) := by
  unfold M_isCase
  exact nb_X12_in
def M_isMaster (v1 : Int32) (s0 : St) : Int32 :=
  M_in v1 0 ((s0.1 0 0 12) - 1)
set_option maxHeartbeats 4000000 in
set_option maxRecDepth 100000 in
theorem m_X12_isMaster {l : Launch} {w : Wp} {v1 : Int32}  {s0 : St} {z : Int32} (h : M_isMaster v1 s0 = z) : Cm l yX12_isMaster (.code yX12_isMaster cX12_isMaster 2 (some .boolean)) 1 WM w [.ref (wa w 0 0), .int v1] s0 (some (.int z)) s0 := by
  refine Cm.of (own := RX12) (by decide +kernel) rfl (Nat.le_of_ble_eq_true rfl) (L := [(0, .ref (wa w 0 0)), (1, .int v1)]) rfl KoM (fun x hl C => ?_)
  subst hl
  unfold M_isMaster at h
  refine r_iload_n C dX12_isMaster_0 rfl 1 rfl ?_
  refine r_iconst (v := 0) C dX12_isMaster_1 (by decide) ?_
  refine r_aload_n C dX12_isMaster_2 rfl 0 rfl ?_
  refine gfX12_128 C dX12_isMaster_3 ?_
  refine r_iconst (v := 1) C dX12_isMaster_6 (by decide) ?_
  refine r_isub C dX12_isMaster_7 ?_
  refine kX12_97 C (m_X12_in rfl) (by decide) (Nat.le_of_ble_eq_true rfl) dX12_isMaster_8 ?_
  subst h
  exact r_zret C nb_X12_in dX12_isMaster_11
theorem nb_X12_isMaster {v1 : Int32} {s0 : St} : narrow .boolean (.int (M_isMaster v1 s0)) = .int (M_isMaster v1 s0) := by
  unfold M_isMaster
  exact nb_X12_in
def M_isSaying (v1 : Int32) (s0 : St) : Int32 :=
  M_in v1 0 ((s0.1 0 0 16) - 1)
set_option maxHeartbeats 4000000 in
set_option maxRecDepth 100000 in
theorem m_X12_isSaying {l : Launch} {w : Wp} {v1 : Int32}  {s0 : St} {z : Int32} (h : M_isSaying v1 s0 = z) : Cm l yX12_isSaying (.code yX12_isSaying cX12_isSaying 2 (some .boolean)) 1 WM w [.ref (wa w 0 0), .int v1] s0 (some (.int z)) s0 := by
  refine Cm.of (own := RX12) (by decide +kernel) rfl (Nat.le_of_ble_eq_true rfl) (L := [(0, .ref (wa w 0 0)), (1, .int v1)]) rfl KoM (fun x hl C => ?_)
  subst hl
  unfold M_isSaying at h
  refine r_iload_n C dX12_isSaying_0 rfl 1 rfl ?_
  refine r_iconst (v := 0) C dX12_isSaying_1 (by decide) ?_
  refine r_aload_n C dX12_isSaying_2 rfl 0 rfl ?_
  refine gfX12_131 C dX12_isSaying_3 ?_
  refine r_iconst (v := 1) C dX12_isSaying_6 (by decide) ?_
  refine r_isub C dX12_isSaying_7 ?_
  refine kX12_97 C (m_X12_in rfl) (by decide) (Nat.le_of_ble_eq_true rfl) dX12_isSaying_8 ?_
  subst h
  exact r_zret C nb_X12_in dX12_isSaying_11
theorem nb_X12_isSaying {v1 : Int32} {s0 : St} : narrow .boolean (.int (M_isSaying v1 s0)) = .int (M_isSaying v1 s0) := by
  unfold M_isSaying
  exact nb_X12_in
def M_isTrait (v0 : Int32) : Int32 :=
  M_in v0 0 4
set_option maxHeartbeats 4000000 in
set_option maxRecDepth 100000 in
theorem m_X12_isTrait {l : Launch} {w : Wp} {v0 : Int32}  {s0 : St} {z : Int32} (h : M_isTrait v0 = z) : Cm l yX12_isTrait (.code yX12_isTrait cX12_isTrait 1 (some .boolean)) 1 WM w [.int v0] s0 (some (.int z)) s0 := by
  refine Cm.of (own := RX12) (by decide +kernel) rfl (Nat.le_of_ble_eq_true rfl) (L := [(0, .int v0)]) rfl KoM (fun x hl C => ?_)
  subst hl
  unfold M_isTrait at h
  refine r_iload_n C dX12_isTrait_0 rfl 0 rfl ?_
  refine r_iconst (v := 0) C dX12_isTrait_1 (by decide) ?_
  refine r_iconst (v := 4) C dX12_isTrait_2 (by decide) ?_
  refine kX12_97 C (m_X12_in rfl) (by decide) (Nat.le_of_ble_eq_true rfl) dX12_isTrait_3 ?_
  subst h
  exact r_zret C nb_X12_in dX12_isTrait_6
theorem nb_X12_isTrait {v0 : Int32} : narrow .boolean (.int (M_isTrait v0)) = .int (M_isTrait v0) := by
  unfold M_isTrait
  exact nb_X12_in
def M_isSet (v0 : Int32) : Int32 :=
  M_in v0 0 31
set_option maxHeartbeats 4000000 in
set_option maxRecDepth 100000 in
theorem m_X12_isSet {l : Launch} {w : Wp} {v0 : Int32}  {s0 : St} {z : Int32} (h : M_isSet v0 = z) : Cm l yX12_isSet (.code yX12_isSet cX12_isSet 1 (some .boolean)) 1 WM w [.int v0] s0 (some (.int z)) s0 := by
  refine Cm.of (own := RX12) (by decide +kernel) rfl (Nat.le_of_ble_eq_true rfl) (L := [(0, .int v0)]) rfl KoM (fun x hl C => ?_)
  subst hl
  unfold M_isSet at h
  refine r_iload_n C dX12_isSet_0 rfl 0 rfl ?_
  refine r_iconst (v := 0) C dX12_isSet_1 (by decide) ?_
  refine r_bipush (v := 31) C dX12_isSet_2 (by decide) ?_
  refine kX12_97 C (m_X12_in rfl) (by decide) (Nat.le_of_ble_eq_true rfl) dX12_isSet_4 ?_
  subst h
  exact r_zret C nb_X12_in dX12_isSet_7
theorem nb_X12_isSet {v0 : Int32} : narrow .boolean (.int (M_isSet v0)) = .int (M_isSet v0) := by
  unfold M_isSet
  exact nb_X12_in
