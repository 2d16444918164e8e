def Q_plain (v1 : Int32) (s0 : St) : Option (Int32 × St) :=
  if (Bk_hasSaying v1 s0) = 0 then (some ((-1), s0)) else (Option.bind (Bk_caseTraits v1 s0) (fun r_2 => Option.bind (Bk_settled s0) (fun r_3 => Option.bind (Bk_knownToAll r_2 r_3) (fun r_4 => some ((if r_4 = 0 then 0 else 1 : Int32), r_3)))))
set_option maxHeartbeats 4000000 in
set_option maxRecDepth 100000 in
theorem m_X11_plain {l : Launch} {w : Wp} {v1 : Int32}  {s0 : St} {z : Int32 × St} (h : Q_plain v1 s0 = some z) : Cm l yX11_plain (.code yX11_plain cX11_plain 2 (some .int)) 4 WC w [.ref (wa w 0 0), .int v1] s0 (some (.int z.1)) z.2 := by
  refine Cm.of (own := RX11) (by decide +kernel) rfl (Nat.le_of_ble_eq_true rfl) (L := [(0, .ref (wa w 0 0)), (1, .int v1)]) rfl KoC (fun x hl C => ?_)
  subst hl
  unfold Q_plain at h
  refine r_aload_n C dX11_plain_0 rfl 0 rfl ?_
  refine gfX11_24 C dX11_plain_1 ?_
  refine r_iload_n C dX11_plain_4 rfl 1 rfl ?_
  refine kX11_135 C (m_X1_hasSaying rfl) (by decide) (Nat.le_of_ble_eq_true rfl) dX11_plain_5 ?_
  refine r_if_ne (tgt := 13) C dX11_plain_8 (by decide) (fun c_1 => ?_) (fun c_1 => ?_)
  · have h := iq h c_1
    refine r_aload_n C dX11_plain_13 rfl 0 rfl ?_
    refine gfX11_24 C dX11_plain_14 ?_
    refine r_aload_n C dX11_plain_17 rfl 0 rfl ?_
    refine gfX11_24 C dX11_plain_18 ?_
    refine r_iload_n C dX11_plain_21 rfl 1 rfl ?_
    obtain ⟨r_2, er_2, h⟩ := bdE h
    refine kX11_224 C (m_X1_caseTraits er_2) (by decide) (Nat.le_of_ble_eq_true rfl) dX11_plain_22 ?_
    refine r_aload_n C dX11_plain_25 rfl 0 rfl ?_
    refine gfX11_24 C dX11_plain_26 ?_
    obtain ⟨r_3, er_3, h⟩ := bdE h
    refine kX11_188 C (m_X1_settled er_3) (by decide) (Nat.le_of_ble_eq_true rfl) dX11_plain_29 ?_
    obtain ⟨r_4, er_4, h⟩ := bdE h
    refine kX11_227 C (m_X1_knownToAll er_4) (by decide) (Nat.le_of_ble_eq_true rfl) dX11_plain_32 ?_
    refine r_em (st := []) 43 ((if r_4 = 0 then 0 else 1 : Int32)) (fun hM_6 => ?_) ?_
    · refine r_if_eq (tgt := 42) C dX11_plain_35 (by decide) (fun c_5 => ?_) (fun c_5 => ?_)
      · refine r_iconst (v := 0) C dX11_plain_42 (by decide) ?_
        exact (em_pos c_5 hM_6)
      · refine r_iconst (v := 1) C dX11_plain_38 (by decide) ?_
        refine r_goto (tgt := 43) C dX11_plain_39 (by decide) ?_
        exact (em_neg c_5 hM_6)
    cases h
    exact r_iret C dX11_plain_43
  · have h := ip h c_1
    refine r_iconst (v := (-1)) C dX11_plain_11 (by decide) ?_
    cases h
    exact r_iret C dX11_plain_12
def Q_changed (v1 : Int32) (s0 : St) : Option (Int32 × St) :=
  if (Bk_hasMaster v1 s0) = 0 then (some ((-1), s0)) else (Option.bind (Bk_changeYear v1 s0) (fun r_2 => Option.bind (Q_tell (r_2.2.1 10 0 8) r_2.1 r_2.2) (fun r_3 => some (r_3.1, r_3.2))))
set_option maxHeartbeats 4000000 in
set_option maxRecDepth 100000 in
theorem m_X11_changed {l : Launch} {w : Wp} {v1 : Int32}  {s0 : St} {z : Int32 × St} (h : Q_changed v1 s0 = some z) : Cm l yX11_changed (.code yX11_changed cX11_changed 3 (some .int)) 5 WC w [.ref (wa w 0 0), .int v1] s0 (some (.int z.1)) z.2 := by
  refine Cm.of (own := RX11) (by decide +kernel) rfl (Nat.le_of_ble_eq_true rfl) (L := [(0, .ref (wa w 0 0)), (1, .int v1)]) rfl KoC (fun x hl C => ?_)
  subst hl
  unfold Q_changed at h
  refine r_aload_n C dX11_changed_0 rfl 0 rfl ?_
  refine gfX11_24 C dX11_changed_1 ?_
  refine r_iload_n C dX11_changed_4 rfl 1 rfl ?_
  refine kX11_111 C (m_X1_hasMaster rfl) (by decide) (Nat.le_of_ble_eq_true rfl) dX11_changed_5 ?_
  refine r_if_ne (tgt := 13) C dX11_changed_8 (by decide) (fun c_1 => ?_) (fun c_1 => ?_)
  · have h := iq h c_1
    refine r_aload_n C dX11_changed_13 rfl 0 rfl ?_
    refine gfX11_24 C dX11_changed_14 ?_
    refine r_iload_n C dX11_changed_17 rfl 1 rfl ?_
    obtain ⟨r_2, er_2, h⟩ := bdE h
    refine kX11_231 C (m_X1_changeYear er_2) (by decide) (Nat.le_of_ble_eq_true rfl) dX11_changed_18 ?_
    refine r_istore_n C dX11_changed_21 rfl (Nat.le_of_ble_eq_true rfl) (L' := [(2, _), (0, _), (1, _)]) rfl ?_
    refine r_aload_n C dX11_changed_22 rfl 1 rfl ?_
    refine r_aload_n C dX11_changed_23 rfl 1 rfl ?_
    refine gfX11_24 C dX11_changed_24 ?_
    refine gfX11_179 C dX11_changed_27 ?_
    refine gfX11_234 C dX11_changed_30 ?_
    refine r_iload_n C dX11_changed_33 rfl 0 rfl ?_
    obtain ⟨r_3, er_3, h⟩ := bdE h
    refine kX11_82 C (m_X11_tell er_3) (by decide) (Nat.le_of_ble_eq_true rfl) dX11_changed_34 ?_
    cases h
    exact r_iret C dX11_changed_37
  · have h := ip h c_1
    refine r_iconst (v := (-1)) C dX11_changed_11 (by decide) ?_
    cases h
    exact r_iret C dX11_changed_12
def Q_firstTrait_L2  (v0_1 : Int32) : Nat → Int32 → Option (Int32)
  | 0, _ => none
  | n + 1, v1_2 => if 5 ≤ v1_2 then (some (-9)) else (if ((ush v0_1 v1_2) &&& 1) = 1 then (some v1_2) else ((Q_firstTrait_L2 v0_1 n) (v1_2 + 1)))
def Q_firstTrait (v0 : Int32) : Option (Int32) :=
  Q_firstTrait_L2 v0 1100 0
set_option maxHeartbeats 4000000 in
set_option maxRecDepth 100000 in
theorem t_X11_firstTrait_L2 {x : Ctx} {w : Wp} {v0_1 : Int32} {s0 : St} {z : Int32}    (C : Cx x WC w cX11_firstTrait 2 RX11 0 (some .int)) : ∀ (n : Nat) (v1_2 : Int32), Q_firstTrait_L2 v0_1 n v1_2 = some z → V x WC w 2 (QM x WC w (some (.int z)) s0) s0 2 [(0, .int v0_1), (1, .int v1_2)] [] := by
  intro n
  induction n with
  | zero => intro v1_2 h; cases h
  | succ n ih =>
    intro v1_2 h
    unfold Q_firstTrait_L2 at h
    refine r_iload_n C dX11_firstTrait_2 rfl 1 rfl ?_
    refine r_iconst (v := 5) C dX11_firstTrait_3 (by decide) ?_
    refine r_icmp_ge (tgt := 24) C dX11_firstTrait_4 (by decide) (fun c_3 => ?_) (fun c_3 => ?_)
    · have h := ip h c_3
      refine r_bipush (v := (-9)) C dX11_firstTrait_24 (by decide) ?_
      cases h
      exact r_iret C dX11_firstTrait_26
    · have h := iq h c_3
      refine r_iload_n C dX11_firstTrait_7 rfl 0 rfl ?_
      refine r_iload_n C dX11_firstTrait_8 rfl 1 rfl ?_
      refine r_iushr (v := ush v0_1 v1_2) C dX11_firstTrait_9 rfl ?_
      refine r_iconst (v := 1) C dX11_firstTrait_10 (by decide) ?_
      refine r_iand C dX11_firstTrait_11 ?_
      refine r_iconst (v := 1) C dX11_firstTrait_12 (by decide) ?_
      refine r_icmp_ne (tgt := 18) C dX11_firstTrait_13 (by decide) (fun c_4 => ?_) (fun c_4 => ?_)
      · have h := iq h c_4
        refine r_iinc (v := v1_2 + 1) C dX11_firstTrait_18 (j := 1) rfl rfl (Nat.le_of_ble_eq_true rfl) (L' := [(1, _), (0, _)]) rfl ?_
        refine r_goto (tgt := 2) C dX11_firstTrait_21 (by decide) ?_
        refine r_sub [1, 0] rfl ?_
        exact ih _ h
      · have h := ip h c_4
        refine r_iload_n C dX11_firstTrait_16 rfl 1 rfl ?_
        cases h
        exact r_iret C dX11_firstTrait_17
set_option maxHeartbeats 4000000 in
set_option maxRecDepth 100000 in
theorem m_X11_firstTrait {l : Launch} {w : Wp} {v0 : Int32}  {s0 : St} {z : Int32} (h : Q_firstTrait v0 = some z) : Cm l yX11_firstTrait (.code yX11_firstTrait cX11_firstTrait 2 (some .int)) 0 WC w [.int v0] s0 (some (.int z)) s0 := by
  refine Cm.of (own := RX11) (by decide +kernel) rfl (Nat.le_of_ble_eq_true rfl) (L := [(0, .int v0)]) rfl KoC (fun x hl C => ?_)
  subst hl
  unfold Q_firstTrait at h
  refine r_iconst (v := 0) C dX11_firstTrait_0 (by decide) ?_
  refine r_istore_n C dX11_firstTrait_1 rfl (Nat.le_of_ble_eq_true rfl) (L' := [(1, _), (0, _)]) rfl ?_
  refine r_sub [1, 0] rfl ?_
  exact t_X11_firstTrait_L2 C _ _ h
def Q_parts (v1 : Int32) (v2 : Int32) (s0 : St) : Option (Int32 × St) :=
  if (Bk_hasCase v1 s0) = 0 then (some ((-1), s0)) else (if (Bk_hasCase v2 s0) = 0 then (some ((-1), s0)) else (if inb v1 12 = true then if inb v2 12 = true then Option.bind (Q_firstTrait ((s0.1 14 0 v1.toNatClampNeg) ^^^ (s0.1 14 0 v2.toNatClampNeg))) (fun r_5 => Option.bind (Q_tell r_5 (Int_bitCount ((s0.1 14 0 v1.toNatClampNeg) ^^^ (s0.1 14 0 v2.toNatClampNeg))) s0) (fun r_6 => some (r_6.1, r_6.2))) else none else none))
set_option maxHeartbeats 4000000 in
set_option maxRecDepth 100000 in
theorem m_X11_parts {l : Launch} {w : Wp} {v1 : Int32} {v2 : Int32}  {s0 : St} {z : Int32 × St} (h : Q_parts v1 v2 s0 = some z) : Cm l yX11_parts (.code yX11_parts cX11_parts 4 (some .int)) 2 WC w [.ref (wa w 0 0), .int v1, .int v2] s0 (some (.int z.1)) z.2 := by
  refine Cm.of (own := RX11) (by decide +kernel) rfl (Nat.le_of_ble_eq_true rfl) (L := [(0, .ref (wa w 0 0)), (1, .int v1), (2, .int v2)]) rfl KoC (fun x hl C => ?_)
  subst hl
  unfold Q_parts at h
  refine r_aload_n C dX11_parts_0 rfl 0 rfl ?_
  refine gfX11_24 C dX11_parts_1 ?_
  refine r_iload_n C dX11_parts_4 rfl 1 rfl ?_
  refine kX11_125 C (m_X1_hasCase rfl) (by decide) (Nat.le_of_ble_eq_true rfl) dX11_parts_5 ?_
  refine r_if_eq (tgt := 22) C dX11_parts_8 (by decide) (fun c_1 => ?_) (fun c_1 => ?_)
  · have h := ip h c_1
    refine r_iconst (v := (-1)) C dX11_parts_22 (by decide) ?_
    cases h
    exact r_iret C dX11_parts_23
  · have h := iq h c_1
    refine r_aload_n C dX11_parts_11 rfl 0 rfl ?_
    refine gfX11_24 C dX11_parts_12 ?_
    refine r_iload_n C dX11_parts_15 rfl 2 rfl ?_
    refine kX11_125 C (m_X1_hasCase rfl) (by decide) (Nat.le_of_ble_eq_true rfl) dX11_parts_16 ?_
    refine r_if_ne (tgt := 24) C dX11_parts_19 (by decide) (fun c_2 => ?_) (fun c_2 => ?_)
    · have h := iq h c_2
      refine r_aload_n C dX11_parts_24 rfl 0 rfl ?_
      refine gfX11_24 C dX11_parts_25 ?_
      refine gfX11_147 C dX11_parts_28 ?_
      refine r_iload_n C dX11_parts_31 rfl 1 rfl ?_
      obtain ⟨g_3, h⟩ := gdE h
      refine ldC_14 C g_3 dX11_parts_32 ?_
      refine r_aload_n C dX11_parts_33 rfl 0 rfl ?_
      refine gfX11_24 C dX11_parts_34 ?_
      refine gfX11_147 C dX11_parts_37 ?_
      refine r_iload_n C dX11_parts_40 rfl 2 rfl ?_
      obtain ⟨g_4, h⟩ := gdE h
      refine ldC_14 C g_4 dX11_parts_41 ?_
      refine r_ixor C dX11_parts_42 ?_
      refine r_istore_n C dX11_parts_43 rfl (Nat.le_of_ble_eq_true rfl) (L' := [(3, _), (0, _), (1, _), (2, _)]) rfl ?_
      refine r_aload_n C dX11_parts_44 rfl 1 rfl ?_
      refine r_iload_n C dX11_parts_45 rfl 0 rfl ?_
      obtain ⟨r_5, er_5, h⟩ := bdE h
      refine kX11_237 C (m_X11_firstTrait er_5) (by decide) (Nat.le_of_ble_eq_true rfl) dX11_parts_46 ?_
      refine r_iload_n C dX11_parts_49 rfl 0 rfl ?_
      refine kX11_240 C (m_J6_bitCount_0f7a4 rfl) (by decide) (Nat.le_of_ble_eq_true rfl) dX11_parts_50 ?_
      obtain ⟨r_6, er_6, h⟩ := bdE h
      refine kX11_82 C (m_X11_tell er_6) (by decide) (Nat.le_of_ble_eq_true rfl) dX11_parts_53 ?_
      cases h
      exact r_iret C dX11_parts_56
    · have h := ip h c_2
      refine r_iconst (v := (-1)) C dX11_parts_22 (by decide) ?_
      cases h
      exact r_iret C dX11_parts_23
def Q_met (v1 : Int32) (v2 : Int32) (s0 : St) : Option (Int32) :=
  if (Bk_hasMaster v1 s0) = 0 then (some (-1)) else (if (Bk_hasMaster v2 s0) = 0 then (some (-1)) else (if inb v1 8 = true then if inb v2 8 = true then some (imax 0 (((imin (s0.1 22 v1.toNatClampNeg 1) (s0.1 22 v2.toNatClampNeg 1)) - ((imax (s0.1 22 v1.toNatClampNeg 0) (s0.1 22 v2.toNatClampNeg 0)) + 15)) + 1)) else none else none))
set_option maxHeartbeats 4000000 in
set_option maxRecDepth 100000 in
theorem m_X11_met {l : Launch} {w : Wp} {v1 : Int32} {v2 : Int32}  {s0 : St} {z : Int32} (h : Q_met v1 v2 s0 = some z) : Cm l yX11_met (.code yX11_met cX11_met 7 (some .int)) 2 WC w [.ref (wa w 0 0), .int v1, .int v2] s0 (some (.int z)) s0 := by
  refine Cm.of (own := RX11) (by decide +kernel) rfl (Nat.le_of_ble_eq_true rfl) (L := [(0, .ref (wa w 0 0)), (1, .int v1), (2, .int v2)]) rfl KoC (fun x hl C => ?_)
  subst hl
  unfold Q_met at h
  refine r_aload_n C dX11_met_0 rfl 0 rfl ?_
  refine gfX11_24 C dX11_met_1 ?_
  refine r_iload_n C dX11_met_4 rfl 1 rfl ?_
  refine kX11_111 C (m_X1_hasMaster rfl) (by decide) (Nat.le_of_ble_eq_true rfl) dX11_met_5 ?_
  refine r_if_eq (tgt := 22) C dX11_met_8 (by decide) (fun c_1 => ?_) (fun c_1 => ?_)
  · have h := ip h c_1
    refine r_iconst (v := (-1)) C dX11_met_22 (by decide) ?_
    cases h
    exact r_iret C dX11_met_23
  · have h := iq h c_1
    refine r_aload_n C dX11_met_11 rfl 0 rfl ?_
    refine gfX11_24 C dX11_met_12 ?_
    refine r_iload_n C dX11_met_15 rfl 2 rfl ?_
    refine kX11_111 C (m_X1_hasMaster rfl) (by decide) (Nat.le_of_ble_eq_true rfl) dX11_met_16 ?_
    refine r_if_ne (tgt := 24) C dX11_met_19 (by decide) (fun c_2 => ?_) (fun c_2 => ?_)
    · have h := iq h c_2
      refine r_aload_n C dX11_met_24 rfl 0 rfl ?_
      refine gfX11_24 C dX11_met_25 ?_
      refine gfX11_245 C dX11_met_28 ?_
      refine r_iload_n C dX11_met_31 rfl 1 rfl ?_
      obtain ⟨g_3, h⟩ := gdE h
      refine la_15 C g_3 dX11_met_32 ?_
      refine r_astore_n C dX11_met_33 rfl (Nat.le_of_ble_eq_true rfl) (L' := [(3, _), (0, _), (1, _), (2, _)]) rfl ?_
      refine r_aload_n C dX11_met_34 rfl 1 rfl ?_
      refine gfX11_24 C dX11_met_35 ?_
      refine gfX11_245 C dX11_met_38 ?_
      refine r_iload_n C dX11_met_41 rfl 3 rfl ?_
      obtain ⟨g_4, h⟩ := gdE h
      refine la_15 C g_4 dX11_met_42 ?_
      refine r_astore C dX11_met_43 (Nat.le_of_ble_eq_true rfl) (L' := [(4, _), (3, _), (0, _), (1, _), (2, _)]) rfl ?_
      refine r_aload_n C dX11_met_45 rfl 1 rfl ?_
      refine gfX11_249 C (inb_lt g_3) dX11_met_46 ?_
      refine r_aload C dX11_met_49 0 rfl ?_
      refine gfX11_249 C (inb_lt g_4) dX11_met_51 ?_
      refine r_mmax C q_744 q_745 q_16 q_746 (Nat.le_of_ble_eq_true rfl) dX11_met_54 ?_
      refine r_bipush (v := 15) C dX11_met_57 (by decide) ?_
      refine r_iadd C dX11_met_59 ?_
      refine r_istore C dX11_met_60 (Nat.le_of_ble_eq_true rfl) (L' := [(5, _), (4, _), (3, _), (0, _), (1, _), (2, _)]) rfl ?_
      refine r_aload_n C dX11_met_62 rfl 2 rfl ?_
      refine gfX11_257 C (inb_lt g_3) dX11_met_63 ?_
      refine r_aload C dX11_met_66 1 rfl ?_
      refine gfX11_257 C (inb_lt g_4) dX11_met_68 ?_
      refine r_mmin C q_747 q_623 q_16 q_624 (Nat.le_of_ble_eq_true rfl) dX11_met_71 ?_
      refine r_istore C dX11_met_74 (Nat.le_of_ble_eq_true rfl) (L' := [(6, _), (5, _), (4, _), (3, _), (0, _), (1, _), (2, _)]) rfl ?_
      refine r_iconst (v := 0) C dX11_met_76 (by decide) ?_
      refine r_iload C dX11_met_77 0 rfl ?_
      refine r_iload C dX11_met_79 1 rfl ?_
      refine r_isub C dX11_met_81 ?_
      refine r_iconst (v := 1) C dX11_met_82 (by decide) ?_
      refine r_iadd C dX11_met_83 ?_
      refine r_mmax C q_744 q_745 q_16 q_746 (Nat.le_of_ble_eq_true rfl) dX11_met_84 ?_
      cases h
      exact r_iret C dX11_met_87
    · have h := ip h c_2
      refine r_iconst (v := (-1)) C dX11_met_22 (by decide) ?_
      cases h
      exact r_iret C dX11_met_23
def Q_can (v1 : Int32) (s0 : St) : Option (Int32 × St) :=
  if v1 ≤ 0 then (some ((-1), s0)) else (if v1 < (1 <<< ((s0.1 3 0 5) &&& 31)) then (Option.bind (Bk_yearsApart v1 s0) (fun r_3 => Option.bind (Q_tell r_3 (if 70 < r_3 then 0 else 1 : Int32) s0) (fun r_6 => some (r_6.1, r_6.2)))) else (some ((-1), s0)))
set_option maxHeartbeats 4000000 in
set_option maxRecDepth 100000 in
theorem m_X11_can {l : Launch} {w : Wp} {v1 : Int32}  {s0 : St} {z : Int32 × St} (h : Q_can v1 s0 = some z) : Cm l yX11_can (.code yX11_can cX11_can 3 (some .int)) 2 WC w [.ref (wa w 0 0), .int v1] s0 (some (.int z.1)) z.2 := by
  refine Cm.of (own := RX11) (by decide +kernel) rfl (Nat.le_of_ble_eq_true rfl) (L := [(0, .ref (wa w 0 0)), (1, .int v1)]) rfl KoC (fun x hl C => ?_)
  subst hl
  unfold Q_can at h
  refine r_iload_n C dX11_can_0 rfl 1 rfl ?_
  refine r_if_le (tgt := 17) C dX11_can_1 (by decide) (fun c_1 => ?_) (fun c_1 => ?_)
  · have h := ip h c_1
    refine r_iconst (v := (-1)) C dX11_can_17 (by decide) ?_
    cases h
    exact r_iret C dX11_can_18
  · have h := iq h c_1
    refine r_iload_n C dX11_can_4 rfl 1 rfl ?_
    refine r_iconst (v := 1) C dX11_can_5 (by decide) ?_
    refine r_aload_n C dX11_can_6 rfl 0 rfl ?_
    refine gfX11_24 C dX11_can_7 ?_
    refine gfX11_115 C dX11_can_10 ?_
    refine r_ishl C dX11_can_13 ?_
    refine r_icmp_lt (tgt := 19) C dX11_can_14 (by decide) (fun c_2 => ?_) (fun c_2 => ?_)
    · have h := ip h c_2
      refine r_aload_n C dX11_can_19 rfl 0 rfl ?_
      refine gfX11_24 C dX11_can_20 ?_
      refine r_iload_n C dX11_can_23 rfl 1 rfl ?_
      obtain ⟨r_3, er_3, h⟩ := bdE h
      refine kX11_263 C (m_X1_yearsApart er_3) (by decide) (Nat.le_of_ble_eq_true rfl) dX11_can_24 ?_
      refine r_istore_n C dX11_can_27 rfl (Nat.le_of_ble_eq_true rfl) (L' := [(2, _), (0, _), (1, _)]) rfl ?_
      refine r_aload_n C dX11_can_28 rfl 1 rfl ?_
      refine r_iload_n C dX11_can_29 rfl 0 rfl ?_
      refine r_iload_n C dX11_can_30 rfl 0 rfl ?_
      refine r_bipush (v := 70) C dX11_can_31 (by decide) ?_
      refine r_em (st := [.int r_3, .ref (wa w 0 0)]) 41 ((if 70 < r_3 then 0 else 1 : Int32)) (fun hM_5 => ?_) ?_
      · refine r_icmp_gt (tgt := 40) C dX11_can_33 (by decide) (fun c_4 => ?_) (fun c_4 => ?_)
        · refine r_iconst (v := 0) C dX11_can_40 (by decide) ?_
          exact (em_pos c_4 hM_5)
        · refine r_iconst (v := 1) C dX11_can_36 (by decide) ?_
          refine r_goto (tgt := 41) C dX11_can_37 (by decide) ?_
          exact (em_neg c_4 hM_5)
      obtain ⟨r_6, er_6, h⟩ := bdE h
      refine kX11_82 C (m_X11_tell er_6) (by decide) (Nat.le_of_ble_eq_true rfl) dX11_can_41 ?_
      cases h
      exact r_iret C dX11_can_44
    · have h := iq h c_2
      refine r_iconst (v := (-1)) C dX11_can_17 (by decide) ?_
      cases h
      exact r_iret C dX11_can_18
def Q_reads_J37  (v1_4 : Int32) (v2_5 : Int32) (v3_6 : Int32)  (s_7 : St) : Option (Int32 × St) :=
  if inb v2_5 24 = true then if inb v1_4 5 = true then if inb v1_4 5 = true then some (s_7.1 27 v2_5.toNatClampNeg v1_4.toNatClampNeg, sX s_7 27 v2_5.toNatClampNeg v1_4.toNatClampNeg v3_6) else none else none else none
def Q_reads (v1 : Int32) (v2 : Int32) (v3 : Int32) (s0 : St) : Option (Int32 × St) :=
  if (Q_within v1 5) = 0 then (some ((-1), s0)) else (if (Bk_hasSaying v2 s0) = 0 then (some ((-1), s0)) else (if v3 = (-9) then (Q_reads_J37 v1 v2 v3 s0) else (if (Q_within v3 2) = 0 then (some ((-1), s0)) else (Q_reads_J37 v1 v2 v3 s0))))
set_option maxHeartbeats 4000000 in
set_option maxRecDepth 100000 in
theorem t_X11_reads_J37 {x : Ctx} {w : Wp} {v1_4 : Int32} {v2_5 : Int32} {v3_6 : Int32}  {s_7 : St} {z : Int32 × St}    (C : Cx x WC w cX11_reads 6 RX11 2 (some .int)) (h : Q_reads_J37 v1_4 v2_5 v3_6 s_7 = some z) : V x WC w 6 (QM x WC w (some (.int z.1)) z.2) s_7 37 [(0, .ref (wa w 0 0)), (1, .int v1_4), (2, .int v2_5), (3, .int v3_6)] [] := by
  unfold Q_reads_J37 at h
  refine r_aload_n C dX11_reads_37 rfl 0 rfl ?_
  refine gfX11_24 C dX11_reads_38 ?_
  refine gfX11_138 C dX11_reads_41 ?_
  refine r_iload_n C dX11_reads_44 rfl 2 rfl ?_
  obtain ⟨g_8, h⟩ := gdE h
  refine la_16 C g_8 dX11_reads_45 ?_
  refine gfX11_266 C (inb_lt g_8) dX11_reads_46 ?_
  refine r_astore C dX11_reads_49 (Nat.le_of_ble_eq_true rfl) (L' := [(4, _), (0, _), (1, _), (2, _), (3, _)]) rfl ?_
  refine r_aload C dX11_reads_51 0 rfl ?_
  refine r_iload_n C dX11_reads_53 rfl 2 rfl ?_
  obtain ⟨g_9, h⟩ := gdE h
  refine ldC_27 C (inb_lt g_8) g_9 dX11_reads_54 ?_
  refine r_istore C dX11_reads_55 (Nat.le_of_ble_eq_true rfl) (L' := [(5, _), (4, _), (0, _), (1, _), (2, _), (3, _)]) rfl ?_
  refine r_aload C dX11_reads_57 1 rfl ?_
  refine r_iload_n C dX11_reads_59 rfl 3 rfl ?_
  refine r_iload_n C dX11_reads_60 rfl 5 rfl ?_
  obtain ⟨g_10, h⟩ := gdE h
  refine stC_27 C (inb_lt g_8) g_10 dX11_reads_61 ?_
  refine r_iload C dX11_reads_62 0 rfl ?_
  cases h
  exact r_iret C dX11_reads_64
set_option maxHeartbeats 4000000 in
set_option maxRecDepth 100000 in
theorem m_X11_reads {l : Launch} {w : Wp} {v1 : Int32} {v2 : Int32} {v3 : Int32}  {s0 : St} {z : Int32 × St} (h : Q_reads v1 v2 v3 s0 = some z) : Cm l yX11_reads (.code yX11_reads cX11_reads 6 (some .int)) 2 WC w [.ref (wa w 0 0), .int v1, .int v2, .int v3] s0 (some (.int z.1)) z.2 := by
  refine Cm.of (own := RX11) (by decide +kernel) rfl (Nat.le_of_ble_eq_true rfl) (L := [(0, .ref (wa w 0 0)), (1, .int v1), (2, .int v2), (3, .int v3)]) rfl KoC (fun x hl C => ?_)
  subst hl
  unfold Q_reads at h
  refine r_iload_n C dX11_reads_0 rfl 1 rfl ?_
  refine r_iconst (v := 5) C dX11_reads_1 (by decide) ?_
  refine kX11_64 C (m_X11_within rfl) (by decide) (Nat.le_of_ble_eq_true rfl) dX11_reads_2 ?_
  refine r_if_eq (tgt := 19) C dX11_reads_5 (by decide) (fun c_1 => ?_) (fun c_1 => ?_)
  · have h := ip h c_1
    refine r_iconst (v := (-1)) C dX11_reads_19 (by decide) ?_
    cases h
    exact r_iret C dX11_reads_20
  · have h := iq h c_1
    refine r_aload_n C dX11_reads_8 rfl 0 rfl ?_
    refine gfX11_24 C dX11_reads_9 ?_
    refine r_iload_n C dX11_reads_12 rfl 2 rfl ?_
    refine kX11_135 C (m_X1_hasSaying rfl) (by decide) (Nat.le_of_ble_eq_true rfl) dX11_reads_13 ?_
    refine r_if_ne (tgt := 21) C dX11_reads_16 (by decide) (fun c_2 => ?_) (fun c_2 => ?_)
    · have h := iq h c_2
      refine r_iload_n C dX11_reads_21 rfl 3 rfl ?_
      refine r_bipush (v := (-9)) C dX11_reads_22 (by decide) ?_
      refine r_icmp_eq (tgt := 37) C dX11_reads_24 (by decide) (fun c_3 => ?_) (fun c_3 => ?_)
      · have h := ip h c_3
        refine r_sub [0, 1, 2, 3] rfl ?_
        exact t_X11_reads_J37 C h
      · have h := iq h c_3
        refine r_iload_n C dX11_reads_27 rfl 3 rfl ?_
        refine r_iconst (v := 2) C dX11_reads_28 (by decide) ?_
        refine kX11_64 C (m_X11_within rfl) (by decide) (Nat.le_of_ble_eq_true rfl) dX11_reads_29 ?_
        refine r_if_ne (tgt := 37) C dX11_reads_32 (by decide) (fun c_11 => ?_) (fun c_11 => ?_)
        · have h := iq h c_11
          refine r_sub [0, 1, 2, 3] rfl ?_
          exact t_X11_reads_J37 C h
        · have h := ip h c_11
          refine r_iconst (v := (-1)) C dX11_reads_35 (by decide) ?_
          cases h
          exact r_iret C dX11_reads_36
    · have h := ip h c_2
      refine r_iconst (v := (-1)) C dX11_reads_19 (by decide) ?_
      cases h
      exact r_iret C dX11_reads_20
def Q_reading (v1 : Int32) (s0 : St) : Option (Int32 × St) :=
  if (Bk_hasSaying v1 s0) = 0 then (some ((-1), s0)) else (if inb v1 24 = true then Option.bind (Sy_copiesReading v1.toNatClampNeg 1 s0) (fun r_3 => Option.bind (Sy_copiesReading v1.toNatClampNeg 0 s0) (fun r_4 => Option.bind (Q_tell (r_3 + r_4) (if r_3 = r_4 then (s0.1 26 v1.toNatClampNeg 3) else (if r_3 ≤ r_4 then 0 else 1) : Int32) s0) (fun r_8 => some (r_8.1, r_8.2)))) else none)
set_option maxHeartbeats 4000000 in
set_option maxRecDepth 100000 in
theorem m_X11_reading {l : Launch} {w : Wp} {v1 : Int32}  {s0 : St} {z : Int32 × St} (h : Q_reading v1 s0 = some z) : Cm l yX11_reading (.code yX11_reading cX11_reading 5 (some .int)) 2 WC w [.ref (wa w 0 0), .int v1] s0 (some (.int z.1)) z.2 := by
  refine Cm.of (own := RX11) (by decide +kernel) rfl (Nat.le_of_ble_eq_true rfl) (L := [(0, .ref (wa w 0 0)), (1, .int v1)]) rfl KoC (fun x hl C => ?_)
  subst hl
  unfold Q_reading at h
  refine r_aload_n C dX11_reading_0 rfl 0 rfl ?_
  refine gfX11_24 C dX11_reading_1 ?_
  refine r_iload_n C dX11_reading_4 rfl 1 rfl ?_
  refine kX11_135 C (m_X1_hasSaying rfl) (by decide) (Nat.le_of_ble_eq_true rfl) dX11_reading_5 ?_
  refine r_if_ne (tgt := 13) C dX11_reading_8 (by decide) (fun c_1 => ?_) (fun c_1 => ?_)
  · have h := iq h c_1
    refine r_aload_n C dX11_reading_13 rfl 0 rfl ?_
    refine gfX11_24 C dX11_reading_14 ?_
    refine gfX11_138 C dX11_reading_17 ?_
    refine r_iload_n C dX11_reading_20 rfl 1 rfl ?_
    obtain ⟨g_2, h⟩ := gdE h
    refine la_16 C g_2 dX11_reading_21 ?_
    refine r_astore_n C dX11_reading_22 rfl (Nat.le_of_ble_eq_true rfl) (L' := [(2, _), (0, _), (1, _)]) rfl ?_
    refine r_aload_n C dX11_reading_23 rfl 0 rfl ?_
    refine r_iconst (v := 1) C dX11_reading_24 (by decide) ?_
    obtain ⟨r_3, er_3, h⟩ := bdE h
    refine kX11_269 C (inb_lt g_2) (m_X9_copiesReading (inb_lt g_2) er_3) (by decide) (Nat.le_of_ble_eq_true rfl) dX11_reading_25 ?_
    refine r_istore_n C dX11_reading_28 rfl (Nat.le_of_ble_eq_true rfl) (L' := [(3, _), (2, _), (0, _), (1, _)]) rfl ?_
    refine r_aload_n C dX11_reading_29 rfl 1 rfl ?_
    refine r_iconst (v := 0) C dX11_reading_30 (by decide) ?_
    obtain ⟨r_4, er_4, h⟩ := bdE h
    refine kX11_269 C (inb_lt g_2) (m_X9_copiesReading (inb_lt g_2) er_4) (by decide) (Nat.le_of_ble_eq_true rfl) dX11_reading_31 ?_
    refine r_istore C dX11_reading_34 (Nat.le_of_ble_eq_true rfl) (L' := [(4, _), (3, _), (2, _), (0, _), (1, _)]) rfl ?_
    refine r_aload_n C dX11_reading_36 rfl 3 rfl ?_
    refine r_iload_n C dX11_reading_37 rfl 1 rfl ?_
    refine r_iload C dX11_reading_38 0 rfl ?_
    refine r_iadd C dX11_reading_40 ?_
    refine r_iload_n C dX11_reading_41 rfl 1 rfl ?_
    refine r_iload C dX11_reading_42 0 rfl ?_
    refine r_em (st := [.int (r_3 + r_4), .ref (wa w 0 0)]) 65 ((if r_3 = r_4 then (s0.1 26 v1.toNatClampNeg 3) else (if r_3 ≤ r_4 then 0 else 1) : Int32)) (fun hM_7 => ?_) ?_
    · refine r_icmp_ne (tgt := 54) C dX11_reading_44 (by decide) (fun c_6 => ?_) (fun c_6 => ?_)
      · refine r_iload_n C dX11_reading_54 rfl 1 rfl ?_
        refine r_iload C dX11_reading_55 0 rfl ?_
        refine r_icmp_le (tgt := 64) C dX11_reading_57 (by decide) (fun c_5 => ?_) (fun c_5 => ?_)
        · refine r_iconst (v := 0) C dX11_reading_64 (by decide) ?_
          exact (em_pos c_5 (em_neg c_6 hM_7))
        · refine r_iconst (v := 1) C dX11_reading_60 (by decide) ?_
          refine r_goto (tgt := 65) C dX11_reading_61 (by decide) ?_
          exact (em_neg c_5 (em_neg c_6 hM_7))
      · refine r_aload_n C dX11_reading_47 rfl 2 rfl ?_
        refine gfX11_272 C (inb_lt g_2) dX11_reading_48 ?_
        refine r_goto (tgt := 65) C dX11_reading_51 (by decide) ?_
        exact (em_pos c_6 hM_7)
    obtain ⟨r_8, er_8, h⟩ := bdE h
    refine kX11_82 C (m_X11_tell er_8) (by decide) (Nat.le_of_ble_eq_true rfl) dX11_reading_65 ?_
    cases h
    exact r_iret C dX11_reading_68
  · have h := ip h c_1
    refine r_iconst (v := (-1)) C dX11_reading_11 (by decide) ?_
    cases h
    exact r_iret C dX11_reading_12
def Q_tellFraction_L9 (K45 : Int64 → St → Option (St)) (v1_1 : Int64) (v3_2 : Int64) : Nat → Int64 → Int64 → Int32 → St → Option (St)
  | 0, _, _, _, _ => none
  | n + 1, v5_3, v7_4, v9_5, s_6 => if 200 ≤ v9_5 then (K45 v5_3 s_6) else (if (lg_cmp v7_4 0) = 0 then (K45 v5_3 s_6) else (if ¬ v7_4 = 0 then (Q_tellFraction_L9 K45 v1_1 v3_2 n) v7_4 (v5_3 - v5_3 / v7_4 * v7_4) (v9_5 + 1) s_6 else none))
def Q_tellFraction_J45  (v1_14 : Int64) (v3_15 : Int64) (v5_16 : Int64)  (s_17 : St) : Option (St) :=
  if (lg_cmp v5_16 0) = 0 then (some s_17) else (if ¬ v5_16 = 0 then if ¬ v5_16 = 0 then some (sY (sY s_17 8 (v1_14 / v5_16)) 9 (v3_15 / v5_16)) else none else none)
def Q_tellFraction (v1 : Int64) (v3 : Int64) (s0 : St) : Option (St) :=
  Q_tellFraction_L9 (fun (v5_12 : Int64) (s_13 : St) => Q_tellFraction_J45 v1 v3 v5_12 s_13) v1 v3 1100 v3 v1 0 s0
set_option maxHeartbeats 4000000 in
set_option maxRecDepth 100000 in
theorem t_X11_tellFraction_L9 {x : Ctx} {w : Wp} {v1_1 : Int64} {v3_2 : Int64} {z : St}  {K45 : Int64 → St → Option (St)} (hK45 : ∀ (u5_10 : Int64) (s_11 : St), K45 u5_10 s_11 = some z → V x WC w 12 (QM x WC w none z) s_11 45 [(0, .ref (wa w 0 0)), (1, .long v1_1), (3, .long v3_2), (5, .long u5_10)] []) (C : Cx x WC w cX11_tellFraction 12 RX11 0 none) : ∀ (n : Nat) (v5_3 : Int64) (v7_4 : Int64) (v9_5 : Int32) (s_6 : St), Q_tellFraction_L9 K45 v1_1 v3_2 n v5_3 v7_4 v9_5 s_6 = some z → V x WC w 12 (QM x WC w none z) s_6 9 [(0, .ref (wa w 0 0)), (1, .long v1_1), (3, .long v3_2), (5, .long v5_3), (7, .long v7_4), (9, .int v9_5)] [] := by
  intro n
  induction n with
  | zero => intro v5_3 v7_4 v9_5 s_6 h; cases h
  | succ n ih =>
    intro v5_3 v7_4 v9_5 s_6 h
    unfold Q_tellFraction_L9 at h
    refine r_iload C dX11_tellFraction_9 5 rfl ?_
    refine r_sipush (v := 200) C dX11_tellFraction_11 (by decide) ?_
    refine r_icmp_ge (tgt := 45) C dX11_tellFraction_14 (by decide) (fun c_7 => ?_) (fun c_7 => ?_)
    · have h := ip h c_7
      refine r_sub [0, 1, 2, 3] rfl ?_
      exact hK45 _ _ h
    · have h := iq h c_7
      refine r_lload C dX11_tellFraction_17 4 rfl ?_
      refine r_lconst (v := 0) C dX11_tellFraction_19 (by decide) ?_
      refine r_lcmp C dX11_tellFraction_20 ?_
      refine r_if_eq (tgt := 45) C dX11_tellFraction_21 (by decide) (fun c_8 => ?_) (fun c_8 => ?_)
      · have h := ip h c_8
        refine r_sub [0, 1, 2, 3] rfl ?_
        exact hK45 _ _ h
      · have h := iq h c_8
        refine r_lload C dX11_tellFraction_24 3 rfl ?_
        refine r_lload C dX11_tellFraction_26 4 rfl ?_
        obtain ⟨g_9, h⟩ := gdE h
        refine r_lrem C dX11_tellFraction_28 g_9 ?_
        refine r_lstore C dX11_tellFraction_29 (Nat.le_of_ble_eq_true rfl) (L' := [(10, _), (0, _), (1, _), (3, _), (5, _), (7, _), (9, _)]) rfl ?_
        refine r_lload C dX11_tellFraction_31 5 rfl ?_
        refine r_lstore C dX11_tellFraction_33 (Nat.le_of_ble_eq_true rfl) (L' := [(5, _), (10, _), (0, _), (1, _), (3, _), (7, _), (9, _)]) rfl ?_
        refine r_lload C dX11_tellFraction_35 1 rfl ?_
        refine r_lstore C dX11_tellFraction_37 (Nat.le_of_ble_eq_true rfl) (L' := [(7, _), (5, _), (10, _), (0, _), (1, _), (3, _), (9, _)]) rfl ?_
        refine r_iinc (v := v9_5 + 1) C dX11_tellFraction_39 (j := 6) rfl rfl (Nat.le_of_ble_eq_true rfl) (L' := [(9, _), (7, _), (5, _), (10, _), (0, _), (1, _), (3, _)]) rfl ?_
        refine r_goto (tgt := 9) C dX11_tellFraction_42 (by decide) ?_
        refine r_sub [4, 5, 6, 2, 1, 0] rfl ?_
        exact ih _ _ _ _ h
set_option maxHeartbeats 4000000 in
set_option maxRecDepth 100000 in
theorem t_X11_tellFraction_J45 {x : Ctx} {w : Wp} {v1_14 : Int64} {v3_15 : Int64} {v5_16 : Int64}  {s_17 : St} {z : St}    (C : Cx x WC w cX11_tellFraction 12 RX11 0 none) (h : Q_tellFraction_J45 v1_14 v3_15 v5_16 s_17 = some z) : V x WC w 12 (QM x WC w none z) s_17 45 [(0, .ref (wa w 0 0)), (1, .long v1_14), (3, .long v3_15), (5, .long v5_16)] [] := by
  unfold Q_tellFraction_J45 at h
  refine r_lload C dX11_tellFraction_45 3 rfl ?_
  refine r_lconst (v := 0) C dX11_tellFraction_47 (by decide) ?_
  refine r_lcmp C dX11_tellFraction_48 ?_
  refine r_if_ne (tgt := 53) C dX11_tellFraction_49 (by decide) (fun c_18 => ?_) (fun c_18 => ?_)
  · have h := iq h c_18
    refine r_aload_n C dX11_tellFraction_53 rfl 0 rfl ?_
    refine r_lload_n C dX11_tellFraction_54 rfl 1 rfl ?_
    refine r_lload C dX11_tellFraction_55 3 rfl ?_
    obtain ⟨g_19, h⟩ := gdE h
    refine r_ldiv C dX11_tellFraction_57 g_19 ?_
    refine pfX11_55 C dX11_tellFraction_58 ?_
    refine r_aload_n C dX11_tellFraction_61 rfl 0 rfl ?_
    refine r_lload_n C dX11_tellFraction_62 rfl 2 rfl ?_
    refine r_lload C dX11_tellFraction_63 3 rfl ?_
    obtain ⟨g_20, h⟩ := gdE h
    refine r_ldiv C dX11_tellFraction_65 g_20 ?_
    refine pfX11_59 C dX11_tellFraction_66 ?_
    cases h
    exact r_vret C dX11_tellFraction_69
  · have h := ip h c_18
    cases h
    exact r_vret C dX11_tellFraction_52
set_option maxHeartbeats 4000000 in
set_option maxRecDepth 100000 in
theorem m_X11_tellFraction {l : Launch} {w : Wp} {v1 : Int64} {v3 : Int64}  {s0 : St} {z : St} (h : Q_tellFraction v1 v3 s0 = some z) : Cm l yX11_tellFraction (.code yX11_tellFraction cX11_tellFraction 12 none) 0 WC w [.ref (wa w 0 0), .long v1, .long v3] s0 none z := by
  refine Cm.of (own := RX11) (by decide +kernel) rfl (Nat.le_of_ble_eq_true rfl) (L := [(0, .ref (wa w 0 0)), (1, .long v1), (3, .long v3)]) rfl KoC (fun x hl C => ?_)
  subst hl
  unfold Q_tellFraction at h
  refine r_lload_n C dX11_tellFraction_0 rfl 2 rfl ?_
  refine r_lstore C dX11_tellFraction_1 (Nat.le_of_ble_eq_true rfl) (L' := [(5, _), (0, _), (1, _), (3, _)]) rfl ?_
  refine r_lload_n C dX11_tellFraction_3 rfl 2 rfl ?_
  refine r_lstore C dX11_tellFraction_4 (Nat.le_of_ble_eq_true rfl) (L' := [(7, _), (5, _), (0, _), (1, _), (3, _)]) rfl ?_
  refine r_iconst (v := 0) C dX11_tellFraction_6 (by decide) ?_
  refine r_istore C dX11_tellFraction_7 (Nat.le_of_ble_eq_true rfl) (L' := [(9, _), (7, _), (5, _), (0, _), (1, _), (3, _)]) rfl ?_
  refine r_sub [3, 4, 5, 2, 1, 0] rfl ?_
  refine t_X11_tellFraction_L9 (fun v5_12 s_13 h => ?_) C _ _ _ _ _ h
  refine r_sub [0, 1, 2, 3] rfl ?_
  exact t_X11_tellFraction_J45 C h
def Q_slip_L45 (K92 : Int64 → St → Option (Int32 × St)) (v1_7 : Int32) (v2_8 : Int32) (v3_9 : Int32) : Nat → Int64 → Int64 → Int64 → Int32 → St → Option (Int32 × St)
  | 0, _, _, _, _, _ => none
  | n + 1, v4_10, v6_11, v8_12, v10_13, s_14 => if v10_13 < v3_9 then (K92 v8_12 s_14) else (if ¬ (((v1_7 - v10_13) + 1).toInt64) = 0 then (Q_slip_L45 K92 v1_7 v2_8 v3_9 n) ((v4_10 * v10_13.toInt64) / (((v1_7 - v10_13) + 1).toInt64)) (v6_11 * ((v2_8 - 1).toInt64)) (v8_12 + (v4_10 * v6_11)) (v10_13 + (-1)) s_14 else none)
def Q_slip_L98 (K117 : Int64 → St → Option (Int32 × St)) (v1_21 : Int32) (v2_22 : Int32) (v8_23 : Int64) : Nat → Int64 → Int32 → St → Option (Int32 × St)
  | 0, _, _, _ => none
  | n + 1, v10_24, v12_25, s_26 => if v1_21 ≤ v12_25 then (K117 v10_24 s_26) else ((Q_slip_L98 K117 v1_21 v2_22 v8_23 n) (v10_24 * v2_22.toInt64) (v12_25 + 1) s_26)
def Q_slip (v1 : Int32) (v2 : Int32) (v3 : Int32) (s0 : St) : Option (Int32 × St) :=
  if v1 < 1 then (some ((-1), s0)) else (if 12 < v1 then (some ((-1), s0)) else (if v2 < 2 then (some ((-1), s0)) else (if 9 < v2 then (some ((-1), s0)) else (if v3 < 0 then (some ((-1), s0)) else (if v3 ≤ v1 then (Q_slip_L45 (fun (v8_19 : Int64) (s_20 : St) => Q_slip_L98 (fun (v10_30 : Int64) (s_31 : St) => Option.bind (Q_tellFraction v8_19 v10_30 s_31) (fun r_32 => some (1, r_32))) v1 v2 v8_19 1100 1 0 s_20) v1 v2 v3 1100 1 1 0 v1 s0) else (some ((-1), s0)))))))
set_option maxHeartbeats 4000000 in
set_option maxRecDepth 100000 in
theorem t_X11_slip_L45 {x : Ctx} {w : Wp} {v1_7 : Int32} {v2_8 : Int32} {v3_9 : Int32} {z : Int32 × St}  {K92 : Int64 → St → Option (Int32 × St)} (hK92 : ∀ (u8_17 : Int64) (s_18 : St), K92 u8_17 s_18 = some z → V x WC w 13 (QM x WC w (some (.int z.1)) z.2) s_18 92 [(0, .ref (wa w 0 0)), (1, .int v1_7), (2, .int v2_8), (8, .long u8_17)] []) (C : Cx x WC w cX11_slip 13 RX11 1 (some .int)) : ∀ (n : Nat) (v4_10 : Int64) (v6_11 : Int64) (v8_12 : Int64) (v10_13 : Int32) (s_14 : St), Q_slip_L45 K92 v1_7 v2_8 v3_9 n v4_10 v6_11 v8_12 v10_13 s_14 = some z → V x WC w 13 (QM x WC w (some (.int z.1)) z.2) s_14 45 [(0, .ref (wa w 0 0)), (1, .int v1_7), (2, .int v2_8), (3, .int v3_9), (4, .long v4_10), (6, .long v6_11), (8, .long v8_12), (10, .int v10_13)] [] := by
  intro n
  induction n with
  | zero => intro v4_10 v6_11 v8_12 v10_13 s_14 h; cases h
  | succ n ih =>
    intro v4_10 v6_11 v8_12 v10_13 s_14 h
    unfold Q_slip_L45 at h
    refine r_iload C dX11_slip_45 7 rfl ?_
    refine r_iload_n C dX11_slip_47 rfl 3 rfl ?_
    refine r_icmp_lt (tgt := 92) C dX11_slip_48 (by decide) (fun c_15 => ?_) (fun c_15 => ?_)
    · have h := ip h c_15
      refine r_sub [0, 1, 2, 6] rfl ?_
      exact hK92 _ _ h
    · have h := iq h c_15
      refine r_lload C dX11_slip_51 6 rfl ?_
      refine r_lload C dX11_slip_53 4 rfl ?_
      refine r_lload C dX11_slip_55 5 rfl ?_
      refine r_lmul C dX11_slip_57 ?_
      refine r_ladd C dX11_slip_58 ?_
      refine r_lstore C dX11_slip_59 (Nat.le_of_ble_eq_true rfl) (L' := [(8, _), (0, _), (1, _), (2, _), (3, _), (4, _), (6, _), (10, _)]) rfl ?_
      refine r_lload C dX11_slip_61 5 rfl ?_
      refine r_iload C dX11_slip_63 7 rfl ?_
      refine r_i2l C dX11_slip_65 ?_
      refine r_lmul C dX11_slip_66 ?_
      refine r_iload_n C dX11_slip_67 rfl 2 rfl ?_
      refine r_iload C dX11_slip_68 7 rfl ?_
      refine r_isub C dX11_slip_70 ?_
      refine r_iconst (v := 1) C dX11_slip_71 (by decide) ?_
      refine r_iadd C dX11_slip_72 ?_
      refine r_i2l C dX11_slip_73 ?_
      obtain ⟨g_16, h⟩ := gdE h
      refine r_ldiv C dX11_slip_74 g_16 ?_
      refine r_lstore C dX11_slip_75 (Nat.le_of_ble_eq_true rfl) (L' := [(4, _), (8, _), (0, _), (1, _), (2, _), (3, _), (6, _), (10, _)]) rfl ?_
      refine r_lload C dX11_slip_77 6 rfl ?_
      refine r_iload_n C dX11_slip_79 rfl 4 rfl ?_
      refine r_iconst (v := 1) C dX11_slip_80 (by decide) ?_
      refine r_isub C dX11_slip_81 ?_
      refine r_i2l C dX11_slip_82 ?_
      refine r_lmul C dX11_slip_83 ?_
      refine r_lstore C dX11_slip_84 (Nat.le_of_ble_eq_true rfl) (L' := [(6, _), (4, _), (8, _), (0, _), (1, _), (2, _), (3, _), (10, _)]) rfl ?_
      refine r_iinc (v := v10_13 + (-1)) C dX11_slip_86 (j := 7) rfl rfl (Nat.le_of_ble_eq_true rfl) (L' := [(10, _), (6, _), (4, _), (8, _), (0, _), (1, _), (2, _), (3, _)]) rfl ?_
      refine r_goto (tgt := 45) C dX11_slip_89 (by decide) ?_
      refine r_sub [4, 5, 6, 7, 2, 1, 3, 0] rfl ?_
      exact ih _ _ _ _ _ h
set_option maxHeartbeats 4000000 in
set_option maxRecDepth 100000 in
theorem t_X11_slip_L98 {x : Ctx} {w : Wp} {v1_21 : Int32} {v2_22 : Int32} {v8_23 : Int64} {z : Int32 × St}  {K117 : Int64 → St → Option (Int32 × St)} (hK117 : ∀ (u10_28 : Int64) (s_29 : St), K117 u10_28 s_29 = some z → V x WC w 13 (QM x WC w (some (.int z.1)) z.2) s_29 117 [(0, .ref (wa w 0 0)), (8, .long v8_23), (10, .long u10_28)] []) (C : Cx x WC w cX11_slip 13 RX11 1 (some .int)) : ∀ (n : Nat) (v10_24 : Int64) (v12_25 : Int32) (s_26 : St), Q_slip_L98 K117 v1_21 v2_22 v8_23 n v10_24 v12_25 s_26 = some z → V x WC w 13 (QM x WC w (some (.int z.1)) z.2) s_26 98 [(0, .ref (wa w 0 0)), (1, .int v1_21), (2, .int v2_22), (8, .long v8_23), (10, .long v10_24), (12, .int v12_25)] [] := by
  intro n
  induction n with
  | zero => intro v10_24 v12_25 s_26 h; cases h
  | succ n ih =>
    intro v10_24 v12_25 s_26 h
    unfold Q_slip_L98 at h
    refine r_iload C dX11_slip_98 5 rfl ?_
    refine r_iload_n C dX11_slip_100 rfl 1 rfl ?_
    refine r_icmp_ge (tgt := 117) C dX11_slip_101 (by decide) (fun c_27 => ?_) (fun c_27 => ?_)
    · have h := ip h c_27
      refine r_sub [0, 3, 4] rfl ?_
      exact hK117 _ _ h
    · have h := iq h c_27
      refine r_lload C dX11_slip_104 4 rfl ?_
      refine r_iload_n C dX11_slip_106 rfl 2 rfl ?_
      refine r_i2l C dX11_slip_107 ?_
      refine r_lmul C dX11_slip_108 ?_
      refine r_lstore C dX11_slip_109 (Nat.le_of_ble_eq_true rfl) (L' := [(10, _), (0, _), (1, _), (2, _), (8, _), (12, _)]) rfl ?_
      refine r_iinc (v := v12_25 + 1) C dX11_slip_111 (j := 5) rfl rfl (Nat.le_of_ble_eq_true rfl) (L' := [(12, _), (10, _), (0, _), (1, _), (2, _), (8, _)]) rfl ?_
      refine r_goto (tgt := 98) C dX11_slip_114 (by decide) ?_
      refine r_sub [2, 3, 4, 5, 1, 0] rfl ?_
      exact ih _ _ _ h
set_option maxHeartbeats 4000000 in
set_option maxRecDepth 100000 in
theorem m_X11_slip {l : Launch} {w : Wp} {v1 : Int32} {v2 : Int32} {v3 : Int32}  {s0 : St} {z : Int32 × St} (h : Q_slip v1 v2 v3 s0 = some z) : Cm l yX11_slip (.code yX11_slip cX11_slip 13 (some .int)) 1 WC w [.ref (wa w 0 0), .int v1, .int v2, .int v3] s0 (some (.int z.1)) z.2 := by
  refine Cm.of (own := RX11) (by decide +kernel) rfl (Nat.le_of_ble_eq_true rfl) (L := [(0, .ref (wa w 0 0)), (1, .int v1), (2, .int v2), (3, .int v3)]) rfl KoC (fun x hl C => ?_)
  subst hl
  unfold Q_slip at h
  refine r_iload_n C dX11_slip_0 rfl 1 rfl ?_
  refine r_iconst (v := 1) C dX11_slip_1 (by decide) ?_
  refine r_icmp_lt (tgt := 31) C dX11_slip_2 (by decide) (fun c_1 => ?_) (fun c_1 => ?_)
  · have h := ip h c_1
    refine r_iconst (v := (-1)) C dX11_slip_31 (by decide) ?_
    cases h
    exact r_iret C dX11_slip_32
  · have h := iq h c_1
    refine r_iload_n C dX11_slip_5 rfl 1 rfl ?_
    refine r_bipush (v := 12) C dX11_slip_6 (by decide) ?_
    refine r_icmp_gt (tgt := 31) C dX11_slip_8 (by decide) (fun c_2 => ?_) (fun c_2 => ?_)
    · have h := ip h c_2
      refine r_iconst (v := (-1)) C dX11_slip_31 (by decide) ?_
      cases h
      exact r_iret C dX11_slip_32
    · have h := iq h c_2
      refine r_iload_n C dX11_slip_11 rfl 2 rfl ?_
      refine r_iconst (v := 2) C dX11_slip_12 (by decide) ?_
      refine r_icmp_lt (tgt := 31) C dX11_slip_13 (by decide) (fun c_3 => ?_) (fun c_3 => ?_)
      · have h := ip h c_3
        refine r_iconst (v := (-1)) C dX11_slip_31 (by decide) ?_
        cases h
        exact r_iret C dX11_slip_32
      · have h := iq h c_3
        refine r_iload_n C dX11_slip_16 rfl 2 rfl ?_
        refine r_bipush (v := 9) C dX11_slip_17 (by decide) ?_
        refine r_icmp_gt (tgt := 31) C dX11_slip_19 (by decide) (fun c_4 => ?_) (fun c_4 => ?_)
        · have h := ip h c_4
          refine r_iconst (v := (-1)) C dX11_slip_31 (by decide) ?_
          cases h
          exact r_iret C dX11_slip_32
        · have h := iq h c_4
          refine r_iload_n C dX11_slip_22 rfl 3 rfl ?_
          refine r_if_lt (tgt := 31) C dX11_slip_23 (by decide) (fun c_5 => ?_) (fun c_5 => ?_)
          · have h := ip h c_5
            refine r_iconst (v := (-1)) C dX11_slip_31 (by decide) ?_
            cases h
            exact r_iret C dX11_slip_32
          · have h := iq h c_5
            refine r_iload_n C dX11_slip_26 rfl 3 rfl ?_
            refine r_iload_n C dX11_slip_27 rfl 1 rfl ?_
            refine r_icmp_le (tgt := 33) C dX11_slip_28 (by decide) (fun c_6 => ?_) (fun c_6 => ?_)
            · have h := ip h c_6
              refine r_lconst (v := 1) C dX11_slip_33 (by decide) ?_
              refine r_lstore C dX11_slip_34 (Nat.le_of_ble_eq_true rfl) (L' := [(4, _), (0, _), (1, _), (2, _), (3, _)]) rfl ?_
              refine r_lconst (v := 1) C dX11_slip_36 (by decide) ?_
              refine r_lstore C dX11_slip_37 (Nat.le_of_ble_eq_true rfl) (L' := [(6, _), (4, _), (0, _), (1, _), (2, _), (3, _)]) rfl ?_
              refine r_lconst (v := 0) C dX11_slip_39 (by decide) ?_
              refine r_lstore C dX11_slip_40 (Nat.le_of_ble_eq_true rfl) (L' := [(8, _), (6, _), (4, _), (0, _), (1, _), (2, _), (3, _)]) rfl ?_
              refine r_iload_n C dX11_slip_42 rfl 4 rfl ?_
              refine r_istore C dX11_slip_43 (Nat.le_of_ble_eq_true rfl) (L' := [(10, _), (8, _), (6, _), (4, _), (0, _), (1, _), (2, _), (3, _)]) rfl ?_
              refine r_sub [4, 5, 6, 7, 3, 2, 1, 0] rfl ?_
              refine t_X11_slip_L45 (fun v8_19 s_20 h => ?_) C _ _ _ _ _ _ h
              refine r_lconst (v := 1) C dX11_slip_92 (by decide) ?_
              refine r_lstore C dX11_slip_93 (Nat.le_of_ble_eq_true rfl) (L' := [(10, _), (0, _), (1, _), (2, _), (8, _)]) rfl ?_
              refine r_iconst (v := 0) C dX11_slip_95 (by decide) ?_
              refine r_istore C dX11_slip_96 (Nat.le_of_ble_eq_true rfl) (L' := [(12, _), (10, _), (0, _), (1, _), (2, _), (8, _)]) rfl ?_
              refine r_sub [2, 3, 4, 5, 1, 0] rfl ?_
              refine t_X11_slip_L98 (fun v10_30 s_31 h => ?_) C _ _ _ _ h
              refine r_aload_n C dX11_slip_117 rfl 0 rfl ?_
              refine r_lload C dX11_slip_118 1 rfl ?_
              refine r_lload C dX11_slip_120 2 rfl ?_
              obtain ⟨r_32, er_32, h⟩ := bdE h
              refine kX11_275 C (m_X11_tellFraction er_32) (by decide) (Nat.le_of_ble_eq_true rfl) dX11_slip_122 ?_
              refine r_iconst (v := 1) C dX11_slip_125 (by decide) ?_
              cases h
              exact r_iret C dX11_slip_126
            · have h := iq h c_6
              refine r_iconst (v := (-1)) C dX11_slip_31 (by decide) ?_
              cases h
              exact r_iret C dX11_slip_32
def Q_runs (v1 : Int32) (s0 : St) : Option (Int32 × St) :=
  if (Bk_hasSaying v1 s0) = 0 then (some ((-1), s0)) else (if inb v1 24 = true then Option.bind (Bk_settled s0) (fun r_3 => if inb (r_3.1 26 v1.toNatClampNeg 0) 8 = true then Option.bind (Bk_sumIfOtherwise v1 r_3) (fun r_5 => if (r_3.1 24 ((r_3.1 26 v1.toNatClampNeg 0).toNatClampNeg) 1) = r_5.1 then (Option.bind (Q_tell 0 2 r_5.2) (fun r_10 => some (r_10.1, r_10.2))) else (Option.bind (Q_tell (iabs ((r_3.1 24 ((r_3.1 26 v1.toNatClampNeg 0).toNatClampNeg) 1) - r_5.1)) (if r_5.1 ≤ (r_3.1 24 ((r_3.1 26 v1.toNatClampNeg 0).toNatClampNeg) 1) then (1 - (r_5.2.1 26 v1.toNatClampNeg 3)) else (r_5.2.1 26 v1.toNatClampNeg 3) : Int32) r_5.2) (fun r_9 => some (r_9.1, r_9.2)))) else none) else none)
set_option maxHeartbeats 4000000 in
set_option maxRecDepth 100000 in
theorem m_X11_runs {l : Launch} {w : Wp} {v1 : Int32}  {s0 : St} {z : Int32 × St} (h : Q_runs v1 s0 = some z) : Cm l yX11_runs (.code yX11_runs cX11_runs 5 (some .int)) 4 WC w [.ref (wa w 0 0), .int v1] s0 (some (.int z.1)) z.2 := by
  refine Cm.of (own := RX11) (by decide +kernel) rfl (Nat.le_of_ble_eq_true rfl) (L := [(0, .ref (wa w 0 0)), (1, .int v1)]) rfl KoC (fun x hl C => ?_)
  subst hl
  unfold Q_runs at h
  refine r_aload_n C dX11_runs_0 rfl 0 rfl ?_
  refine gfX11_24 C dX11_runs_1 ?_
  refine r_iload_n C dX11_runs_4 rfl 1 rfl ?_
  refine kX11_135 C (m_X1_hasSaying rfl) (by decide) (Nat.le_of_ble_eq_true rfl) dX11_runs_5 ?_
  refine r_if_ne (tgt := 13) C dX11_runs_8 (by decide) (fun c_1 => ?_) (fun c_1 => ?_)
  · have h := iq h c_1
    refine r_aload_n C dX11_runs_13 rfl 0 rfl ?_
    refine gfX11_24 C dX11_runs_14 ?_
    refine gfX11_138 C dX11_runs_17 ?_
    refine r_iload_n C dX11_runs_20 rfl 1 rfl ?_
    obtain ⟨g_2, h⟩ := gdE h
    refine la_16 C g_2 dX11_runs_21 ?_
    refine r_astore_n C dX11_runs_22 rfl (Nat.le_of_ble_eq_true rfl) (L' := [(2, _), (0, _), (1, _)]) rfl ?_
    refine r_aload_n C dX11_runs_23 rfl 1 rfl ?_
    refine gfX11_24 C dX11_runs_24 ?_
    obtain ⟨r_3, er_3, h⟩ := bdE h
    refine kX11_188 C (m_X1_settled er_3) (by decide) (Nat.le_of_ble_eq_true rfl) dX11_runs_27 ?_
    refine r_aload_n C dX11_runs_30 rfl 0 rfl ?_
    refine gfX11_279 C (inb_lt g_2) dX11_runs_31 ?_
    obtain ⟨g_4, h⟩ := gdE h
    refine la_15 C g_4 dX11_runs_34 ?_
    refine gfX11_192 C (inb_lt g_4) dX11_runs_35 ?_
    refine gfX11_203 C (inb_lt g_4) dX11_runs_38 ?_
    refine r_istore_n C dX11_runs_41 rfl (Nat.le_of_ble_eq_true rfl) (L' := [(3, _), (2, _), (0, _), (1, _)]) rfl ?_
    refine r_aload_n C dX11_runs_42 rfl 2 rfl ?_
    refine gfX11_24 C dX11_runs_43 ?_
    refine r_iload_n C dX11_runs_46 rfl 3 rfl ?_
    obtain ⟨r_5, er_5, h⟩ := bdE h
    refine kX11_282 C (m_X1_sumIfOtherwise er_5) (by decide) (Nat.le_of_ble_eq_true rfl) dX11_runs_47 ?_
    refine r_istore C dX11_runs_50 (Nat.le_of_ble_eq_true rfl) (L' := [(4, _), (3, _), (2, _), (0, _), (1, _)]) rfl ?_
    refine r_iload_n C dX11_runs_52 rfl 1 rfl ?_
    refine r_iload C dX11_runs_53 0 rfl ?_
    refine r_icmp_ne (tgt := 65) C dX11_runs_55 (by decide) (fun c_6 => ?_) (fun c_6 => ?_)
    · have h := iq h c_6
      refine r_aload_n C dX11_runs_65 rfl 3 rfl ?_
      refine r_iload_n C dX11_runs_66 rfl 1 rfl ?_
      refine r_iload C dX11_runs_67 0 rfl ?_
      refine r_isub C dX11_runs_69 ?_
      refine r_mabs C q_786 q_787 q_16 q_788 (Nat.le_of_ble_eq_true rfl) dX11_runs_70 ?_
      refine r_iload_n C dX11_runs_73 rfl 1 rfl ?_
      refine r_iload C dX11_runs_74 0 rfl ?_
      refine r_em (st := [.int (iabs ((r_3.1 24 ((r_3.1 26 v1.toNatClampNeg 0).toNatClampNeg) 1) - r_5.1)), .ref (wa w 0 0)]) 92 ((if r_5.1 ≤ (r_3.1 24 ((r_3.1 26 v1.toNatClampNeg 0).toNatClampNeg) 1) then (1 - (r_5.2.1 26 v1.toNatClampNeg 3)) else (r_5.2.1 26 v1.toNatClampNeg 3) : Int32)) (fun hM_8 => ?_) ?_
      · refine r_icmp_ge (tgt := 86) C dX11_runs_76 (by decide) (fun c_7 => ?_) (fun c_7 => ?_)
        · refine r_iconst (v := 1) C dX11_runs_86 (by decide) ?_
          refine r_aload_n C dX11_runs_87 rfl 2 rfl ?_
          refine gfX11_272 C (inb_lt g_2) dX11_runs_88 ?_
          refine r_isub C dX11_runs_91 ?_
          exact (em_pos c_7 hM_8)
        · refine r_aload_n C dX11_runs_79 rfl 2 rfl ?_
          refine gfX11_272 C (inb_lt g_2) dX11_runs_80 ?_
          refine r_goto (tgt := 92) C dX11_runs_83 (by decide) ?_
          exact (em_neg c_7 hM_8)
      obtain ⟨r_9, er_9, h⟩ := bdE h
      refine kX11_82 C (m_X11_tell er_9) (by decide) (Nat.le_of_ble_eq_true rfl) dX11_runs_92 ?_
      cases h
      exact r_iret C dX11_runs_95
    · have h := ip h c_6
      refine r_aload_n C dX11_runs_58 rfl 3 rfl ?_
      refine r_iconst (v := 0) C dX11_runs_59 (by decide) ?_
      refine r_iconst (v := 2) C dX11_runs_60 (by decide) ?_
      obtain ⟨r_10, er_10, h⟩ := bdE h
      refine kX11_82 C (m_X11_tell er_10) (by decide) (Nat.le_of_ble_eq_true rfl) dX11_runs_61 ?_
      cases h
      exact r_iret C dX11_runs_64
  · have h := ip h c_1
    refine r_iconst (v := (-1)) C dX11_runs_11 (by decide) ?_
    cases h
    exact r_iret C dX11_runs_12
def Q_move (v1 : Int32) (v2 : Int32) (v3 : Int32) (s0 : St) : Option (Int32 × St) :=
  if (Bk_hasSaying v1 s0) = 0 then (some ((-1), s0)) else (if (Q_within v2 7) = 0 then (some ((-1), s0)) else (if (Pg_takes v1 v2 v3 s0) = 0 then (some ((-1), s0)) else (if (s0.1 4 0 1) = 40 then (some ((-2), s0)) else (Option.bind (Pg_addMove v1 v2 v3 s0) (fun r_5 => some (r_5.1, r_5.2))))))
set_option maxHeartbeats 4000000 in
set_option maxRecDepth 100000 in
theorem m_X11_move {l : Launch} {w : Wp} {v1 : Int32} {v2 : Int32} {v3 : Int32}  {s0 : St} {z : Int32 × St} (h : Q_move v1 v2 v3 s0 = some z) : Cm l yX11_move (.code yX11_move cX11_move 4 (some .int)) 3 WC w [.ref (wa w 0 0), .int v1, .int v2, .int v3] s0 (some (.int z.1)) z.2 := by
  refine Cm.of (own := RX11) (by decide +kernel) rfl (Nat.le_of_ble_eq_true rfl) (L := [(0, .ref (wa w 0 0)), (1, .int v1), (2, .int v2), (3, .int v3)]) rfl KoC (fun x hl C => ?_)
  subst hl
  unfold Q_move at h
  refine r_aload_n C dX11_move_0 rfl 0 rfl ?_
  refine gfX11_24 C dX11_move_1 ?_
  refine r_iload_n C dX11_move_4 rfl 1 rfl ?_
  refine kX11_135 C (m_X1_hasSaying rfl) (by decide) (Nat.le_of_ble_eq_true rfl) dX11_move_5 ?_
  refine r_if_eq (tgt := 33) C dX11_move_8 (by decide) (fun c_1 => ?_) (fun c_1 => ?_)
  · have h := ip h c_1
    refine r_iconst (v := (-1)) C dX11_move_33 (by decide) ?_
    cases h
    exact r_iret C dX11_move_34
  · have h := iq h c_1
    refine r_iload_n C dX11_move_11 rfl 2 rfl ?_
    refine r_bipush (v := 7) C dX11_move_12 (by decide) ?_
    refine kX11_64 C (m_X11_within rfl) (by decide) (Nat.le_of_ble_eq_true rfl) dX11_move_14 ?_
    refine r_if_eq (tgt := 33) C dX11_move_17 (by decide) (fun c_2 => ?_) (fun c_2 => ?_)
    · have h := ip h c_2
      refine r_iconst (v := (-1)) C dX11_move_33 (by decide) ?_
      cases h
      exact r_iret C dX11_move_34
    · have h := iq h c_2
      refine r_aload_n C dX11_move_20 rfl 0 rfl ?_
      refine gfX11_33 C dX11_move_21 ?_
      refine r_iload_n C dX11_move_24 rfl 1 rfl ?_
      refine r_iload_n C dX11_move_25 rfl 2 rfl ?_
      refine r_iload_n C dX11_move_26 rfl 3 rfl ?_
      refine kX11_288 C (m_X6_takes rfl) (by decide) (Nat.le_of_ble_eq_true rfl) dX11_move_27 ?_
      refine r_if_ne (tgt := 35) C dX11_move_30 (by decide) (fun c_3 => ?_) (fun c_3 => ?_)
      · have h := iq h c_3
        refine r_aload_n C dX11_move_35 rfl 0 rfl ?_
        refine gfX11_33 C dX11_move_36 ?_
        refine gfX11_292 C dX11_move_39 ?_
        refine r_bipush (v := 40) C dX11_move_42 (by decide) ?_
        refine r_icmp_ne (tgt := 50) C dX11_move_44 (by decide) (fun c_4 => ?_) (fun c_4 => ?_)
        · have h := iq h c_4
          refine r_aload_n C dX11_move_50 rfl 0 rfl ?_
          refine gfX11_33 C dX11_move_51 ?_
          refine r_iload_n C dX11_move_54 rfl 1 rfl ?_
          refine r_iload_n C dX11_move_55 rfl 2 rfl ?_
          refine r_iload_n C dX11_move_56 rfl 3 rfl ?_
          obtain ⟨r_5, er_5, h⟩ := bdE h
          refine kX11_295 C (m_X6_addMove er_5) (by decide) (Nat.le_of_ble_eq_true rfl) dX11_move_57 ?_
          cases h
          exact r_iret C dX11_move_60
        · have h := ip h c_4
          refine r_bipush (v := (-2)) C dX11_move_47 (by decide) ?_
          cases h
          exact r_iret C dX11_move_49
      · have h := ip h c_3
        refine r_iconst (v := (-1)) C dX11_move_33 (by decide) ?_
        cases h
        exact r_iret C dX11_move_34
def Q_moved (v1 : Int32) (v2 : Int32) (s0 : St) : Option (Int32 × St) :=
  if (Q_within v1 (s0.1 4 0 1)) = 0 then (some ((-1), s0)) else (if (Q_within v2 3) = 0 then (some ((-1), s0)) else (if inb v1 40 = true then Option.bind (Q_tell (Mv_figure v1.toNatClampNeg v2 s0) 1 s0) (fun r_4 => some (r_4.1, r_4.2)) else none))
set_option maxHeartbeats 4000000 in
set_option maxRecDepth 100000 in
theorem m_X11_moved {l : Launch} {w : Wp} {v1 : Int32} {v2 : Int32}  {s0 : St} {z : Int32 × St} (h : Q_moved v1 v2 s0 = some z) : Cm l yX11_moved (.code yX11_moved cX11_moved 3 (some .int)) 1 WC w [.ref (wa w 0 0), .int v1, .int v2] s0 (some (.int z.1)) z.2 := by
  refine Cm.of (own := RX11) (by decide +kernel) rfl (Nat.le_of_ble_eq_true rfl) (L := [(0, .ref (wa w 0 0)), (1, .int v1), (2, .int v2)]) rfl KoC (fun x hl C => ?_)
  subst hl
  unfold Q_moved at h
  refine r_iload_n C dX11_moved_0 rfl 1 rfl ?_
  refine r_aload_n C dX11_moved_1 rfl 0 rfl ?_
  refine gfX11_33 C dX11_moved_2 ?_
  refine gfX11_292 C dX11_moved_5 ?_
  refine kX11_64 C (m_X11_within rfl) (by decide) (Nat.le_of_ble_eq_true rfl) dX11_moved_8 ?_
  refine r_if_eq (tgt := 22) C dX11_moved_11 (by decide) (fun c_1 => ?_) (fun c_1 => ?_)
  · have h := ip h c_1
    refine r_iconst (v := (-1)) C dX11_moved_22 (by decide) ?_
    cases h
    exact r_iret C dX11_moved_23
  · have h := iq h c_1
    refine r_iload_n C dX11_moved_14 rfl 2 rfl ?_
    refine r_iconst (v := 3) C dX11_moved_15 (by decide) ?_
    refine kX11_64 C (m_X11_within rfl) (by decide) (Nat.le_of_ble_eq_true rfl) dX11_moved_16 ?_
    refine r_if_ne (tgt := 24) C dX11_moved_19 (by decide) (fun c_2 => ?_) (fun c_2 => ?_)
    · have h := iq h c_2
      refine r_aload_n C dX11_moved_24 rfl 0 rfl ?_
      refine r_aload_n C dX11_moved_25 rfl 0 rfl ?_
      refine gfX11_33 C dX11_moved_26 ?_
      refine gfX11_298 C dX11_moved_29 ?_
      refine r_iload_n C dX11_moved_32 rfl 1 rfl ?_
      obtain ⟨g_3, h⟩ := gdE h
      refine la_17 C g_3 dX11_moved_33 ?_
      refine r_iload_n C dX11_moved_34 rfl 2 rfl ?_
      refine kX11_302 C (inb_lt g_3) (m_X5_figure (inb_lt g_3) rfl) (by decide) (Nat.le_of_ble_eq_true rfl) dX11_moved_35 ?_
      refine r_iconst (v := 1) C dX11_moved_38 (by decide) ?_
      obtain ⟨r_4, er_4, h⟩ := bdE h
      refine kX11_82 C (m_X11_tell er_4) (by decide) (Nat.le_of_ble_eq_true rfl) dX11_moved_39 ?_
      cases h
      exact r_iret C dX11_moved_42
    · have h := ip h c_2
      refine r_iconst (v := (-1)) C dX11_moved_22 (by decide) ?_
      cases h
      exact r_iret C dX11_moved_23
def Q_mark (v1 : Int32) (v2 : Int32) (s0 : St) : Option (Int32 × St) :=
  if (Q_within v1 (s0.1 4 0 1)) = 0 then (some ((-1), s0)) else (if (Q_within v2 7) = 0 then (some ((-1), s0)) else (if v2 = 0 then (some ((-1), s0)) else (if inb v1 40 = true then if (s0.1 28 v1.toNatClampNeg 0) = v2 then (if inb v1 40 = true then Option.bind (Bk_settled s0) (fun r_7 => Option.bind (Pg_markOf v1.toNatClampNeg r_7) (fun r_8 => some (r_8, r_7))) else none) else (Option.bind (Q_refuse 3 s0) (fun r_9 => some (r_9.1, r_9.2))) else none)))
set_option maxHeartbeats 4000000 in
set_option maxRecDepth 100000 in
theorem m_X11_mark {l : Launch} {w : Wp} {v1 : Int32} {v2 : Int32}  {s0 : St} {z : Int32 × St} (h : Q_mark v1 v2 s0 = some z) : Cm l yX11_mark (.code yX11_mark cX11_mark 3 (some .int)) 4 WC w [.ref (wa w 0 0), .int v1, .int v2] s0 (some (.int z.1)) z.2 := by
  refine Cm.of (own := RX11) (by decide +kernel) rfl (Nat.le_of_ble_eq_true rfl) (L := [(0, .ref (wa w 0 0)), (1, .int v1), (2, .int v2)]) rfl KoC (fun x hl C => ?_)
  subst hl
  unfold Q_mark at h
  refine r_iload_n C dX11_mark_0 rfl 1 rfl ?_
  refine r_aload_n C dX11_mark_1 rfl 0 rfl ?_
  refine gfX11_33 C dX11_mark_2 ?_
  refine gfX11_292 C dX11_mark_5 ?_
  refine kX11_64 C (m_X11_within rfl) (by decide) (Nat.le_of_ble_eq_true rfl) dX11_mark_8 ?_
  refine r_if_eq (tgt := 27) C dX11_mark_11 (by decide) (fun c_1 => ?_) (fun c_1 => ?_)
  · have h := ip h c_1
    refine r_iconst (v := (-1)) C dX11_mark_27 (by decide) ?_
    cases h
    exact r_iret C dX11_mark_28
  · have h := iq h c_1
    refine r_iload_n C dX11_mark_14 rfl 2 rfl ?_
    refine r_bipush (v := 7) C dX11_mark_15 (by decide) ?_
    refine kX11_64 C (m_X11_within rfl) (by decide) (Nat.le_of_ble_eq_true rfl) dX11_mark_17 ?_
    refine r_if_eq (tgt := 27) C dX11_mark_20 (by decide) (fun c_2 => ?_) (fun c_2 => ?_)
    · have h := ip h c_2
      refine r_iconst (v := (-1)) C dX11_mark_27 (by decide) ?_
      cases h
      exact r_iret C dX11_mark_28
    · have h := iq h c_2
      refine r_iload_n C dX11_mark_23 rfl 2 rfl ?_
      refine r_if_ne (tgt := 29) C dX11_mark_24 (by decide) (fun c_3 => ?_) (fun c_3 => ?_)
      · have h := iq h c_3
        refine r_aload_n C dX11_mark_29 rfl 0 rfl ?_
        refine gfX11_33 C dX11_mark_30 ?_
        refine gfX11_298 C dX11_mark_33 ?_
        refine r_iload_n C dX11_mark_36 rfl 1 rfl ?_
        obtain ⟨g_4, h⟩ := gdE h
        refine la_17 C g_4 dX11_mark_37 ?_
        refine gfX11_305 C (inb_lt g_4) dX11_mark_38 ?_
        refine r_iload_n C dX11_mark_41 rfl 2 rfl ?_
        refine r_icmp_eq (tgt := 51) C dX11_mark_42 (by decide) (fun c_5 => ?_) (fun c_5 => ?_)
        · have h := ip h c_5
          refine r_aload_n C dX11_mark_51 rfl 0 rfl ?_
          refine gfX11_33 C dX11_mark_52 ?_
          refine r_aload_n C dX11_mark_55 rfl 0 rfl ?_
          refine gfX11_33 C dX11_mark_56 ?_
          refine gfX11_298 C dX11_mark_59 ?_
          refine r_iload_n C dX11_mark_62 rfl 1 rfl ?_
          obtain ⟨g_6, h⟩ := gdE h
          refine la_17 C g_6 dX11_mark_63 ?_
          refine r_aload_n C dX11_mark_64 rfl 0 rfl ?_
          refine gfX11_24 C dX11_mark_65 ?_
          obtain ⟨r_7, er_7, h⟩ := bdE h
          refine kX11_188 C (m_X1_settled er_7) (by decide) (Nat.le_of_ble_eq_true rfl) dX11_mark_68 ?_
          obtain ⟨r_8, er_8, h⟩ := bdE h
          refine kX11_308 C (m_X6_markOf (inb_lt g_6) er_8) (by decide) (Nat.le_of_ble_eq_true rfl) dX11_mark_71 ?_
          cases h
          exact r_iret C dX11_mark_74
        · have h := iq h c_5
          refine r_aload_n C dX11_mark_45 rfl 0 rfl ?_
          refine r_iconst (v := 3) C dX11_mark_46 (by decide) ?_
          obtain ⟨r_9, er_9, h⟩ := bdE h
          refine kX11_68 C (m_X11_refuse er_9) (by decide) (Nat.le_of_ble_eq_true rfl) dX11_mark_47 ?_
          cases h
          exact r_iret C dX11_mark_50
      · have h := ip h c_3
        refine r_iconst (v := (-1)) C dX11_mark_27 (by decide) ?_
        cases h
        exact r_iret C dX11_mark_28
