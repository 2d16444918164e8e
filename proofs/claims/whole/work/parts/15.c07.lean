def Q_sayings_L49 (K92 : St → Option (Int32 × St)) (K104 : St → Option (Int32 × St)) (v1_6 : Int32) (v2_7 : Int32) (n4_8 : Nat) : Nat → Int32 → St → Option (Int32 × St)
  | 0, _, _ => none
  | n + 1, v5_9, s_10 => if (s_10.1 18 n4_8 1) ≤ v5_9 then (K104 s_10) else (if inb v5_9 40 = true then if (s_10.1 19 n4_8 v5_9.toNatClampNeg) = ((s_10.1 19 n4_8 v5_9.toNatClampNeg).toInt8.toInt32) then (if (Bk_hasCase ((s_10.1 19 n4_8 v5_9.toNatClampNeg) &&& 15) s_10) = 0 then (K92 s_10) else ((Q_sayings_L49 K92 K104 v1_6 v2_7 n4_8 n) (v5_9 + 1) s_10)) else (K92 s_10) else none)
def Q_sayings_J92    (s_18 : St) : Option (Int32 × St) :=
  Option.bind (Q_refuse 3 s_18) (fun r_19 => some (r_19.1, r_19.2))
def Q_sayings_L126  (v1_23 : Int32) (v2_24 : Int32) (n4_25 : Nat) : Nat → Int32 → St → Option (Int32 × St)
  | 0, _, _ => none
  | n + 1, v5_26, s_27 => if (s_27.1 18 n4_25 1) ≤ v5_26 then (some (s_27.1 18 n4_25 1, s_27)) else (if inb v5_26 40 = true then Option.bind (Bk_addSaying v1_23 ((s_27.1 19 n4_25 v5_26.toNatClampNeg) &&& 15) v2_24 (((s_27.1 19 n4_25 v5_26.toNatClampNeg) >>> (4 &&& 31)) &&& 1) (-9) s_27) (fun r_30 => (Q_sayings_L126 v1_23 v2_24 n4_25 n) (v5_26 + 1) r_30.2) else none)
def Q_sayings (v1 : Int32) (v2 : Int32) (v3 : Int32) (s0 : St) : Option (Int32 × St) :=
  Option.bind (Bk_hasYear v1 v2 s0) (fun r_1 => if r_1 = 0 then (some ((-1), s0)) else (if (Q_within v3 6) = 0 then (some ((-1), s0)) else (if inb v3 6 = true then if (s0.1 18 v3.toNatClampNeg 1) = (-1) then (Option.bind (Q_refuse 1 s0) (fun r_31 => some (r_31.1, r_31.2))) else (Q_sayings_L49 (fun (s_17 : St) => Q_sayings_J92 s_17) (fun (s_20 : St) => Option.bind (Bk_hasRoom v1 (s_20.1 18 v3.toNatClampNeg 1) s_20) (fun r_21 => if r_21 = 0 then (some ((-2), s_20)) else (Q_sayings_L126 v1 v2 v3.toNatClampNeg 1100 0 s_20))) v1 v2 v3.toNatClampNeg 1100 0 s0) else none)))
set_option maxHeartbeats 4000000 in
set_option maxRecDepth 100000 in
theorem t_X11_sayings_L49 {x : Ctx} {w : Wp} {v1_6 : Int32} {v2_7 : Int32} {n4_8 : Nat} {z : Int32 × St} (hn4_8 : n4_8 < 6) {K92 : St → Option (Int32 × St)} {K104 : St → Option (Int32 × St)} (hK92 : ∀ (s_15 : St), K92 s_15 = some z → V x WC w 7 (QM x WC w (some (.int z.1)) z.2) s_15 92 [(0, .ref (wa w 0 0))] []) (hK104 : ∀ (s_16 : St), K104 s_16 = some z → V x WC w 7 (QM x WC w (some (.int z.1)) z.2) s_16 104 [(0, .ref (wa w 0 0)), (1, .int v1_6), (2, .int v2_7), (4, .ref (wa w 18 n4_8))] []) (C : Cx x WC w cX11_sayings 7 RX11 3 (some .int)) : ∀ (n : Nat) (v5_9 : Int32) (s_10 : St), Q_sayings_L49 K92 K104 v1_6 v2_7 n4_8 n v5_9 s_10 = some z → V x WC w 7 (QM x WC w (some (.int z.1)) z.2) s_10 49 [(0, .ref (wa w 0 0)), (1, .int v1_6), (2, .int v2_7), (4, .ref (wa w 18 n4_8)), (5, .int v5_9)] [] := by
  intro n
  induction n with
  | zero => intro v5_9 s_10 h; cases h
  | succ n ih =>
    intro v5_9 s_10 h
    unfold Q_sayings_L49 at h
    refine r_iload C dX11_sayings_49 4 rfl ?_
    refine r_aload C dX11_sayings_51 3 rfl ?_
    refine gfX11_76 C hn4_8 dX11_sayings_53 ?_
    refine r_icmp_ge (tgt := 104) C dX11_sayings_56 (by decide) (fun c_11 => ?_) (fun c_11 => ?_)
    · have h := ip h c_11
      refine r_sub [0, 1, 2, 3] rfl ?_
      exact hK104 _ h
    · have h := iq h c_11
      refine r_aload C dX11_sayings_59 3 rfl ?_
      refine gfX11_79 C hn4_8 dX11_sayings_61 ?_
      refine r_iload C dX11_sayings_64 4 rfl ?_
      obtain ⟨g_12, h⟩ := gdE h
      refine ldC_19 C hn4_8 g_12 dX11_sayings_66 ?_
      refine r_istore C dX11_sayings_67 (Nat.le_of_ble_eq_true rfl) (L' := [(6, _), (0, _), (1, _), (2, _), (4, _), (5, _)]) rfl ?_
      refine r_iload C dX11_sayings_69 0 rfl ?_
      refine r_iload C dX11_sayings_71 0 rfl ?_
      refine r_i2b C dX11_sayings_73 ?_
      refine r_icmp_ne (tgt := 92) C dX11_sayings_74 (by decide) (fun c_13 => ?_) (fun c_13 => ?_)
      · have h := iq h c_13
        refine r_sub [1] rfl ?_
        exact hK92 _ h
      · have h := ip h c_13
        refine r_aload_n C dX11_sayings_77 rfl 1 rfl ?_
        refine gfX11_24 C dX11_sayings_78 ?_
        refine r_iload C dX11_sayings_81 0 rfl ?_
        refine r_bipush (v := 15) C dX11_sayings_83 (by decide) ?_
        refine r_iand C dX11_sayings_85 ?_
        refine kX11_125 C (m_X1_hasCase rfl) (by decide) (Nat.le_of_ble_eq_true rfl) dX11_sayings_86 ?_
        refine r_if_ne (tgt := 98) C dX11_sayings_89 (by decide) (fun c_14 => ?_) (fun c_14 => ?_)
        · have h := iq h c_14
          refine r_iinc (v := v5_9 + 1) C dX11_sayings_98 (j := 5) rfl rfl (Nat.le_of_ble_eq_true rfl) (L' := [(5, _), (6, _), (0, _), (1, _), (2, _), (4, _)]) rfl ?_
          refine r_goto (tgt := 49) C dX11_sayings_101 (by decide) ?_
          refine r_sub [2, 3, 4, 5, 0] rfl ?_
          exact ih _ _ h
        · have h := ip h c_14
          refine r_sub [1] rfl ?_
          exact hK92 _ h
set_option maxHeartbeats 4000000 in
set_option maxRecDepth 100000 in
theorem t_X11_sayings_J92 {x : Ctx} {w : Wp}   {s_18 : St} {z : Int32 × St}    (C : Cx x WC w cX11_sayings 7 RX11 3 (some .int)) (h : Q_sayings_J92 s_18 = some z) : V x WC w 7 (QM x WC w (some (.int z.1)) z.2) s_18 92 [(0, .ref (wa w 0 0))] [] := by
  unfold Q_sayings_J92 at h
  refine r_aload_n C dX11_sayings_92 rfl 0 rfl ?_
  refine r_iconst (v := 3) C dX11_sayings_93 (by decide) ?_
  obtain ⟨r_19, er_19, h⟩ := bdE h
  refine kX11_68 C (m_X11_refuse er_19) (by decide) (Nat.le_of_ble_eq_true rfl) dX11_sayings_94 ?_
  cases h
  exact r_iret C dX11_sayings_97
set_option maxHeartbeats 4000000 in
set_option maxRecDepth 100000 in
theorem t_X11_sayings_L126 {x : Ctx} {w : Wp} {v1_23 : Int32} {v2_24 : Int32} {n4_25 : Nat} {z : Int32 × St} (hn4_25 : n4_25 < 6)   (C : Cx x WC w cX11_sayings 7 RX11 3 (some .int)) : ∀ (n : Nat) (v5_26 : Int32) (s_27 : St), Q_sayings_L126 v1_23 v2_24 n4_25 n v5_26 s_27 = some z → V x WC w 7 (QM x WC w (some (.int z.1)) z.2) s_27 126 [(0, .ref (wa w 0 0)), (1, .int v1_23), (2, .int v2_24), (4, .ref (wa w 18 n4_25)), (5, .int v5_26)] [] := by
  intro n
  induction n with
  | zero => intro v5_26 s_27 h; cases h
  | succ n ih =>
    intro v5_26 s_27 h
    unfold Q_sayings_L126 at h
    refine r_iload C dX11_sayings_126 4 rfl ?_
    refine r_aload C dX11_sayings_128 3 rfl ?_
    refine gfX11_76 C hn4_25 dX11_sayings_130 ?_
    refine r_icmp_ge (tgt := 175) C dX11_sayings_133 (by decide) (fun c_28 => ?_) (fun c_28 => ?_)
    · have h := ip h c_28
      refine r_aload C dX11_sayings_175 3 rfl ?_
      refine gfX11_76 C hn4_25 dX11_sayings_177 ?_
      cases h
      exact r_iret C dX11_sayings_180
    · have h := iq h c_28
      refine r_aload C dX11_sayings_136 3 rfl ?_
      refine gfX11_79 C hn4_25 dX11_sayings_138 ?_
      refine r_iload C dX11_sayings_141 4 rfl ?_
      obtain ⟨g_29, h⟩ := gdE h
      refine ldC_19 C hn4_25 g_29 dX11_sayings_143 ?_
      refine r_istore C dX11_sayings_144 (Nat.le_of_ble_eq_true rfl) (L' := [(6, _), (0, _), (1, _), (2, _), (4, _), (5, _)]) rfl ?_
      refine r_aload_n C dX11_sayings_146 rfl 1 rfl ?_
      refine gfX11_24 C dX11_sayings_147 ?_
      refine r_iload_n C dX11_sayings_150 rfl 2 rfl ?_
      refine r_iload C dX11_sayings_151 0 rfl ?_
      refine r_bipush (v := 15) C dX11_sayings_153 (by decide) ?_
      refine r_iand C dX11_sayings_155 ?_
      refine r_iload_n C dX11_sayings_156 rfl 3 rfl ?_
      refine r_iload C dX11_sayings_157 0 rfl ?_
      refine r_iconst (v := 4) C dX11_sayings_159 (by decide) ?_
      refine r_ishr C dX11_sayings_160 ?_
      refine r_iconst (v := 1) C dX11_sayings_161 (by decide) ?_
      refine r_iand C dX11_sayings_162 ?_
      refine r_bipush (v := (-9)) C dX11_sayings_163 (by decide) ?_
      obtain ⟨r_30, er_30, h⟩ := bdE h
      refine kX11_131 C (m_X1_addSaying er_30) (by decide) (Nat.le_of_ble_eq_true rfl) dX11_sayings_165 ?_
      refine r_pop C dX11_sayings_168 rfl ?_
      refine r_iinc (v := v5_26 + 1) C dX11_sayings_169 (j := 5) rfl rfl (Nat.le_of_ble_eq_true rfl) (L' := [(5, _), (6, _), (0, _), (1, _), (2, _), (4, _)]) rfl ?_
      refine r_goto (tgt := 126) C dX11_sayings_172 (by decide) ?_
      refine r_sub [2, 3, 4, 5, 0] rfl ?_
      exact ih _ _ h
set_option maxHeartbeats 4000000 in
set_option maxRecDepth 100000 in
theorem m_X11_sayings {l : Launch} {w : Wp} {v1 : Int32} {v2 : Int32} {v3 : Int32}  {s0 : St} {z : Int32 × St} (h : Q_sayings v1 v2 v3 s0 = some z) : Cm l yX11_sayings (.code yX11_sayings cX11_sayings 7 (some .int)) 3 WC w [.ref (wa w 0 0), .int v1, .int v2, .int v3] s0 (some (.int z.1)) z.2 := by
  refine Cm.of (own := RX11) (by decide +kernel) rfl (Nat.le_of_ble_eq_true rfl) (L := [(0, .ref (wa w 0 0)), (1, .int v1), (2, .int v2), (3, .int v3)]) rfl KoC (fun x hl C => ?_)
  subst hl
  unfold Q_sayings at h
  refine r_aload_n C dX11_sayings_0 rfl 0 rfl ?_
  refine gfX11_24 C dX11_sayings_1 ?_
  refine r_iload_n C dX11_sayings_4 rfl 1 rfl ?_
  refine r_iload_n C dX11_sayings_5 rfl 2 rfl ?_
  obtain ⟨r_1, er_1, h⟩ := bdE h
  refine kX11_122 C (m_X1_hasYear er_1) (by decide) (Nat.le_of_ble_eq_true rfl) dX11_sayings_6 ?_
  refine r_if_eq (tgt := 21) C dX11_sayings_9 (by decide) (fun c_2 => ?_) (fun c_2 => ?_)
  · have h := ip h c_2
    refine r_iconst (v := (-1)) C dX11_sayings_21 (by decide) ?_
    cases h
    exact r_iret C dX11_sayings_22
  · have h := iq h c_2
    refine r_iload_n C dX11_sayings_12 rfl 3 rfl ?_
    refine r_bipush (v := 6) C dX11_sayings_13 (by decide) ?_
    refine kX11_64 C (m_X11_within rfl) (by decide) (Nat.le_of_ble_eq_true rfl) dX11_sayings_15 ?_
    refine r_if_ne (tgt := 23) C dX11_sayings_18 (by decide) (fun c_3 => ?_) (fun c_3 => ?_)
    · have h := iq h c_3
      refine r_aload_n C dX11_sayings_23 rfl 0 rfl ?_
      refine gfX11_11 C dX11_sayings_24 ?_
      refine r_iload_n C dX11_sayings_27 rfl 3 rfl ?_
      obtain ⟨g_4, h⟩ := gdE h
      refine la_1 C g_4 dX11_sayings_28 ?_
      refine r_astore C dX11_sayings_29 (Nat.le_of_ble_eq_true rfl) (L' := [(4, _), (0, _), (1, _), (2, _), (3, _)]) rfl ?_
      refine r_aload C dX11_sayings_31 0 rfl ?_
      refine gfX11_76 C (inb_lt g_4) dX11_sayings_33 ?_
      refine r_iconst (v := (-1)) C dX11_sayings_36 (by decide) ?_
      refine r_icmp_ne (tgt := 46) C dX11_sayings_37 (by decide) (fun c_5 => ?_) (fun c_5 => ?_)
      · have h := iq h c_5
        refine r_iconst (v := 0) C dX11_sayings_46 (by decide) ?_
        refine r_istore C dX11_sayings_47 (Nat.le_of_ble_eq_true rfl) (L' := [(5, _), (4, _), (0, _), (1, _), (2, _), (3, _)]) rfl ?_
        refine r_sub [2, 3, 4, 1, 0] rfl ?_
        refine t_X11_sayings_L49 (inb_lt g_4) (fun s_17 h => ?_) (fun s_20 h => ?_) C _ _ _ h
        · refine r_sub [0] rfl ?_
          exact t_X11_sayings_J92 C h
        · refine r_aload_n C dX11_sayings_104 rfl 0 rfl ?_
          refine gfX11_24 C dX11_sayings_105 ?_
          refine r_iload_n C dX11_sayings_108 rfl 1 rfl ?_
          refine r_aload C dX11_sayings_109 3 rfl ?_
          refine gfX11_76 C (inb_lt g_4) dX11_sayings_111 ?_
          obtain ⟨r_21, er_21, h⟩ := bdE h
          refine kX11_128 C (m_X1_hasRoom er_21) (by decide) (Nat.le_of_ble_eq_true rfl) dX11_sayings_114 ?_
          refine r_if_ne (tgt := 123) C dX11_sayings_117 (by decide) (fun c_22 => ?_) (fun c_22 => ?_)
          · have h := iq h c_22
            refine r_iconst (v := 0) C dX11_sayings_123 (by decide) ?_
            refine r_istore C dX11_sayings_124 (Nat.le_of_ble_eq_true rfl) (L' := [(5, _), (0, _), (1, _), (2, _), (4, _)]) rfl ?_
            refine r_sub [1, 2, 3, 4, 0] rfl ?_
            exact t_X11_sayings_L126 (inb_lt g_4) C _ _ _ h
          · have h := ip h c_22
            refine r_bipush (v := (-2)) C dX11_sayings_120 (by decide) ?_
            cases h
            exact r_iret C dX11_sayings_122
      · have h := ip h c_5
        refine r_aload_n C dX11_sayings_40 rfl 1 rfl ?_
        refine r_iconst (v := 1) C dX11_sayings_41 (by decide) ?_
        obtain ⟨r_31, er_31, h⟩ := bdE h
        refine kX11_68 C (m_X11_refuse er_31) (by decide) (Nat.le_of_ble_eq_true rfl) dX11_sayings_42 ?_
        cases h
        exact r_iret C dX11_sayings_45
    · have h := ip h c_3
      refine r_iconst (v := (-1)) C dX11_sayings_21 (by decide) ?_
      cases h
      exact r_iret C dX11_sayings_22
def Q_told (v1 : Int32) (v2 : Int32) (s0 : St) : Option (Int32 × St) :=
  if (Bk_hasSaying v1 s0) = 0 then (some ((-1), s0)) else (if (Q_within v2 5) = 0 then (some ((-1), s0)) else (if inb v1 24 = true then Option.bind (Q_tell (Sy_figure v1.toNatClampNeg v2 s0) 1 s0) (fun r_4 => some (r_4.1, r_4.2)) else none))
set_option maxHeartbeats 4000000 in
set_option maxRecDepth 100000 in
theorem m_X11_told {l : Launch} {w : Wp} {v1 : Int32} {v2 : Int32}  {s0 : St} {z : Int32 × St} (h : Q_told v1 v2 s0 = some z) : Cm l yX11_told (.code yX11_told cX11_told 3 (some .int)) 2 WC w [.ref (wa w 0 0), .int v1, .int v2] s0 (some (.int z.1)) z.2 := by
  refine Cm.of (own := RX11) (by decide +kernel) rfl (Nat.le_of_ble_eq_true rfl) (L := [(0, .ref (wa w 0 0)), (1, .int v1), (2, .int v2)]) rfl KoC (fun x hl C => ?_)
  subst hl
  unfold Q_told at h
  refine r_aload_n C dX11_told_0 rfl 0 rfl ?_
  refine gfX11_24 C dX11_told_1 ?_
  refine r_iload_n C dX11_told_4 rfl 1 rfl ?_
  refine kX11_135 C (m_X1_hasSaying rfl) (by decide) (Nat.le_of_ble_eq_true rfl) dX11_told_5 ?_
  refine r_if_eq (tgt := 19) C dX11_told_8 (by decide) (fun c_1 => ?_) (fun c_1 => ?_)
  · have h := ip h c_1
    refine r_iconst (v := (-1)) C dX11_told_19 (by decide) ?_
    cases h
    exact r_iret C dX11_told_20
  · have h := iq h c_1
    refine r_iload_n C dX11_told_11 rfl 2 rfl ?_
    refine r_iconst (v := 5) C dX11_told_12 (by decide) ?_
    refine kX11_64 C (m_X11_within rfl) (by decide) (Nat.le_of_ble_eq_true rfl) dX11_told_13 ?_
    refine r_if_ne (tgt := 21) C dX11_told_16 (by decide) (fun c_2 => ?_) (fun c_2 => ?_)
    · have h := iq h c_2
      refine r_aload_n C dX11_told_21 rfl 0 rfl ?_
      refine r_aload_n C dX11_told_22 rfl 0 rfl ?_
      refine gfX11_24 C dX11_told_23 ?_
      refine gfX11_138 C dX11_told_26 ?_
      refine r_iload_n C dX11_told_29 rfl 1 rfl ?_
      obtain ⟨g_3, h⟩ := gdE h
      refine la_16 C g_3 dX11_told_30 ?_
      refine r_iload_n C dX11_told_31 rfl 2 rfl ?_
      refine kX11_142 C (inb_lt g_3) (m_X9_figure (inb_lt g_3) rfl) (by decide) (Nat.le_of_ble_eq_true rfl) dX11_told_32 ?_
      refine r_iconst (v := 1) C dX11_told_35 (by decide) ?_
      obtain ⟨r_4, er_4, h⟩ := bdE h
      refine kX11_82 C (m_X11_tell er_4) (by decide) (Nat.le_of_ble_eq_true rfl) dX11_told_36 ?_
      cases h
      exact r_iret C dX11_told_39
    · have h := ip h c_2
      refine r_iconst (v := (-1)) C dX11_told_19 (by decide) ?_
      cases h
      exact r_iret C dX11_told_20
def Q_traits (v1 : Int32) (s0 : St) : Option (Int32) :=
  if (Bk_hasCase v1 s0) = 0 then (some (-1)) else (if inb v1 12 = true then some (s0.1 14 0 v1.toNatClampNeg) else none)
set_option maxHeartbeats 4000000 in
set_option maxRecDepth 100000 in
theorem m_X11_traits {l : Launch} {w : Wp} {v1 : Int32}  {s0 : St} {z : Int32} (h : Q_traits v1 s0 = some z) : Cm l yX11_traits (.code yX11_traits cX11_traits 2 (some .int)) 2 WC w [.ref (wa w 0 0), .int v1] s0 (some (.int z)) s0 := by
  refine Cm.of (own := RX11) (by decide +kernel) rfl (Nat.le_of_ble_eq_true rfl) (L := [(0, .ref (wa w 0 0)), (1, .int v1)]) rfl KoC (fun x hl C => ?_)
  subst hl
  unfold Q_traits at h
  refine r_aload_n C dX11_traits_0 rfl 0 rfl ?_
  refine gfX11_24 C dX11_traits_1 ?_
  refine r_iload_n C dX11_traits_4 rfl 1 rfl ?_
  refine kX11_125 C (m_X1_hasCase rfl) (by decide) (Nat.le_of_ble_eq_true rfl) dX11_traits_5 ?_
  refine r_if_eq (tgt := 23) C dX11_traits_8 (by decide) (fun c_1 => ?_) (fun c_1 => ?_)
  · have h := ip h c_1
    refine r_iconst (v := (-1)) C dX11_traits_23 (by decide) ?_
    cases h
    exact r_iret C dX11_traits_24
  · have h := iq h c_1
    refine r_aload_n C dX11_traits_11 rfl 0 rfl ?_
    refine gfX11_24 C dX11_traits_12 ?_
    refine gfX11_147 C dX11_traits_15 ?_
    refine r_iload_n C dX11_traits_18 rfl 1 rfl ?_
    obtain ⟨g_2, h⟩ := gdE h
    refine ldC_14 C g_2 dX11_traits_19 ?_
    refine r_goto (tgt := 24) C dX11_traits_20 (by decide) ?_
    cases h
    exact r_iret C dX11_traits_24
def Q_life (v1 : Int32) (v2 : Int32) (s0 : St) : Option (Int32 × St) :=
  if (Bk_hasMaster v1 s0) = 0 then (some ((-1), s0)) else (if (Q_within v2 5) = 0 then (some ((-1), s0)) else (Option.bind (Bk_lifeFigure v1 v2 s0) (fun r_3 => Option.bind (Q_tell r_3 1 s0) (fun r_4 => some (r_4.1, r_4.2)))))
set_option maxHeartbeats 4000000 in
set_option maxRecDepth 100000 in
theorem m_X11_life {l : Launch} {w : Wp} {v1 : Int32} {v2 : Int32}  {s0 : St} {z : Int32 × St} (h : Q_life v1 v2 s0 = some z) : Cm l yX11_life (.code yX11_life cX11_life 3 (some .int)) 2 WC w [.ref (wa w 0 0), .int v1, .int v2] s0 (some (.int z.1)) z.2 := by
  refine Cm.of (own := RX11) (by decide +kernel) rfl (Nat.le_of_ble_eq_true rfl) (L := [(0, .ref (wa w 0 0)), (1, .int v1), (2, .int v2)]) rfl KoC (fun x hl C => ?_)
  subst hl
  unfold Q_life at h
  refine r_aload_n C dX11_life_0 rfl 0 rfl ?_
  refine gfX11_24 C dX11_life_1 ?_
  refine r_iload_n C dX11_life_4 rfl 1 rfl ?_
  refine kX11_111 C (m_X1_hasMaster rfl) (by decide) (Nat.le_of_ble_eq_true rfl) dX11_life_5 ?_
  refine r_if_eq (tgt := 19) C dX11_life_8 (by decide) (fun c_1 => ?_) (fun c_1 => ?_)
  · have h := ip h c_1
    refine r_iconst (v := (-1)) C dX11_life_19 (by decide) ?_
    cases h
    exact r_iret C dX11_life_20
  · have h := iq h c_1
    refine r_iload_n C dX11_life_11 rfl 2 rfl ?_
    refine r_iconst (v := 5) C dX11_life_12 (by decide) ?_
    refine kX11_64 C (m_X11_within rfl) (by decide) (Nat.le_of_ble_eq_true rfl) dX11_life_13 ?_
    refine r_if_ne (tgt := 21) C dX11_life_16 (by decide) (fun c_2 => ?_) (fun c_2 => ?_)
    · have h := iq h c_2
      refine r_aload_n C dX11_life_21 rfl 0 rfl ?_
      refine r_aload_n C dX11_life_22 rfl 0 rfl ?_
      refine gfX11_24 C dX11_life_23 ?_
      refine r_iload_n C dX11_life_26 rfl 1 rfl ?_
      refine r_iload_n C dX11_life_27 rfl 2 rfl ?_
      obtain ⟨r_3, er_3, h⟩ := bdE h
      refine kX11_150 C (m_X1_lifeFigure er_3) (by decide) (Nat.le_of_ble_eq_true rfl) dX11_life_28 ?_
      refine r_iconst (v := 1) C dX11_life_31 (by decide) ?_
      obtain ⟨r_4, er_4, h⟩ := bdE h
      refine kX11_82 C (m_X11_tell er_4) (by decide) (Nat.le_of_ble_eq_true rfl) dX11_life_32 ?_
      cases h
      exact r_iret C dX11_life_35
    · have h := ip h c_2
      refine r_iconst (v := (-1)) C dX11_life_19 (by decide) ?_
      cases h
      exact r_iret C dX11_life_20
def Q_fault (v1 : Int32) (s0 : St) : Option (Int32 × St) :=
  if (Q_within v1 4) = 0 then (some ((-1), s0)) else (if inb v1 4 = true then if (s0.1 20 v1.toNatClampNeg 1) = (-1) then (Option.bind (Q_refuse 1 s0) (fun r_6 => some (r_6.1, r_6.2))) else (if inb v1 4 = true then Option.bind (Tx_readRule v1.toNatClampNeg s0) (fun r_5 => some (r_5.1, r_5.2)) else none) else none)
set_option maxHeartbeats 4000000 in
set_option maxRecDepth 100000 in
theorem m_X11_fault {l : Launch} {w : Wp} {v1 : Int32}  {s0 : St} {z : Int32 × St} (h : Q_fault v1 s0 = some z) : Cm l yX11_fault (.code yX11_fault cX11_fault 2 (some .int)) 3 WC w [.ref (wa w 0 0), .int v1] s0 (some (.int z.1)) z.2 := by
  refine Cm.of (own := RX11) (by decide +kernel) rfl (Nat.le_of_ble_eq_true rfl) (L := [(0, .ref (wa w 0 0)), (1, .int v1)]) rfl KoC (fun x hl C => ?_)
  subst hl
  unfold Q_fault at h
  refine r_iload_n C dX11_fault_0 rfl 1 rfl ?_
  refine r_iconst (v := 4) C dX11_fault_1 (by decide) ?_
  refine kX11_64 C (m_X11_within rfl) (by decide) (Nat.le_of_ble_eq_true rfl) dX11_fault_2 ?_
  refine r_if_ne (tgt := 10) C dX11_fault_5 (by decide) (fun c_1 => ?_) (fun c_1 => ?_)
  · have h := iq h c_1
    refine r_aload_n C dX11_fault_10 rfl 0 rfl ?_
    refine gfX11_17 C dX11_fault_11 ?_
    refine r_iload_n C dX11_fault_14 rfl 1 rfl ?_
    obtain ⟨g_2, h⟩ := gdE h
    refine la_2 C g_2 dX11_fault_15 ?_
    refine gfX11_100 C (inb_lt g_2) dX11_fault_16 ?_
    refine r_iconst (v := (-1)) C dX11_fault_19 (by decide) ?_
    refine r_icmp_ne (tgt := 29) C dX11_fault_20 (by decide) (fun c_3 => ?_) (fun c_3 => ?_)
    · have h := iq h c_3
      refine r_aload_n C dX11_fault_29 rfl 0 rfl ?_
      refine gfX11_17 C dX11_fault_30 ?_
      refine r_iload_n C dX11_fault_33 rfl 1 rfl ?_
      obtain ⟨g_4, h⟩ := gdE h
      refine la_2 C g_4 dX11_fault_34 ?_
      obtain ⟨r_5, er_5, h⟩ := bdE h
      refine kX11_153 C (inb_lt g_4) (m_X10_readRule (inb_lt g_4) er_5) (by decide) (Nat.le_of_ble_eq_true rfl) dX11_fault_35 ?_
      cases h
      exact r_iret C dX11_fault_38
    · have h := ip h c_3
      refine r_aload_n C dX11_fault_23 rfl 0 rfl ?_
      refine r_iconst (v := 1) C dX11_fault_24 (by decide) ?_
      obtain ⟨r_6, er_6, h⟩ := bdE h
      refine kX11_68 C (m_X11_refuse er_6) (by decide) (Nat.le_of_ble_eq_true rfl) dX11_fault_25 ?_
      cases h
      exact r_iret C dX11_fault_28
  · have h := ip h c_1
    refine r_iconst (v := (-1)) C dX11_fault_8 (by decide) ?_
    cases h
    exact r_iret C dX11_fault_9
def Q_rule (v1 : Int32) (s0 : St) : Option (Int32 × St) :=
  if (Q_within v1 4) = 0 then (some ((-1), s0)) else (if inb v1 4 = true then if (s0.1 20 v1.toNatClampNeg 1) = (-1) then (Option.bind (Q_refuse 1 s0) (fun r_7 => some (r_7.1, r_7.2))) else (Option.bind (Tx_readRule v1.toNatClampNeg s0) (fun r_4 => some ((if r_4.1 = (-9) then (r_4.2.1 20 v1.toNatClampNeg 2) else (-4) : Int32), r_4.2))) else none)
set_option maxHeartbeats 4000000 in
set_option maxRecDepth 100000 in
theorem m_X11_rule {l : Launch} {w : Wp} {v1 : Int32}  {s0 : St} {z : Int32 × St} (h : Q_rule v1 s0 = some z) : Cm l yX11_rule (.code yX11_rule cX11_rule 3 (some .int)) 3 WC w [.ref (wa w 0 0), .int v1] s0 (some (.int z.1)) z.2 := by
  refine Cm.of (own := RX11) (by decide +kernel) rfl (Nat.le_of_ble_eq_true rfl) (L := [(0, .ref (wa w 0 0)), (1, .int v1)]) rfl KoC (fun x hl C => ?_)
  subst hl
  unfold Q_rule at h
  refine r_iload_n C dX11_rule_0 rfl 1 rfl ?_
  refine r_iconst (v := 4) C dX11_rule_1 (by decide) ?_
  refine kX11_64 C (m_X11_within rfl) (by decide) (Nat.le_of_ble_eq_true rfl) dX11_rule_2 ?_
  refine r_if_ne (tgt := 10) C dX11_rule_5 (by decide) (fun c_1 => ?_) (fun c_1 => ?_)
  · have h := iq h c_1
    refine r_aload_n C dX11_rule_10 rfl 0 rfl ?_
    refine gfX11_17 C dX11_rule_11 ?_
    refine r_iload_n C dX11_rule_14 rfl 1 rfl ?_
    obtain ⟨g_2, h⟩ := gdE h
    refine la_2 C g_2 dX11_rule_15 ?_
    refine r_astore_n C dX11_rule_16 rfl (Nat.le_of_ble_eq_true rfl) (L' := [(2, _), (0, _), (1, _)]) rfl ?_
    refine r_aload_n C dX11_rule_17 rfl 0 rfl ?_
    refine gfX11_100 C (inb_lt g_2) dX11_rule_18 ?_
    refine r_iconst (v := (-1)) C dX11_rule_21 (by decide) ?_
    refine r_icmp_ne (tgt := 31) C dX11_rule_22 (by decide) (fun c_3 => ?_) (fun c_3 => ?_)
    · have h := iq h c_3
      refine r_aload_n C dX11_rule_31 rfl 0 rfl ?_
      obtain ⟨r_4, er_4, h⟩ := bdE h
      refine kX11_153 C (inb_lt g_2) (m_X10_readRule (inb_lt g_2) er_4) (by decide) (Nat.le_of_ble_eq_true rfl) dX11_rule_32 ?_
      refine r_bipush (v := (-9)) C dX11_rule_35 (by decide) ?_
      refine r_em (st := []) 49 ((if r_4.1 = (-9) then (r_4.2.1 20 v1.toNatClampNeg 2) else (-4) : Int32)) (fun hM_6 => ?_) ?_
      · refine r_icmp_ne (tgt := 47) C dX11_rule_37 (by decide) (fun c_5 => ?_) (fun c_5 => ?_)
        · refine r_bipush (v := (-4)) C dX11_rule_47 (by decide) ?_
          exact (em_neg c_5 hM_6)
        · refine r_aload_n C dX11_rule_40 rfl 0 rfl ?_
          refine gfX11_157 C (inb_lt g_2) dX11_rule_41 ?_
          refine r_goto (tgt := 49) C dX11_rule_44 (by decide) ?_
          exact (em_pos c_5 hM_6)
      cases h
      exact r_iret C dX11_rule_49
    · have h := ip h c_3
      refine r_aload_n C dX11_rule_25 rfl 1 rfl ?_
      refine r_iconst (v := 1) C dX11_rule_26 (by decide) ?_
      obtain ⟨r_7, er_7, h⟩ := bdE h
      refine kX11_68 C (m_X11_refuse er_7) (by decide) (Nat.le_of_ble_eq_true rfl) dX11_rule_27 ?_
      cases h
      exact r_iret C dX11_rule_30
  · have h := ip h c_1
    refine r_iconst (v := (-1)) C dX11_rule_8 (by decide) ?_
    cases h
    exact r_iret C dX11_rule_9
def Q_answers (v1 : Int32) (v2 : Int32) (s0 : St) : Option (Int32) :=
  if (Q_within v1 244) = 0 then (some (-1)) else (if (Q_within v2 32) = 0 then (some (-1)) else (Option.bind (Ru_verdict v1 v2 s0) (fun r_3 => some r_3)))
set_option maxHeartbeats 4000000 in
set_option maxRecDepth 100000 in
theorem m_X11_answers {l : Launch} {w : Wp} {v1 : Int32} {v2 : Int32}  {s0 : St} {z : Int32} (h : Q_answers v1 v2 s0 = some z) : Cm l yX11_answers (.code yX11_answers cX11_answers 3 (some .int)) 1 WC w [.ref (wa w 0 0), .int v1, .int v2] s0 (some (.int z)) s0 := by
  refine Cm.of (own := RX11) (by decide +kernel) rfl (Nat.le_of_ble_eq_true rfl) (L := [(0, .ref (wa w 0 0)), (1, .int v1), (2, .int v2)]) rfl KoC (fun x hl C => ?_)
  subst hl
  unfold Q_answers at h
  refine r_iload_n C dX11_answers_0 rfl 1 rfl ?_
  refine r_sipush (v := 244) C dX11_answers_1 (by decide) ?_
  refine kX11_64 C (m_X11_within rfl) (by decide) (Nat.le_of_ble_eq_true rfl) dX11_answers_4 ?_
  refine r_if_eq (tgt := 19) C dX11_answers_7 (by decide) (fun c_1 => ?_) (fun c_1 => ?_)
  · have h := ip h c_1
    refine r_iconst (v := (-1)) C dX11_answers_19 (by decide) ?_
    cases h
    exact r_iret C dX11_answers_20
  · have h := iq h c_1
    refine r_iload_n C dX11_answers_10 rfl 2 rfl ?_
    refine r_bipush (v := 32) C dX11_answers_11 (by decide) ?_
    refine kX11_64 C (m_X11_within rfl) (by decide) (Nat.le_of_ble_eq_true rfl) dX11_answers_13 ?_
    refine r_if_ne (tgt := 21) C dX11_answers_16 (by decide) (fun c_2 => ?_) (fun c_2 => ?_)
    · have h := iq h c_2
      refine r_aload_n C dX11_answers_21 rfl 0 rfl ?_
      refine gfX11_24 C dX11_answers_22 ?_
      refine gfX11_160 C dX11_answers_25 ?_
      refine r_iload_n C dX11_answers_28 rfl 1 rfl ?_
      refine r_iload_n C dX11_answers_29 rfl 2 rfl ?_
      obtain ⟨r_3, er_3, h⟩ := bdE h
      refine kX11_164 C (m_X8_verdict er_3) (by decide) (Nat.le_of_ble_eq_true rfl) dX11_answers_30 ?_
      cases h
      exact r_iret C dX11_answers_33
    · have h := ip h c_2
      refine r_iconst (v := (-1)) C dX11_answers_19 (by decide) ?_
      cases h
      exact r_iret C dX11_answers_20
def Q_fits (v1 : Int32) (v2 : Int32) (s0 : St) : Option (Int32) :=
  if (Bk_hasSaying v1 s0) = 0 then (some (-1)) else (if (Q_within v2 244) = 0 then (some (-1)) else (Option.bind (Bk_strainOf v1 v2 s0) (fun r_3 => some (if r_3 = 0 then 1 else 0 : Int32))))
set_option maxHeartbeats 4000000 in
set_option maxRecDepth 100000 in
theorem m_X11_fits {l : Launch} {w : Wp} {v1 : Int32} {v2 : Int32}  {s0 : St} {z : Int32} (h : Q_fits v1 v2 s0 = some z) : Cm l yX11_fits (.code yX11_fits cX11_fits 3 (some .int)) 3 WC w [.ref (wa w 0 0), .int v1, .int v2] s0 (some (.int z)) s0 := by
  refine Cm.of (own := RX11) (by decide +kernel) rfl (Nat.le_of_ble_eq_true rfl) (L := [(0, .ref (wa w 0 0)), (1, .int v1), (2, .int v2)]) rfl KoC (fun x hl C => ?_)
  subst hl
  unfold Q_fits at h
  refine r_aload_n C dX11_fits_0 rfl 0 rfl ?_
  refine gfX11_24 C dX11_fits_1 ?_
  refine r_iload_n C dX11_fits_4 rfl 1 rfl ?_
  refine kX11_135 C (m_X1_hasSaying rfl) (by decide) (Nat.le_of_ble_eq_true rfl) dX11_fits_5 ?_
  refine r_if_eq (tgt := 21) C dX11_fits_8 (by decide) (fun c_1 => ?_) (fun c_1 => ?_)
  · have h := ip h c_1
    refine r_iconst (v := (-1)) C dX11_fits_21 (by decide) ?_
    cases h
    exact r_iret C dX11_fits_22
  · have h := iq h c_1
    refine r_iload_n C dX11_fits_11 rfl 2 rfl ?_
    refine r_sipush (v := 244) C dX11_fits_12 (by decide) ?_
    refine kX11_64 C (m_X11_within rfl) (by decide) (Nat.le_of_ble_eq_true rfl) dX11_fits_15 ?_
    refine r_if_ne (tgt := 23) C dX11_fits_18 (by decide) (fun c_2 => ?_) (fun c_2 => ?_)
    · have h := iq h c_2
      refine r_aload_n C dX11_fits_23 rfl 0 rfl ?_
      refine gfX11_24 C dX11_fits_24 ?_
      refine r_iload_n C dX11_fits_27 rfl 1 rfl ?_
      refine r_iload_n C dX11_fits_28 rfl 2 rfl ?_
      obtain ⟨r_3, er_3, h⟩ := bdE h
      refine kX11_169 C (m_X1_strainOf er_3) (by decide) (Nat.le_of_ble_eq_true rfl) dX11_fits_29 ?_
      refine r_em (st := []) 40 ((if r_3 = 0 then 1 else 0 : Int32)) (fun hM_5 => ?_) ?_
      · refine r_if_ne (tgt := 39) C dX11_fits_32 (by decide) (fun c_4 => ?_) (fun c_4 => ?_)
        · refine r_iconst (v := 0) C dX11_fits_39 (by decide) ?_
          exact (em_neg c_4 hM_5)
        · refine r_iconst (v := 1) C dX11_fits_35 (by decide) ?_
          refine r_goto (tgt := 40) C dX11_fits_36 (by decide) ?_
          exact (em_pos c_4 hM_5)
      cases h
      exact r_iret C dX11_fits_40
    · have h := ip h c_2
      refine r_iconst (v := (-1)) C dX11_fits_21 (by decide) ?_
      cases h
      exact r_iret C dX11_fits_22
def Q_isPrice (v0 : Int32) : Int32 :=
  (if v0 < 0 then 0 else (if 99 < v0 then 0 else 1) : Int32)
set_option maxHeartbeats 4000000 in
set_option maxRecDepth 100000 in
theorem m_X11_isPrice {l : Launch} {w : Wp} {v0 : Int32}  {s0 : St} {z : Int32} (h : Q_isPrice v0 = z) : Cm l yX11_isPrice (.code yX11_isPrice cX11_isPrice 1 (some .boolean)) 0 WC w [.int v0] s0 (some (.int z)) s0 := by
  refine Cm.of (own := RX11) (by decide +kernel) rfl (Nat.le_of_ble_eq_true rfl) (L := [(0, .int v0)]) rfl KoC (fun x hl C => ?_)
  subst hl
  unfold Q_isPrice at h
  refine r_iload_n C dX11_isPrice_0 rfl 0 rfl ?_
  refine r_em (st := []) 15 ((if v0 < 0 then 0 else (if 99 < v0 then 0 else 1) : Int32)) (fun hM_3 => ?_) ?_
  · refine r_if_lt (tgt := 14) C dX11_isPrice_1 (by decide) (fun c_2 => ?_) (fun c_2 => ?_)
    · refine r_iconst (v := 0) C dX11_isPrice_14 (by decide) ?_
      exact (em_pos c_2 hM_3)
    · refine r_iload_n C dX11_isPrice_4 rfl 0 rfl ?_
      refine r_bipush (v := 99) C dX11_isPrice_5 (by decide) ?_
      refine r_icmp_gt (tgt := 14) C dX11_isPrice_7 (by decide) (fun c_1 => ?_) (fun c_1 => ?_)
      · refine r_iconst (v := 0) C dX11_isPrice_14 (by decide) ?_
        exact (em_pos c_1 (em_neg c_2 hM_3))
      · refine r_iconst (v := 1) C dX11_isPrice_10 (by decide) ?_
        refine r_goto (tgt := 15) C dX11_isPrice_11 (by decide) ?_
        exact (em_neg c_1 (em_neg c_2 hM_3))
  subst h
  exact r_zret C (nb_ite rfl (nb_ite rfl rfl)) dX11_isPrice_15
theorem nb_X11_isPrice {v0 : Int32} : narrow .boolean (.int (Q_isPrice v0)) = .int (Q_isPrice v0) := by
  unfold Q_isPrice
  exact (nb_ite rfl (nb_ite rfl rfl))
def Q_prices (v1 : Int32) (v2 : Int32) (v3 : Int32) (s0 : St) : Option (Int32 × St) :=
  if (Q_isPrice v1) = 0 then (some ((-1), s0)) else (if (Q_isPrice v2) = 0 then (some ((-1), s0)) else (if (Q_isPrice v3) = 0 then (some ((-1), s0)) else (Option.bind (Bk_reprice v1 v2 v3 s0) (fun r_4 => some (1, r_4)))))
set_option maxHeartbeats 4000000 in
set_option maxRecDepth 100000 in
theorem m_X11_prices {l : Launch} {w : Wp} {v1 : Int32} {v2 : Int32} {v3 : Int32}  {s0 : St} {z : Int32 × St} (h : Q_prices v1 v2 v3 s0 = some z) : Cm l yX11_prices (.code yX11_prices cX11_prices 4 (some .int)) 1 WC w [.ref (wa w 0 0), .int v1, .int v2, .int v3] s0 (some (.int z.1)) z.2 := by
  refine Cm.of (own := RX11) (by decide +kernel) rfl (Nat.le_of_ble_eq_true rfl) (L := [(0, .ref (wa w 0 0)), (1, .int v1), (2, .int v2), (3, .int v3)]) rfl KoC (fun x hl C => ?_)
  subst hl
  unfold Q_prices at h
  refine r_iload_n C dX11_prices_0 rfl 1 rfl ?_
  refine kX11_172 C (m_X11_isPrice rfl) (by decide) (Nat.le_of_ble_eq_true rfl) dX11_prices_1 ?_
  refine r_if_eq (tgt := 21) C dX11_prices_4 (by decide) (fun c_1 => ?_) (fun c_1 => ?_)
  · have h := ip h c_1
    refine r_iconst (v := (-1)) C dX11_prices_21 (by decide) ?_
    cases h
    exact r_iret C dX11_prices_22
  · have h := iq h c_1
    refine r_iload_n C dX11_prices_7 rfl 2 rfl ?_
    refine kX11_172 C (m_X11_isPrice rfl) (by decide) (Nat.le_of_ble_eq_true rfl) dX11_prices_8 ?_
    refine r_if_eq (tgt := 21) C dX11_prices_11 (by decide) (fun c_2 => ?_) (fun c_2 => ?_)
    · have h := ip h c_2
      refine r_iconst (v := (-1)) C dX11_prices_21 (by decide) ?_
      cases h
      exact r_iret C dX11_prices_22
    · have h := iq h c_2
      refine r_iload_n C dX11_prices_14 rfl 3 rfl ?_
      refine kX11_172 C (m_X11_isPrice rfl) (by decide) (Nat.le_of_ble_eq_true rfl) dX11_prices_15 ?_
      refine r_if_ne (tgt := 23) C dX11_prices_18 (by decide) (fun c_3 => ?_) (fun c_3 => ?_)
      · have h := iq h c_3
        refine r_aload_n C dX11_prices_23 rfl 0 rfl ?_
        refine gfX11_24 C dX11_prices_24 ?_
        refine r_iload_n C dX11_prices_27 rfl 1 rfl ?_
        refine r_iload_n C dX11_prices_28 rfl 2 rfl ?_
        refine r_iload_n C dX11_prices_29 rfl 3 rfl ?_
        obtain ⟨r_4, er_4, h⟩ := bdE h
        refine kX11_175 C (m_X1_reprice er_4) (by decide) (Nat.le_of_ble_eq_true rfl) dX11_prices_30 ?_
        refine r_iconst (v := 1) C dX11_prices_33 (by decide) ?_
        cases h
        exact r_iret C dX11_prices_34
      · have h := ip h c_3
        refine r_iconst (v := (-1)) C dX11_prices_21 (by decide) ?_
        cases h
        exact r_iret C dX11_prices_22
def Q_costs (v1 : Int32) (v2 : Int32) (s0 : St) : Option (Int32) :=
  if (Bk_hasSaying v1 s0) = 0 then (some (-1)) else (if (Q_within v2 244) = 0 then (some (-1)) else (Option.bind (Bk_strainOf v1 v2 s0) (fun r_3 => some (Bn_sumOf r_3 s0))))
set_option maxHeartbeats 4000000 in
set_option maxRecDepth 100000 in
theorem m_X11_costs {l : Launch} {w : Wp} {v1 : Int32} {v2 : Int32}  {s0 : St} {z : Int32} (h : Q_costs v1 v2 s0 = some z) : Cm l yX11_costs (.code yX11_costs cX11_costs 3 (some .int)) 3 WC w [.ref (wa w 0 0), .int v1, .int v2] s0 (some (.int z)) s0 := by
  refine Cm.of (own := RX11) (by decide +kernel) rfl (Nat.le_of_ble_eq_true rfl) (L := [(0, .ref (wa w 0 0)), (1, .int v1), (2, .int v2)]) rfl KoC (fun x hl C => ?_)
  subst hl
  unfold Q_costs at h
  refine r_aload_n C dX11_costs_0 rfl 0 rfl ?_
  refine gfX11_24 C dX11_costs_1 ?_
  refine r_iload_n C dX11_costs_4 rfl 1 rfl ?_
  refine kX11_135 C (m_X1_hasSaying rfl) (by decide) (Nat.le_of_ble_eq_true rfl) dX11_costs_5 ?_
  refine r_if_eq (tgt := 21) C dX11_costs_8 (by decide) (fun c_1 => ?_) (fun c_1 => ?_)
  · have h := ip h c_1
    refine r_iconst (v := (-1)) C dX11_costs_21 (by decide) ?_
    cases h
    exact r_iret C dX11_costs_22
  · have h := iq h c_1
    refine r_iload_n C dX11_costs_11 rfl 2 rfl ?_
    refine r_sipush (v := 244) C dX11_costs_12 (by decide) ?_
    refine kX11_64 C (m_X11_within rfl) (by decide) (Nat.le_of_ble_eq_true rfl) dX11_costs_15 ?_
    refine r_if_ne (tgt := 23) C dX11_costs_18 (by decide) (fun c_2 => ?_) (fun c_2 => ?_)
    · have h := iq h c_2
      refine r_aload_n C dX11_costs_23 rfl 0 rfl ?_
      refine gfX11_24 C dX11_costs_24 ?_
      refine gfX11_179 C dX11_costs_27 ?_
      refine r_aload_n C dX11_costs_30 rfl 0 rfl ?_
      refine gfX11_24 C dX11_costs_31 ?_
      refine r_iload_n C dX11_costs_34 rfl 1 rfl ?_
      refine r_iload_n C dX11_costs_35 rfl 2 rfl ?_
      obtain ⟨r_3, er_3, h⟩ := bdE h
      refine kX11_169 C (m_X1_strainOf er_3) (by decide) (Nat.le_of_ble_eq_true rfl) dX11_costs_36 ?_
      refine kX11_183 C (m_X0_sumOf rfl) (by decide) (Nat.le_of_ble_eq_true rfl) dX11_costs_39 ?_
      cases h
      exact r_iret C dX11_costs_42
    · have h := ip h c_2
      refine r_iconst (v := (-1)) C dX11_costs_21 (by decide) ?_
      cases h
      exact r_iret C dX11_costs_22
def Q_settle (v1 : Int32) (s0 : St) : Option (Int32 × St) :=
  if (Bk_hasMaster v1 s0) = 0 then (some ((-1), s0)) else (Option.bind (Bk_settled s0) (fun r_2 => if inb v1 8 = true then Option.bind (Q_tell (r_2.1 24 v1.toNatClampNeg 2) (r_2.1 24 v1.toNatClampNeg 1) r_2) (fun r_4 => some (r_4.1, r_4.2)) else none))
set_option maxHeartbeats 4000000 in
set_option maxRecDepth 100000 in
theorem m_X11_settle {l : Launch} {w : Wp} {v1 : Int32}  {s0 : St} {z : Int32 × St} (h : Q_settle v1 s0 = some z) : Cm l yX11_settle (.code yX11_settle cX11_settle 3 (some .int)) 4 WC w [.ref (wa w 0 0), .int v1] s0 (some (.int z.1)) z.2 := by
  refine Cm.of (own := RX11) (by decide +kernel) rfl (Nat.le_of_ble_eq_true rfl) (L := [(0, .ref (wa w 0 0)), (1, .int v1)]) rfl KoC (fun x hl C => ?_)
  subst hl
  unfold Q_settle at h
  refine r_aload_n C dX11_settle_0 rfl 0 rfl ?_
  refine gfX11_24 C dX11_settle_1 ?_
  refine r_iload_n C dX11_settle_4 rfl 1 rfl ?_
  refine kX11_111 C (m_X1_hasMaster rfl) (by decide) (Nat.le_of_ble_eq_true rfl) dX11_settle_5 ?_
  refine r_if_ne (tgt := 13) C dX11_settle_8 (by decide) (fun c_1 => ?_) (fun c_1 => ?_)
  · have h := iq h c_1
    refine r_aload_n C dX11_settle_13 rfl 0 rfl ?_
    refine gfX11_24 C dX11_settle_14 ?_
    obtain ⟨r_2, er_2, h⟩ := bdE h
    refine kX11_188 C (m_X1_settled er_2) (by decide) (Nat.le_of_ble_eq_true rfl) dX11_settle_17 ?_
    refine r_iload_n C dX11_settle_20 rfl 1 rfl ?_
    obtain ⟨g_3, h⟩ := gdE h
    refine la_15 C g_3 dX11_settle_21 ?_
    refine gfX11_192 C (inb_lt g_3) dX11_settle_22 ?_
    refine r_astore_n C dX11_settle_25 rfl (Nat.le_of_ble_eq_true rfl) (L' := [(2, _), (0, _), (1, _)]) rfl ?_
    refine r_aload_n C dX11_settle_26 rfl 1 rfl ?_
    refine r_aload_n C dX11_settle_27 rfl 0 rfl ?_
    refine gfX11_198 C (inb_lt g_3) dX11_settle_28 ?_
    refine r_aload_n C dX11_settle_31 rfl 0 rfl ?_
    refine gfX11_203 C (inb_lt g_3) dX11_settle_32 ?_
    obtain ⟨r_4, er_4, h⟩ := bdE h
    refine kX11_82 C (m_X11_tell er_4) (by decide) (Nat.le_of_ble_eq_true rfl) dX11_settle_35 ?_
    cases h
    exact r_iret C dX11_settle_38
  · have h := ip h c_1
    refine r_iconst (v := (-1)) C dX11_settle_11 (by decide) ?_
    cases h
    exact r_iret C dX11_settle_12
def Q_second (v1 : Int32) (s0 : St) : Option (Int32 × St) :=
  if (Bk_hasMaster v1 s0) = 0 then (some ((-1), s0)) else (Option.bind (Bk_settled s0) (fun r_2 => if inb v1 8 = true then some (r_2.1 24 v1.toNatClampNeg 3, r_2) else none))
set_option maxHeartbeats 4000000 in
set_option maxRecDepth 100000 in
theorem m_X11_second {l : Launch} {w : Wp} {v1 : Int32}  {s0 : St} {z : Int32 × St} (h : Q_second v1 s0 = some z) : Cm l yX11_second (.code yX11_second cX11_second 2 (some .int)) 4 WC w [.ref (wa w 0 0), .int v1] s0 (some (.int z.1)) z.2 := by
  refine Cm.of (own := RX11) (by decide +kernel) rfl (Nat.le_of_ble_eq_true rfl) (L := [(0, .ref (wa w 0 0)), (1, .int v1)]) rfl KoC (fun x hl C => ?_)
  subst hl
  unfold Q_second at h
  refine r_aload_n C dX11_second_0 rfl 0 rfl ?_
  refine gfX11_24 C dX11_second_1 ?_
  refine r_iload_n C dX11_second_4 rfl 1 rfl ?_
  refine kX11_111 C (m_X1_hasMaster rfl) (by decide) (Nat.le_of_ble_eq_true rfl) dX11_second_5 ?_
  refine r_if_eq (tgt := 29) C dX11_second_8 (by decide) (fun c_1 => ?_) (fun c_1 => ?_)
  · have h := ip h c_1
    refine r_iconst (v := (-1)) C dX11_second_29 (by decide) ?_
    cases h
    exact r_iret C dX11_second_30
  · have h := iq h c_1
    refine r_aload_n C dX11_second_11 rfl 0 rfl ?_
    refine gfX11_24 C dX11_second_12 ?_
    obtain ⟨r_2, er_2, h⟩ := bdE h
    refine kX11_188 C (m_X1_settled er_2) (by decide) (Nat.le_of_ble_eq_true rfl) dX11_second_15 ?_
    refine r_iload_n C dX11_second_18 rfl 1 rfl ?_
    obtain ⟨g_3, h⟩ := gdE h
    refine la_15 C g_3 dX11_second_19 ?_
    refine gfX11_192 C (inb_lt g_3) dX11_second_20 ?_
    refine gfX11_205 C (inb_lt g_3) dX11_second_23 ?_
    refine r_goto (tgt := 30) C dX11_second_26 (by decide) ?_
    cases h
    exact r_iret C dX11_second_30
def Q_cheap (v1 : Int32) (s0 : St) : Option (Int32 × St) :=
  if (Bk_hasMaster v1 s0) = 0 then (some ((-1), s0)) else (Option.bind (Bk_settled s0) (fun r_2 => if inb v1 8 = true then Option.bind (Mi_lastCheap v1.toNatClampNeg r_2) (fun r_4 => Option.bind (Q_tell r_4 (r_2.1 24 v1.toNatClampNeg 5) r_2) (fun r_5 => some (r_5.1, r_5.2))) else none))
set_option maxHeartbeats 4000000 in
set_option maxRecDepth 100000 in
theorem m_X11_cheap {l : Launch} {w : Wp} {v1 : Int32}  {s0 : St} {z : Int32 × St} (h : Q_cheap v1 s0 = some z) : Cm l yX11_cheap (.code yX11_cheap cX11_cheap 3 (some .int)) 4 WC w [.ref (wa w 0 0), .int v1] s0 (some (.int z.1)) z.2 := by
  refine Cm.of (own := RX11) (by decide +kernel) rfl (Nat.le_of_ble_eq_true rfl) (L := [(0, .ref (wa w 0 0)), (1, .int v1)]) rfl KoC (fun x hl C => ?_)
  subst hl
  unfold Q_cheap at h
  refine r_aload_n C dX11_cheap_0 rfl 0 rfl ?_
  refine gfX11_24 C dX11_cheap_1 ?_
  refine r_iload_n C dX11_cheap_4 rfl 1 rfl ?_
  refine kX11_111 C (m_X1_hasMaster rfl) (by decide) (Nat.le_of_ble_eq_true rfl) dX11_cheap_5 ?_
  refine r_if_ne (tgt := 13) C dX11_cheap_8 (by decide) (fun c_1 => ?_) (fun c_1 => ?_)
  · have h := iq h c_1
    refine r_aload_n C dX11_cheap_13 rfl 0 rfl ?_
    refine gfX11_24 C dX11_cheap_14 ?_
    obtain ⟨r_2, er_2, h⟩ := bdE h
    refine kX11_188 C (m_X1_settled er_2) (by decide) (Nat.le_of_ble_eq_true rfl) dX11_cheap_17 ?_
    refine r_iload_n C dX11_cheap_20 rfl 1 rfl ?_
    obtain ⟨g_3, h⟩ := gdE h
    refine la_15 C g_3 dX11_cheap_21 ?_
    refine gfX11_192 C (inb_lt g_3) dX11_cheap_22 ?_
    refine r_astore_n C dX11_cheap_25 rfl (Nat.le_of_ble_eq_true rfl) (L' := [(2, _), (0, _), (1, _)]) rfl ?_
    refine r_aload_n C dX11_cheap_26 rfl 1 rfl ?_
    refine r_aload_n C dX11_cheap_27 rfl 0 rfl ?_
    obtain ⟨r_4, er_4, h⟩ := bdE h
    refine kX11_208 C (inb_lt g_3) (m_X4_lastCheap (inb_lt g_3) er_4) (by decide) (Nat.le_of_ble_eq_true rfl) dX11_cheap_28 ?_
    refine r_aload_n C dX11_cheap_31 rfl 0 rfl ?_
    refine gfX11_211 C (inb_lt g_3) dX11_cheap_32 ?_
    obtain ⟨r_5, er_5, h⟩ := bdE h
    refine kX11_82 C (m_X11_tell er_5) (by decide) (Nat.le_of_ble_eq_true rfl) dX11_cheap_35 ?_
    cases h
    exact r_iret C dX11_cheap_38
  · have h := ip h c_1
    refine r_iconst (v := (-1)) C dX11_cheap_11 (by decide) ?_
    cases h
    exact r_iret C dX11_cheap_12
def Q_cheapAt (v1 : Int32) (v2 : Int32) (s0 : St) : Option (Int32 × St) :=
  if (Bk_hasMaster v1 s0) = 0 then (some ((-1), s0)) else (if 0 ≤ v2 then (Option.bind (Bk_settled s0) (fun r_3 => if inb v1 8 = true then if (r_3.1 24 v1.toNatClampNeg 5) ≤ v2 then (some ((-9), r_3)) else (if inb v2 244 = true then some (r_3.1 25 v1.toNatClampNeg v2.toNatClampNeg, r_3) else none) else none)) else (some ((-1), s0)))
set_option maxHeartbeats 4000000 in
set_option maxRecDepth 100000 in
theorem m_X11_cheapAt {l : Launch} {w : Wp} {v1 : Int32} {v2 : Int32}  {s0 : St} {z : Int32 × St} (h : Q_cheapAt v1 v2 s0 = some z) : Cm l yX11_cheapAt (.code yX11_cheapAt cX11_cheapAt 4 (some .int)) 4 WC w [.ref (wa w 0 0), .int v1, .int v2] s0 (some (.int z.1)) z.2 := by
  refine Cm.of (own := RX11) (by decide +kernel) rfl (Nat.le_of_ble_eq_true rfl) (L := [(0, .ref (wa w 0 0)), (1, .int v1), (2, .int v2)]) rfl KoC (fun x hl C => ?_)
  subst hl
  unfold Q_cheapAt at h
  refine r_aload_n C dX11_cheapAt_0 rfl 0 rfl ?_
  refine gfX11_24 C dX11_cheapAt_1 ?_
  refine r_iload_n C dX11_cheapAt_4 rfl 1 rfl ?_
  refine kX11_111 C (m_X1_hasMaster rfl) (by decide) (Nat.le_of_ble_eq_true rfl) dX11_cheapAt_5 ?_
  refine r_if_eq (tgt := 15) C dX11_cheapAt_8 (by decide) (fun c_1 => ?_) (fun c_1 => ?_)
  · have h := ip h c_1
    refine r_iconst (v := (-1)) C dX11_cheapAt_15 (by decide) ?_
    cases h
    exact r_iret C dX11_cheapAt_16
  · have h := iq h c_1
    refine r_iload_n C dX11_cheapAt_11 rfl 2 rfl ?_
    refine r_if_ge (tgt := 17) C dX11_cheapAt_12 (by decide) (fun c_2 => ?_) (fun c_2 => ?_)
    · have h := ip h c_2
      refine r_aload_n C dX11_cheapAt_17 rfl 0 rfl ?_
      refine gfX11_24 C dX11_cheapAt_18 ?_
      obtain ⟨r_3, er_3, h⟩ := bdE h
      refine kX11_188 C (m_X1_settled er_3) (by decide) (Nat.le_of_ble_eq_true rfl) dX11_cheapAt_21 ?_
      refine r_iload_n C dX11_cheapAt_24 rfl 1 rfl ?_
      obtain ⟨g_4, h⟩ := gdE h
      refine la_15 C g_4 dX11_cheapAt_25 ?_
      refine gfX11_192 C (inb_lt g_4) dX11_cheapAt_26 ?_
      refine r_astore_n C dX11_cheapAt_29 rfl (Nat.le_of_ble_eq_true rfl) (L' := [(3, _), (0, _), (1, _), (2, _)]) rfl ?_
      refine r_iload_n C dX11_cheapAt_30 rfl 3 rfl ?_
      refine r_aload_n C dX11_cheapAt_31 rfl 0 rfl ?_
      refine gfX11_211 C (inb_lt g_4) dX11_cheapAt_32 ?_
      refine r_icmp_ge (tgt := 47) C dX11_cheapAt_35 (by decide) (fun c_5 => ?_) (fun c_5 => ?_)
      · have h := ip h c_5
        refine r_bipush (v := (-9)) C dX11_cheapAt_47 (by decide) ?_
        cases h
        exact r_iret C dX11_cheapAt_49
      · have h := iq h c_5
        refine r_aload_n C dX11_cheapAt_38 rfl 0 rfl ?_
        refine gfX11_214 C (inb_lt g_4) dX11_cheapAt_39 ?_
        refine r_iload_n C dX11_cheapAt_42 rfl 3 rfl ?_
        obtain ⟨g_6, h⟩ := gdE h
        refine ldC_25 C (inb_lt g_4) g_6 dX11_cheapAt_43 ?_
        refine r_goto (tgt := 49) C dX11_cheapAt_44 (by decide) ?_
        cases h
        exact r_iret C dX11_cheapAt_49
    · have h := iq h c_2
      refine r_iconst (v := (-1)) C dX11_cheapAt_15 (by decide) ?_
      cases h
      exact r_iret C dX11_cheapAt_16
def Q_all_L12   : Nat → Int32 → Int32 → St → Option (Int32 × St)
  | 0, _, _, _ => none
  | n + 1, v2_2, v3_3, s_4 => if (s_4.1 3 0 5) ≤ v3_3 then (some (v2_2, s_4)) else (if inb v3_3 8 = true then (Q_all_L12 n) (v2_2 + (s_4.1 24 v3_3.toNatClampNeg 1)) (v3_3 + 1) s_4 else none)
def Q_all  (s0 : St) : Option (Int32 × St) :=
  Option.bind (Bk_settled s0) (fun r_1 => Q_all_L12 1100 0 0 r_1)
set_option maxHeartbeats 4000000 in
set_option maxRecDepth 100000 in
theorem t_X11_all_L12 {x : Ctx} {w : Wp}  {z : Int32 × St}    (C : Cx x WC w cX11_all 4 RX11 4 (some .int)) : ∀ (n : Nat) (v2_2 : Int32) (v3_3 : Int32) (s_4 : St), Q_all_L12 n v2_2 v3_3 s_4 = some z → V x WC w 4 (QM x WC w (some (.int z.1)) z.2) s_4 12 [(0, .ref (wa w 0 0)), (1, .ref (wa w 15 0)), (2, .int v2_2), (3, .int v3_3)] [] := by
  intro n
  induction n with
  | zero => intro v2_2 v3_3 s_4 h; cases h
  | succ n ih =>
    intro v2_2 v3_3 s_4 h
    unfold Q_all_L12 at h
    refine r_iload_n C dX11_all_12 rfl 3 rfl ?_
    refine r_aload_n C dX11_all_13 rfl 0 rfl ?_
    refine gfX11_24 C dX11_all_14 ?_
    refine gfX11_115 C dX11_all_17 ?_
    refine r_icmp_ge (tgt := 41) C dX11_all_20 (by decide) (fun c_5 => ?_) (fun c_5 => ?_)
    · have h := ip h c_5
      refine r_iload_n C dX11_all_41 rfl 2 rfl ?_
      cases h
      exact r_iret C dX11_all_42
    · have h := iq h c_5
      refine r_iload_n C dX11_all_23 rfl 2 rfl ?_
      refine r_aload_n C dX11_all_24 rfl 1 rfl ?_
      refine r_iload_n C dX11_all_25 rfl 3 rfl ?_
      obtain ⟨g_6, h⟩ := gdE h
      refine la_15 C g_6 dX11_all_26 ?_
      refine gfX11_192 C (inb_lt g_6) dX11_all_27 ?_
      refine gfX11_203 C (inb_lt g_6) dX11_all_30 ?_
      refine r_iadd C dX11_all_33 ?_
      refine r_istore_n C dX11_all_34 rfl (Nat.le_of_ble_eq_true rfl) (L' := [(2, _), (0, _), (1, _), (3, _)]) rfl ?_
      refine r_iinc (v := v3_3 + 1) C dX11_all_35 (j := 3) rfl rfl (Nat.le_of_ble_eq_true rfl) (L' := [(3, _), (2, _), (0, _), (1, _)]) rfl ?_
      refine r_goto (tgt := 12) C dX11_all_38 (by decide) ?_
      refine r_sub [2, 3, 1, 0] rfl ?_
      exact ih _ _ _ h
set_option maxHeartbeats 4000000 in
set_option maxRecDepth 100000 in
theorem m_X11_all {l : Launch} {w : Wp}   {s0 : St} {z : Int32 × St} (h : Q_all s0 = some z) : Cm l yX11_all (.code yX11_all cX11_all 4 (some .int)) 4 WC w [.ref (wa w 0 0)] s0 (some (.int z.1)) z.2 := by
  refine Cm.of (own := RX11) (by decide +kernel) rfl (Nat.le_of_ble_eq_true rfl) (L := [(0, .ref (wa w 0 0))]) rfl KoC (fun x hl C => ?_)
  subst hl
  unfold Q_all at h
  refine r_aload_n C dX11_all_0 rfl 0 rfl ?_
  refine gfX11_24 C dX11_all_1 ?_
  obtain ⟨r_1, er_1, h⟩ := bdE h
  refine kX11_188 C (m_X1_settled er_1) (by decide) (Nat.le_of_ble_eq_true rfl) dX11_all_4 ?_
  refine r_astore_n C dX11_all_7 rfl (Nat.le_of_ble_eq_true rfl) (L' := [(1, _), (0, _)]) rfl ?_
  refine r_iconst (v := 0) C dX11_all_8 (by decide) ?_
  refine r_istore_n C dX11_all_9 rfl (Nat.le_of_ble_eq_true rfl) (L' := [(2, _), (1, _), (0, _)]) rfl ?_
  refine r_iconst (v := 0) C dX11_all_10 (by decide) ?_
  refine r_istore_n C dX11_all_11 rfl (Nat.le_of_ble_eq_true rfl) (L' := [(3, _), (2, _), (1, _), (0, _)]) rfl ?_
  refine r_sub [3, 2, 1, 0] rfl ?_
  exact t_X11_all_L12 C _ _ _ _ h
def Q_against (v1 : Int32) (s0 : St) : Option (Int32 × St) :=
  if (Bk_hasSaying v1 s0) = 0 then (some ((-1), s0)) else (Option.bind (Bk_settled s0) (fun r_2 => Option.bind (Bk_opponents v1 r_2) (fun r_3 => some (r_3, r_2))))
set_option maxHeartbeats 4000000 in
set_option maxRecDepth 100000 in
theorem m_X11_against {l : Launch} {w : Wp} {v1 : Int32}  {s0 : St} {z : Int32 × St} (h : Q_against v1 s0 = some z) : Cm l yX11_against (.code yX11_against cX11_against 2 (some .int)) 4 WC w [.ref (wa w 0 0), .int v1] s0 (some (.int z.1)) z.2 := by
  refine Cm.of (own := RX11) (by decide +kernel) rfl (Nat.le_of_ble_eq_true rfl) (L := [(0, .ref (wa w 0 0)), (1, .int v1)]) rfl KoC (fun x hl C => ?_)
  subst hl
  unfold Q_against at h
  refine r_aload_n C dX11_against_0 rfl 0 rfl ?_
  refine gfX11_24 C dX11_against_1 ?_
  refine r_iload_n C dX11_against_4 rfl 1 rfl ?_
  refine kX11_135 C (m_X1_hasSaying rfl) (by decide) (Nat.le_of_ble_eq_true rfl) dX11_against_5 ?_
  refine r_if_eq (tgt := 29) C dX11_against_8 (by decide) (fun c_1 => ?_) (fun c_1 => ?_)
  · have h := ip h c_1
    refine r_iconst (v := (-1)) C dX11_against_29 (by decide) ?_
    cases h
    exact r_iret C dX11_against_30
  · have h := iq h c_1
    refine r_aload_n C dX11_against_11 rfl 0 rfl ?_
    refine gfX11_24 C dX11_against_12 ?_
    refine r_iload_n C dX11_against_15 rfl 1 rfl ?_
    refine r_aload_n C dX11_against_16 rfl 0 rfl ?_
    refine gfX11_24 C dX11_against_17 ?_
    obtain ⟨r_2, er_2, h⟩ := bdE h
    refine kX11_188 C (m_X1_settled er_2) (by decide) (Nat.le_of_ble_eq_true rfl) dX11_against_20 ?_
    obtain ⟨r_3, er_3, h⟩ := bdE h
    refine kX11_217 C (m_X1_opponents er_3) (by decide) (Nat.le_of_ble_eq_true rfl) dX11_against_23 ?_
    refine r_goto (tgt := 30) C dX11_against_26 (by decide) ?_
    cases h
    exact r_iret C dX11_against_30
def Q_nobody_J54 (B16 : Int32 → Int32 → Int32 → St → Option (Int32 × St)) (v2_14 : Int32) (v3_15 : Int32) (v4_16 : Int32)  (s_17 : St) : Option (Int32 × St) :=
  B16 v2_14 v3_15 (v4_16 + 1) s_17
def Q_nobody_J51 (B16 : Int32 → Int32 → Int32 → St → Option (Int32 × St)) (v2_10 : Int32) (v3_11 : Int32) (v4_12 : Int32)  (s_13 : St) : Option (Int32 × St) :=
  Q_nobody_J54 B16 v2_10 (v3_11 + 1) v4_12 s_13
def Q_nobody_L16 (K60 : Int32 → Int32 → St → Option (Int32 × St))  : Nat → Int32 → Int32 → Int32 → St → Option (Int32 × St)
  | 0, _, _, _, _ => none
  | n + 1, v2_2, v3_3, v4_4, s_5 => if (s_5.1 3 0 7) ≤ v4_4 then (K60 v2_2 v3_3 s_5) else (Option.bind (Bk_opponents v4_4 s_5) (fun r_7 => if r_7 = 0 then (if v3_3 = 0 then (Q_nobody_J51 (Q_nobody_L16 K60 n) v4_4 v3_3 v4_4 s_5) else (Q_nobody_J51 (Q_nobody_L16 K60 n) v2_2 v3_3 v4_4 s_5)) else (Q_nobody_J54 (Q_nobody_L16 K60 n) v2_2 v3_3 v4_4 s_5)))
def Q_nobody  (s0 : St) : Option (Int32 × St) :=
  Option.bind (Bk_settled s0) (fun r_1 => Q_nobody_L16 (fun (v2_29 : Int32) (v3_30 : Int32) (s_31 : St) => Option.bind (Q_tell v2_29 v3_30 s_31) (fun r_32 => some (r_32.1, r_32.2))) 1100 (-9) 0 0 r_1)
set_option maxHeartbeats 4000000 in
set_option maxRecDepth 100000 in
theorem t_X11_nobody_J54 {x : Ctx} {w : Wp} {v2_14 : Int32} {v3_15 : Int32} {v4_16 : Int32}  {s_17 : St} {z : Int32 × St}  {B16 : Int32 → Int32 → Int32 → St → Option (Int32 × St)} (hB16 : ∀ (u2_18 : Int32) (u3_19 : Int32) (u4_20 : Int32) (s_21 : St), B16 u2_18 u3_19 u4_20 s_21 = some z → V x WC w 5 (QM x WC w (some (.int z.1)) z.2) s_21 16 [(0, .ref (wa w 0 0)), (1, .ref (wa w 15 0)), (2, .int u2_18), (3, .int u3_19), (4, .int u4_20)] []) (C : Cx x WC w cX11_nobody 5 RX11 4 (some .int)) (h : Q_nobody_J54 B16 v2_14 v3_15 v4_16 s_17 = some z) : V x WC w 5 (QM x WC w (some (.int z.1)) z.2) s_17 54 [(0, .ref (wa w 0 0)), (1, .ref (wa w 15 0)), (2, .int v2_14), (3, .int v3_15), (4, .int v4_16)] [] := by
  unfold Q_nobody_J54 at h
  refine r_iinc (v := v4_16 + 1) C dX11_nobody_54 (j := 4) rfl rfl (Nat.le_of_ble_eq_true rfl) (L' := [(4, _), (0, _), (1, _), (2, _), (3, _)]) rfl ?_
  refine r_goto (tgt := 16) C dX11_nobody_57 (by decide) ?_
  refine r_sub [1, 2, 3, 4, 0] rfl ?_
  exact hB16 _ _ _ _ h
set_option maxHeartbeats 4000000 in
set_option maxRecDepth 100000 in
theorem t_X11_nobody_J51 {x : Ctx} {w : Wp} {v2_10 : Int32} {v3_11 : Int32} {v4_12 : Int32}  {s_13 : St} {z : Int32 × St}  {B16 : Int32 → Int32 → Int32 → St → Option (Int32 × St)} (hB16 : ∀ (u2_22 : Int32) (u3_23 : Int32) (u4_24 : Int32) (s_25 : St), B16 u2_22 u3_23 u4_24 s_25 = some z → V x WC w 5 (QM x WC w (some (.int z.1)) z.2) s_25 16 [(0, .ref (wa w 0 0)), (1, .ref (wa w 15 0)), (2, .int u2_22), (3, .int u3_23), (4, .int u4_24)] []) (C : Cx x WC w cX11_nobody 5 RX11 4 (some .int)) (h : Q_nobody_J51 B16 v2_10 v3_11 v4_12 s_13 = some z) : V x WC w 5 (QM x WC w (some (.int z.1)) z.2) s_13 51 [(0, .ref (wa w 0 0)), (1, .ref (wa w 15 0)), (2, .int v2_10), (3, .int v3_11), (4, .int v4_12)] [] := by
  unfold Q_nobody_J51 at h
  refine r_iinc (v := v3_11 + 1) C dX11_nobody_51 (j := 3) rfl rfl (Nat.le_of_ble_eq_true rfl) (L' := [(3, _), (0, _), (1, _), (2, _), (4, _)]) rfl ?_
  refine r_sub [1, 2, 3, 0, 4] rfl ?_
  exact t_X11_nobody_J54 hB16 C h
set_option maxHeartbeats 4000000 in
set_option maxRecDepth 100000 in
theorem t_X11_nobody_L16 {x : Ctx} {w : Wp}  {z : Int32 × St}  {K60 : Int32 → Int32 → St → Option (Int32 × St)} (hK60 : ∀ (u2_26 : Int32) (u3_27 : Int32) (s_28 : St), K60 u2_26 u3_27 s_28 = some z → V x WC w 5 (QM x WC w (some (.int z.1)) z.2) s_28 60 [(0, .ref (wa w 0 0)), (2, .int u2_26), (3, .int u3_27)] []) (C : Cx x WC w cX11_nobody 5 RX11 4 (some .int)) : ∀ (n : Nat) (v2_2 : Int32) (v3_3 : Int32) (v4_4 : Int32) (s_5 : St), Q_nobody_L16 K60 n v2_2 v3_3 v4_4 s_5 = some z → V x WC w 5 (QM x WC w (some (.int z.1)) z.2) s_5 16 [(0, .ref (wa w 0 0)), (1, .ref (wa w 15 0)), (2, .int v2_2), (3, .int v3_3), (4, .int v4_4)] [] := by
  intro n
  induction n with
  | zero => intro v2_2 v3_3 v4_4 s_5 h; cases h
  | succ n ih =>
    intro v2_2 v3_3 v4_4 s_5 h
    unfold Q_nobody_L16 at h
    refine r_iload C dX11_nobody_16 4 rfl ?_
    refine r_aload_n C dX11_nobody_18 rfl 0 rfl ?_
    refine gfX11_24 C dX11_nobody_19 ?_
    refine gfX11_221 C dX11_nobody_22 ?_
    refine r_icmp_ge (tgt := 60) C dX11_nobody_25 (by decide) (fun c_6 => ?_) (fun c_6 => ?_)
    · have h := ip h c_6
      refine r_sub [0, 2, 3] rfl ?_
      exact hK60 _ _ _ h
    · have h := iq h c_6
      refine r_aload_n C dX11_nobody_28 rfl 0 rfl ?_
      refine gfX11_24 C dX11_nobody_29 ?_
      refine r_iload C dX11_nobody_32 4 rfl ?_
      refine r_aload_n C dX11_nobody_34 rfl 1 rfl ?_
      obtain ⟨r_7, er_7, h⟩ := bdE h
      refine kX11_217 C (m_X1_opponents er_7) (by decide) (Nat.le_of_ble_eq_true rfl) dX11_nobody_35 ?_
      refine r_if_eq (tgt := 44) C dX11_nobody_38 (by decide) (fun c_8 => ?_) (fun c_8 => ?_)
      · have h := ip h c_8
        refine r_iload_n C dX11_nobody_44 rfl 3 rfl ?_
        refine r_if_ne (tgt := 51) C dX11_nobody_45 (by decide) (fun c_9 => ?_) (fun c_9 => ?_)
        · have h := iq h c_9
          refine r_sub [0, 1, 2, 3, 4] rfl ?_
          exact t_X11_nobody_J51 ih C h
        · have h := ip h c_9
          refine r_iload C dX11_nobody_48 4 rfl ?_
          refine r_istore_n C dX11_nobody_50 rfl (Nat.le_of_ble_eq_true rfl) (L' := [(2, _), (0, _), (1, _), (3, _), (4, _)]) rfl ?_
          refine r_sub [1, 2, 0, 3, 4] rfl ?_
          exact t_X11_nobody_J51 ih C h
      · have h := iq h c_8
        refine r_goto (tgt := 54) C dX11_nobody_41 (by decide) ?_
        refine r_sub [0, 1, 2, 3, 4] rfl ?_
        exact t_X11_nobody_J54 ih C h
set_option maxHeartbeats 4000000 in
set_option maxRecDepth 100000 in
theorem m_X11_nobody {l : Launch} {w : Wp}   {s0 : St} {z : Int32 × St} (h : Q_nobody s0 = some z) : Cm l yX11_nobody (.code yX11_nobody cX11_nobody 5 (some .int)) 4 WC w [.ref (wa w 0 0)] s0 (some (.int z.1)) z.2 := by
  refine Cm.of (own := RX11) (by decide +kernel) rfl (Nat.le_of_ble_eq_true rfl) (L := [(0, .ref (wa w 0 0))]) rfl KoC (fun x hl C => ?_)
  subst hl
  unfold Q_nobody at h
  refine r_aload_n C dX11_nobody_0 rfl 0 rfl ?_
  refine gfX11_24 C dX11_nobody_1 ?_
  obtain ⟨r_1, er_1, h⟩ := bdE h
  refine kX11_188 C (m_X1_settled er_1) (by decide) (Nat.le_of_ble_eq_true rfl) dX11_nobody_4 ?_
  refine r_astore_n C dX11_nobody_7 rfl (Nat.le_of_ble_eq_true rfl) (L' := [(1, _), (0, _)]) rfl ?_
  refine r_bipush (v := (-9)) C dX11_nobody_8 (by decide) ?_
  refine r_istore_n C dX11_nobody_10 rfl (Nat.le_of_ble_eq_true rfl) (L' := [(2, _), (1, _), (0, _)]) rfl ?_
  refine r_iconst (v := 0) C dX11_nobody_11 (by decide) ?_
  refine r_istore_n C dX11_nobody_12 rfl (Nat.le_of_ble_eq_true rfl) (L' := [(3, _), (2, _), (1, _), (0, _)]) rfl ?_
  refine r_iconst (v := 0) C dX11_nobody_13 (by decide) ?_
  refine r_istore C dX11_nobody_14 (Nat.le_of_ble_eq_true rfl) (L' := [(4, _), (3, _), (2, _), (1, _), (0, _)]) rfl ?_
  refine r_sub [4, 3, 2, 1, 0] rfl ?_
  refine t_X11_nobody_L16 (fun v2_29 v3_30 s_31 h => ?_) C _ _ _ _ _ h
  refine r_aload_n C dX11_nobody_60 rfl 0 rfl ?_
  refine r_iload_n C dX11_nobody_61 rfl 1 rfl ?_
  refine r_iload_n C dX11_nobody_62 rfl 2 rfl ?_
  obtain ⟨r_32, er_32, h⟩ := bdE h
  refine kX11_82 C (m_X11_tell er_32) (by decide) (Nat.le_of_ble_eq_true rfl) dX11_nobody_63 ?_
  cases h
  exact r_iret C dX11_nobody_66
