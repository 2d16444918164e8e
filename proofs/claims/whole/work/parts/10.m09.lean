def M_counts_L62   (s0 : St) : Nat → Int32 → Int32 → Option (Int32)
  | 0, _, _ => none
  | n + 1, v2_6, v3_7 => if (s0.1 0 0 33) ≤ v3_7 then (some v2_6) else (if inb v3_7 40 = true then (M_counts_L62 s0 n) (v2_6 + (if (s0.1 34 0 v3_7.toNatClampNeg) = 1 then 1 else 0 : Int32)) (v3_7 + 1) else none)
def M_counts_L98   (s0 : St) : Nat → Int32 → Int32 → Option (Int32)
  | 0, _, _ => none
  | n + 1, v2_13, v3_14 => if 6 ≤ v3_14 then (some v2_13) else (if inb v3_14 6 = true then (M_counts_L98 s0 n) (v2_13 + (if (s0.1 5 0 v3_14.toNatClampNeg) < 0 then 0 else 1 : Int32)) (v3_14 + 1) else none)
def M_counts_L131   (s0 : St) : Nat → Int32 → Int32 → Option (Int32)
  | 0, _, _ => none
  | n + 1, v2_19, v3_20 => if 4 ≤ v3_20 then (some v2_19) else (if inb v3_20 4 = true then (M_counts_L131 s0 n) (v2_19 + (if (s0.1 8 0 v3_20.toNatClampNeg) < 0 then 0 else 1 : Int32)) (v3_20 + 1) else none)
def M_counts (v1 : Int32) (s0 : St) : Option (Int32) :=
  if v1 = 0 then (some (s0.1 0 0 10)) else (if v1 = 1 then (some (s0.1 0 0 12)) else (if v1 = 2 then (some (s0.1 0 0 16)) else (if v1 = 3 then (some (s0.1 0 0 33)) else (if v1 = 4 then (M_counts_L62 s0 1100 0 0) else (if v1 = 5 then (M_counts_L98 s0 1100 0 0) else (M_counts_L131 s0 1100 0 0))))))
set_option maxHeartbeats 4000000 in
set_option maxRecDepth 100000 in
theorem t_X12_counts_L62 {x : Ctx} {w : Wp}  {s0 : St} {z : Int32}    (C : Cx x WM w cX12_counts 4 RX12 0 (some .int)) : ∀ (n : Nat) (v2_6 : Int32) (v3_7 : Int32), M_counts_L62 s0 n v2_6 v3_7 = some z → V x WM w 4 (QM x WM w (some (.int z)) s0) s0 62 [(0, .ref (wa w 0 0)), (2, .int v2_6), (3, .int v3_7)] [] := by
  intro n
  induction n with
  | zero => intro v2_6 v3_7 h; cases h
  | succ n ih =>
    intro v2_6 v3_7 h
    unfold M_counts_L62 at h
    refine r_iload_n C dX12_counts_62 rfl 2 rfl ?_
    refine r_aload_n C dX12_counts_63 rfl 0 rfl ?_
    refine gfX12_265 C dX12_counts_64 ?_
    refine r_icmp_ge (tgt := 94) C dX12_counts_67 (by decide) (fun c_8 => ?_) (fun c_8 => ?_)
    · have h := ip h c_8
      refine r_iload_n C dX12_counts_94 rfl 1 rfl ?_
      cases h
      exact r_iret C dX12_counts_95
    · have h := iq h c_8
      refine r_iload_n C dX12_counts_70 rfl 1 rfl ?_
      refine r_aload_n C dX12_counts_71 rfl 0 rfl ?_
      refine gfX12_75 C dX12_counts_72 ?_
      refine r_iload_n C dX12_counts_75 rfl 2 rfl ?_
      obtain ⟨g_9, h⟩ := gdE h
      refine ldM_34 C g_9 dX12_counts_76 ?_
      refine r_iconst (v := 1) C dX12_counts_77 (by decide) ?_
      refine r_em (st := [.int v2_6]) 86 ((if (s0.1 34 0 v3_7.toNatClampNeg) = 1 then 1 else 0 : Int32)) (fun hM_11 => ?_) ?_
      · refine r_icmp_ne (tgt := 85) C dX12_counts_78 (by decide) (fun c_10 => ?_) (fun c_10 => ?_)
        · refine r_iconst (v := 0) C dX12_counts_85 (by decide) ?_
          exact (em_neg c_10 hM_11)
        · refine r_iconst (v := 1) C dX12_counts_81 (by decide) ?_
          refine r_goto (tgt := 86) C dX12_counts_82 (by decide) ?_
          exact (em_pos c_10 hM_11)
      refine r_iadd C dX12_counts_86 ?_
      refine r_istore_n C dX12_counts_87 rfl (Nat.le_of_ble_eq_true rfl) (L' := [(2, _), (0, _), (3, _)]) rfl ?_
      refine r_iinc (v := v3_7 + 1) C dX12_counts_88 (j := 2) rfl rfl (Nat.le_of_ble_eq_true rfl) (L' := [(3, _), (2, _), (0, _)]) rfl ?_
      refine r_goto (tgt := 62) C dX12_counts_91 (by decide) ?_
      refine r_sub [2, 1, 0] rfl ?_
      exact ih _ _ h
set_option maxHeartbeats 4000000 in
set_option maxRecDepth 100000 in
theorem t_X12_counts_L98 {x : Ctx} {w : Wp}  {s0 : St} {z : Int32}    (C : Cx x WM w cX12_counts 4 RX12 0 (some .int)) : ∀ (n : Nat) (v2_13 : Int32) (v3_14 : Int32), M_counts_L98 s0 n v2_13 v3_14 = some z → V x WM w 4 (QM x WM w (some (.int z)) s0) s0 98 [(0, .ref (wa w 0 0)), (2, .int v2_13), (3, .int v3_14)] [] := by
  intro n
  induction n with
  | zero => intro v2_13 v3_14 h; cases h
  | succ n ih =>
    intro v2_13 v3_14 h
    unfold M_counts_L98 at h
    refine r_iload_n C dX12_counts_98 rfl 2 rfl ?_
    refine r_bipush (v := 6) C dX12_counts_99 (by decide) ?_
    refine r_icmp_ge (tgt := 127) C dX12_counts_101 (by decide) (fun c_15 => ?_) (fun c_15 => ?_)
    · have h := ip h c_15
      refine r_iload_n C dX12_counts_127 rfl 1 rfl ?_
      cases h
      exact r_iret C dX12_counts_128
    · have h := iq h c_15
      refine r_iload_n C dX12_counts_104 rfl 1 rfl ?_
      refine r_aload_n C dX12_counts_105 rfl 0 rfl ?_
      refine gfX12_17 C dX12_counts_106 ?_
      refine r_iload_n C dX12_counts_109 rfl 2 rfl ?_
      obtain ⟨g_16, h⟩ := gdE h
      refine ldM_5 C g_16 dX12_counts_110 ?_
      refine r_em (st := [.int v2_13]) 119 ((if (s0.1 5 0 v3_14.toNatClampNeg) < 0 then 0 else 1 : Int32)) (fun hM_18 => ?_) ?_
      · refine r_if_lt (tgt := 118) C dX12_counts_111 (by decide) (fun c_17 => ?_) (fun c_17 => ?_)
        · refine r_iconst (v := 0) C dX12_counts_118 (by decide) ?_
          exact (em_pos c_17 hM_18)
        · refine r_iconst (v := 1) C dX12_counts_114 (by decide) ?_
          refine r_goto (tgt := 119) C dX12_counts_115 (by decide) ?_
          exact (em_neg c_17 hM_18)
      refine r_iadd C dX12_counts_119 ?_
      refine r_istore_n C dX12_counts_120 rfl (Nat.le_of_ble_eq_true rfl) (L' := [(2, _), (0, _), (3, _)]) rfl ?_
      refine r_iinc (v := v3_14 + 1) C dX12_counts_121 (j := 2) rfl rfl (Nat.le_of_ble_eq_true rfl) (L' := [(3, _), (2, _), (0, _)]) rfl ?_
      refine r_goto (tgt := 98) C dX12_counts_124 (by decide) ?_
      refine r_sub [2, 1, 0] rfl ?_
      exact ih _ _ h
set_option maxHeartbeats 4000000 in
set_option maxRecDepth 100000 in
theorem t_X12_counts_L131 {x : Ctx} {w : Wp}  {s0 : St} {z : Int32}    (C : Cx x WM w cX12_counts 4 RX12 0 (some .int)) : ∀ (n : Nat) (v2_19 : Int32) (v3_20 : Int32), M_counts_L131 s0 n v2_19 v3_20 = some z → V x WM w 4 (QM x WM w (some (.int z)) s0) s0 131 [(0, .ref (wa w 0 0)), (2, .int v2_19), (3, .int v3_20)] [] := by
  intro n
  induction n with
  | zero => intro v2_19 v3_20 h; cases h
  | succ n ih =>
    intro v2_19 v3_20 h
    unfold M_counts_L131 at h
    refine r_iload_n C dX12_counts_131 rfl 2 rfl ?_
    refine r_iconst (v := 4) C dX12_counts_132 (by decide) ?_
    refine r_icmp_ge (tgt := 159) C dX12_counts_133 (by decide) (fun c_21 => ?_) (fun c_21 => ?_)
    · have h := ip h c_21
      refine r_iload_n C dX12_counts_159 rfl 1 rfl ?_
      cases h
      exact r_iret C dX12_counts_160
    · have h := iq h c_21
      refine r_iload_n C dX12_counts_136 rfl 1 rfl ?_
      refine r_aload_n C dX12_counts_137 rfl 0 rfl ?_
      refine gfX12_26 C dX12_counts_138 ?_
      refine r_iload_n C dX12_counts_141 rfl 2 rfl ?_
      obtain ⟨g_22, h⟩ := gdE h
      refine ldM_8 C g_22 dX12_counts_142 ?_
      refine r_em (st := [.int v2_19]) 151 ((if (s0.1 8 0 v3_20.toNatClampNeg) < 0 then 0 else 1 : Int32)) (fun hM_24 => ?_) ?_
      · refine r_if_lt (tgt := 150) C dX12_counts_143 (by decide) (fun c_23 => ?_) (fun c_23 => ?_)
        · refine r_iconst (v := 0) C dX12_counts_150 (by decide) ?_
          exact (em_pos c_23 hM_24)
        · refine r_iconst (v := 1) C dX12_counts_146 (by decide) ?_
          refine r_goto (tgt := 151) C dX12_counts_147 (by decide) ?_
          exact (em_neg c_23 hM_24)
      refine r_iadd C dX12_counts_151 ?_
      refine r_istore_n C dX12_counts_152 rfl (Nat.le_of_ble_eq_true rfl) (L' := [(2, _), (0, _), (3, _)]) rfl ?_
      refine r_iinc (v := v3_20 + 1) C dX12_counts_153 (j := 2) rfl rfl (Nat.le_of_ble_eq_true rfl) (L' := [(3, _), (2, _), (0, _)]) rfl ?_
      refine r_goto (tgt := 131) C dX12_counts_156 (by decide) ?_
      refine r_sub [2, 1, 0] rfl ?_
      exact ih _ _ h
set_option maxHeartbeats 4000000 in
set_option maxRecDepth 100000 in
theorem m_X12_counts {l : Launch} {w : Wp} {v1 : Int32}  {s0 : St} {z : Int32} (h : M_counts v1 s0 = some z) : Cm l yX12_counts (.code yX12_counts cX12_counts 4 (some .int)) 0 WM w [.ref (wa w 0 0), .int v1] s0 (some (.int z)) s0 := by
  refine Cm.of (own := RX12) (by decide +kernel) rfl (Nat.le_of_ble_eq_true rfl) (L := [(0, .ref (wa w 0 0)), (1, .int v1)]) rfl KoM (fun x hl C => ?_)
  subst hl
  unfold M_counts at h
  refine r_iconst (v := 0) C dX12_counts_0 (by decide) ?_
  refine r_istore_n C dX12_counts_1 rfl (Nat.le_of_ble_eq_true rfl) (L' := [(2, _), (0, _), (1, _)]) rfl ?_
  refine r_iload_n C dX12_counts_2 rfl 2 rfl ?_
  by_cases c_1 : v1 = 0
  · have h := ip h c_1
    refine r_tabIn (tgt := 40) C dX12_counts_3 c_1 (by decide) (by decide) rfl (by decide) ?_
    refine r_aload_n C dX12_counts_40 rfl 1 rfl ?_
    refine gfX12_125 C dX12_counts_41 ?_
    cases h
    exact r_iret C dX12_counts_44
  have h := iq h c_1
  by_cases c_2 : v1 = 1
  · have h := ip h c_2
    refine r_tabIn (tgt := 45) C dX12_counts_3 c_2 (by decide) (by decide) rfl (by decide) ?_
    refine r_aload_n C dX12_counts_45 rfl 1 rfl ?_
    refine gfX12_128 C dX12_counts_46 ?_
    cases h
    exact r_iret C dX12_counts_49
  have h := iq h c_2
  by_cases c_3 : v1 = 2
  · have h := ip h c_3
    refine r_tabIn (tgt := 50) C dX12_counts_3 c_3 (by decide) (by decide) rfl (by decide) ?_
    refine r_aload_n C dX12_counts_50 rfl 1 rfl ?_
    refine gfX12_131 C dX12_counts_51 ?_
    cases h
    exact r_iret C dX12_counts_54
  have h := iq h c_3
  by_cases c_4 : v1 = 3
  · have h := ip h c_4
    refine r_tabIn (tgt := 55) C dX12_counts_3 c_4 (by decide) (by decide) rfl (by decide) ?_
    refine r_aload_n C dX12_counts_55 rfl 1 rfl ?_
    refine gfX12_265 C dX12_counts_56 ?_
    cases h
    exact r_iret C dX12_counts_59
  have h := iq h c_4
  by_cases c_5 : v1 = 4
  · have h := ip h c_5
    refine r_tabIn (tgt := 60) C dX12_counts_3 c_5 (by decide) (by decide) rfl (by decide) ?_
    refine r_iconst (v := 0) C dX12_counts_60 (by decide) ?_
    refine r_istore_n C dX12_counts_61 rfl (Nat.le_of_ble_eq_true rfl) (L' := [(3, _), (2, _), (0, _), (1, _)]) rfl ?_
    refine r_sub [2, 1, 0] rfl ?_
    exact t_X12_counts_L62 C _ _ _ h
  have h := iq h c_5
  by_cases c_12 : v1 = 5
  · have h := ip h c_12
    refine r_tabIn (tgt := 96) C dX12_counts_3 c_12 (by decide) (by decide) rfl (by decide) ?_
    refine r_iconst (v := 0) C dX12_counts_96 (by decide) ?_
    refine r_istore_n C dX12_counts_97 rfl (Nat.le_of_ble_eq_true rfl) (L' := [(3, _), (2, _), (0, _), (1, _)]) rfl ?_
    refine r_sub [2, 1, 0] rfl ?_
    exact t_X12_counts_L98 C _ _ _ h
  have h := iq h c_12
  refine r_tabOut (tgt := 129) C dX12_counts_3 (by have q0 := tq_ne (k := 0) (by decide) c_1; have q1 := tq_ne (k := 1) (by decide) c_2; have q2 := tq_ne (k := 2) (by decide) c_3; have q3 := tq_ne (k := 3) (by decide) c_4; have q4 := tq_ne (k := 4) (by decide) c_5; have q5 := tq_ne (k := 5) (by decide) c_12; omega) (by decide) ?_
  refine r_iconst (v := 0) C dX12_counts_129 (by decide) ?_
  refine r_istore_n C dX12_counts_130 rfl (Nat.le_of_ble_eq_true rfl) (L' := [(3, _), (2, _), (0, _), (1, _)]) rfl ?_
  refine r_sub [2, 1, 0] rfl ?_
  exact t_X12_counts_L131 C _ _ _ h
def M_count (v1 : Int32) (s0 : St) : Option (Int32) :=
  if (M_in v1 0 6) = 0 then (some (-1)) else (Option.bind (M_counts v1 s0) (fun r_2 => some r_2))
set_option maxHeartbeats 4000000 in
set_option maxRecDepth 100000 in
theorem m_X12_count {l : Launch} {w : Wp} {v1 : Int32}  {s0 : St} {z : Int32} (h : M_count v1 s0 = some z) : Cm l yX12_count (.code yX12_count cX12_count 2 (some .int)) 1 WM w [.ref (wa w 0 0), .int v1] s0 (some (.int z)) s0 := by
  refine Cm.of (own := RX12) (by decide +kernel) rfl (Nat.le_of_ble_eq_true rfl) (L := [(0, .ref (wa w 0 0)), (1, .int v1)]) rfl KoM (fun x hl C => ?_)
  subst hl
  unfold M_count at h
  refine r_iload_n C dX12_count_0 rfl 1 rfl ?_
  refine r_iconst (v := 0) C dX12_count_1 (by decide) ?_
  refine r_bipush (v := 6) C dX12_count_2 (by decide) ?_
  refine kX12_97 C (m_X12_in rfl) (by decide) (Nat.le_of_ble_eq_true rfl) dX12_count_4 ?_
  refine r_if_eq (tgt := 18) C dX12_count_7 (by decide) (fun c_1 => ?_) (fun c_1 => ?_)
  · have h := ip h c_1
    refine r_iconst (v := (-1)) C dX12_count_18 (by decide) ?_
    cases h
    exact r_iret C dX12_count_19
  · have h := iq h c_1
    refine r_aload_n C dX12_count_10 rfl 0 rfl ?_
    refine r_iload_n C dX12_count_11 rfl 1 rfl ?_
    obtain ⟨r_2, er_2, h⟩ := bdE h
    refine kX12_283 C (m_X12_counts er_2) (by decide) (Nat.le_of_ble_eq_true rfl) dX12_count_12 ?_
    refine r_goto (tgt := 19) C dX12_count_15 (by decide) ?_
    cases h
    exact r_iret C dX12_count_19
def M_finding  (s0 : St) : Int32 :=
  s0.1 0 0 0
set_option maxHeartbeats 4000000 in
set_option maxRecDepth 100000 in
theorem m_X12_finding {l : Launch} {w : Wp}   {s0 : St} {z : Int32} (h : M_finding s0 = z) : Cm l yX12_finding (.code yX12_finding cX12_finding 1 (some .int)) 0 WM w [.ref (wa w 0 0)] s0 (some (.int z)) s0 := by
  refine Cm.of (own := RX12) (by decide +kernel) rfl (Nat.le_of_ble_eq_true rfl) (L := [(0, .ref (wa w 0 0))]) rfl KoM (fun x hl C => ?_)
  subst hl
  unfold M_finding at h
  refine r_aload_n C dX12_finding_0 rfl 0 rfl ?_
  refine gfX12_90 C dX12_finding_1 ?_
  subst h
  exact r_iret C dX12_finding_4
def M_findings (v1 : Int32) (s0 : St) : Option (Int32) :=
  if (M_in v1 1 5) = 0 then (some (-1)) else (if inb v1 6 = true then some (s0.1 1 0 v1.toNatClampNeg) else none)
set_option maxHeartbeats 4000000 in
set_option maxRecDepth 100000 in
theorem m_X12_findings {l : Launch} {w : Wp} {v1 : Int32}  {s0 : St} {z : Int32} (h : M_findings v1 s0 = some z) : Cm l yX12_findings (.code yX12_findings cX12_findings 2 (some .int)) 1 WM w [.ref (wa w 0 0), .int v1] s0 (some (.int z)) s0 := by
  refine Cm.of (own := RX12) (by decide +kernel) rfl (Nat.le_of_ble_eq_true rfl) (L := [(0, .ref (wa w 0 0)), (1, .int v1)]) rfl KoM (fun x hl C => ?_)
  subst hl
  unfold M_findings at h
  refine r_iload_n C dX12_findings_0 rfl 1 rfl ?_
  refine r_iconst (v := 1) C dX12_findings_1 (by decide) ?_
  refine r_iconst (v := 5) C dX12_findings_2 (by decide) ?_
  refine kX12_97 C (m_X12_in rfl) (by decide) (Nat.le_of_ble_eq_true rfl) dX12_findings_3 ?_
  refine r_if_eq (tgt := 18) C dX12_findings_6 (by decide) (fun c_1 => ?_) (fun c_1 => ?_)
  · have h := ip h c_1
    refine r_iconst (v := (-1)) C dX12_findings_18 (by decide) ?_
    cases h
    exact r_iret C dX12_findings_19
  · have h := iq h c_1
    refine r_aload_n C dX12_findings_9 rfl 0 rfl ?_
    refine gfX12_7 C dX12_findings_10 ?_
    refine r_iload_n C dX12_findings_13 rfl 1 rfl ?_
    obtain ⟨g_2, h⟩ := gdE h
    refine ldM_1 C g_2 dX12_findings_14 ?_
    refine r_goto (tgt := 19) C dX12_findings_15 (by decide) ?_
    cases h
    exact r_iret C dX12_findings_19
def M_mix (v1 : Int32) (s0 : St) : Option (St) :=
  some (sY s0 40 ((31 * (s0.2 40)) + v1.toInt64))
set_option maxHeartbeats 4000000 in
set_option maxRecDepth 100000 in
theorem m_X12_mix {l : Launch} {w : Wp} {v1 : Int32}  {s0 : St} {z : St} (h : M_mix v1 s0 = some z) : Cm l yX12_mix (.code yX12_mix cX12_mix 2 none) 0 WM w [.ref (wa w 0 0), .int v1] s0 none z := by
  refine Cm.of (own := RX12) (by decide +kernel) rfl (Nat.le_of_ble_eq_true rfl) (L := [(0, .ref (wa w 0 0)), (1, .int v1)]) rfl KoM (fun x hl C => ?_)
  subst hl
  unfold M_mix at h
  refine r_aload_n C dX12_mix_0 rfl 0 rfl ?_
  refine r_ldc2 C dX12_mix_1 q_1481 ?_
  refine r_aload_n C dX12_mix_4 rfl 0 rfl ?_
  refine gfX12_288 C dX12_mix_5 ?_
  refine r_lmul C dX12_mix_8 ?_
  refine r_iload_n C dX12_mix_9 rfl 1 rfl ?_
  refine r_i2l C dX12_mix_10 ?_
  refine r_ladd C dX12_mix_11 ?_
  refine pfX12_288 C dX12_mix_12 ?_
  cases h
  exact r_vret C dX12_mix_15
def M_mixSayings_L2 (K26 : St → Option (St))  : Nat → Int32 → St → Option (St)
  | 0, _, _ => none
  | n + 1, v1_1, s_2 => if (s_2.1 0 0 10) ≤ v1_1 then (K26 s_2) else (if inb v1_1 12 = true then Option.bind (M_mix (s_2.1 11 0 v1_1.toNatClampNeg) s_2) (fun r_5 => (M_mixSayings_L2 K26 n) (v1_1 + 1) r_5) else none)
def M_mixSayings_L38 (K59 : St → Option (St)) (v1_11 : Int32) : Nat → Int32 → St → Option (St)
  | 0, _, _ => none
  | n + 1, v2_12, s_13 => if 4 < v2_12 then (K59 s_13) else (Option.bind (M_lifeTells v1_11 v2_12 s_13) (fun r_15 => Option.bind (M_mix r_15 s_13) (fun r_16 => (M_mixSayings_L38 K59 v1_11 n) (v2_12 + 1) r_16)))
def M_mixSayings_L28 (K65 : St → Option (St))  : Nat → Int32 → St → Option (St)
  | 0, _, _ => none
  | n + 1, v1_8, s_9 => if (s_9.1 0 0 12) ≤ v1_8 then (K65 s_9) else (M_mixSayings_L38 (fun (s_18 : St) => (M_mixSayings_L28 K65 n) (v1_8 + 1) s_18) v1_8 1100 0 s_9)
def M_mixSayings_L77 (K98 : St → Option (St)) (v1_24 : Int32) : Nat → Int32 → St → Option (St)
  | 0, _, _ => none
  | n + 1, v2_25, s_26 => if 4 < v2_25 then (K98 s_26) else (Option.bind (M_sayingTells v1_24 v2_25 s_26) (fun r_28 => Option.bind (M_mix r_28 s_26) (fun r_29 => (M_mixSayings_L77 K98 v1_24 n) (v2_25 + 1) r_29)))
def M_mixSayings_L100 (K125 : St → Option (St)) (v1_32 : Int32) : Nat → Int32 → St → Option (St)
  | 0, _, _ => none
  | n + 1, v2_33, s_34 => if 5 ≤ v2_33 then (K125 s_34) else (if inb ((5 * v1_32) + v2_33) 120 = true then Option.bind (M_mix (s_34.1 22 0 (((5 * v1_32) + v2_33).toNatClampNeg)) s_34) (fun r_37 => (M_mixSayings_L100 K125 v1_32 n) (v2_33 + 1) r_37) else none)
def M_mixSayings_L67   : Nat → Int32 → St → Option (St)
  | 0, _, _ => none
  | n + 1, v1_21, s_22 => if (s_22.1 0 0 16) ≤ v1_21 then (some s_22) else (M_mixSayings_L77 (fun (s_31 : St) => M_mixSayings_L100 (fun (s_39 : St) => (M_mixSayings_L67 n) (v1_21 + 1) s_39) v1_21 1100 0 s_31) v1_21 1100 0 s_22)
def M_mixSayings  (s0 : St) : Option (St) :=
  M_mixSayings_L2 (fun (s_7 : St) => M_mixSayings_L28 (fun (s_20 : St) => M_mixSayings_L67 1100 0 s_20) 1100 0 s_7) 1100 0 s0
set_option maxHeartbeats 4000000 in
set_option maxRecDepth 100000 in
theorem t_X12_mixSayings_L2 {x : Ctx} {w : Wp}  {z : St}  {K26 : St → Option (St)} (hK26 : ∀ (s_6 : St), K26 s_6 = some z → V x WM w 3 (QM x WM w none z) s_6 26 [(0, .ref (wa w 0 0))] []) (C : Cx x WM w cX12_mixSayings 3 RX12 2 none) : ∀ (n : Nat) (v1_1 : Int32) (s_2 : St), M_mixSayings_L2 K26 n v1_1 s_2 = some z → V x WM w 3 (QM x WM w none z) s_2 2 [(0, .ref (wa w 0 0)), (1, .int v1_1)] [] := by
  intro n
  induction n with
  | zero => intro v1_1 s_2 h; cases h
  | succ n ih =>
    intro v1_1 s_2 h
    unfold M_mixSayings_L2 at h
    refine r_iload_n C dX12_mixSayings_2 rfl 1 rfl ?_
    refine r_aload_n C dX12_mixSayings_3 rfl 0 rfl ?_
    refine gfX12_125 C dX12_mixSayings_4 ?_
    refine r_icmp_ge (tgt := 26) C dX12_mixSayings_7 (by decide) (fun c_3 => ?_) (fun c_3 => ?_)
    · have h := ip h c_3
      refine r_sub [0] rfl ?_
      exact hK26 _ h
    · have h := iq h c_3
      refine r_aload_n C dX12_mixSayings_10 rfl 0 rfl ?_
      refine r_aload_n C dX12_mixSayings_11 rfl 0 rfl ?_
      refine gfX12_32 C dX12_mixSayings_12 ?_
      refine r_iload_n C dX12_mixSayings_15 rfl 1 rfl ?_
      obtain ⟨g_4, h⟩ := gdE h
      refine ldM_11 C g_4 dX12_mixSayings_16 ?_
      obtain ⟨r_5, er_5, h⟩ := bdE h
      refine kX12_291 C (m_X12_mix er_5) (by decide) (Nat.le_of_ble_eq_true rfl) dX12_mixSayings_17 ?_
      refine r_iinc (v := v1_1 + 1) C dX12_mixSayings_20 (j := 1) rfl rfl (Nat.le_of_ble_eq_true rfl) (L' := [(1, _), (0, _)]) rfl ?_
      refine r_goto (tgt := 2) C dX12_mixSayings_23 (by decide) ?_
      refine r_sub [1, 0] rfl ?_
      exact ih _ _ h
set_option maxHeartbeats 4000000 in
set_option maxRecDepth 100000 in
theorem t_X12_mixSayings_L38 {x : Ctx} {w : Wp} {v1_11 : Int32} {z : St}  {K59 : St → Option (St)} (hK59 : ∀ (s_17 : St), K59 s_17 = some z → V x WM w 3 (QM x WM w none z) s_17 59 [(0, .ref (wa w 0 0)), (1, .int v1_11)] []) (C : Cx x WM w cX12_mixSayings 3 RX12 2 none) : ∀ (n : Nat) (v2_12 : Int32) (s_13 : St), M_mixSayings_L38 K59 v1_11 n v2_12 s_13 = some z → V x WM w 3 (QM x WM w none z) s_13 38 [(0, .ref (wa w 0 0)), (1, .int v1_11), (2, .int v2_12)] [] := by
  intro n
  induction n with
  | zero => intro v2_12 s_13 h; cases h
  | succ n ih =>
    intro v2_12 s_13 h
    unfold M_mixSayings_L38 at h
    refine r_iload_n C dX12_mixSayings_38 rfl 2 rfl ?_
    refine r_iconst (v := 4) C dX12_mixSayings_39 (by decide) ?_
    refine r_icmp_gt (tgt := 59) C dX12_mixSayings_40 (by decide) (fun c_14 => ?_) (fun c_14 => ?_)
    · have h := ip h c_14
      refine r_sub [0, 1] rfl ?_
      exact hK59 _ h
    · have h := iq h c_14
      refine r_aload_n C dX12_mixSayings_43 rfl 0 rfl ?_
      refine r_aload_n C dX12_mixSayings_44 rfl 0 rfl ?_
      refine r_iload_n C dX12_mixSayings_45 rfl 1 rfl ?_
      refine r_iload_n C dX12_mixSayings_46 rfl 2 rfl ?_
      obtain ⟨r_15, er_15, h⟩ := bdE h
      refine kX12_166 C (m_X12_lifeTells er_15) (by decide) (Nat.le_of_ble_eq_true rfl) dX12_mixSayings_47 ?_
      obtain ⟨r_16, er_16, h⟩ := bdE h
      refine kX12_291 C (m_X12_mix er_16) (by decide) (Nat.le_of_ble_eq_true rfl) dX12_mixSayings_50 ?_
      refine r_iinc (v := v2_12 + 1) C dX12_mixSayings_53 (j := 2) rfl rfl (Nat.le_of_ble_eq_true rfl) (L' := [(2, _), (0, _), (1, _)]) rfl ?_
      refine r_goto (tgt := 38) C dX12_mixSayings_56 (by decide) ?_
      refine r_sub [1, 2, 0] rfl ?_
      exact ih _ _ h
set_option maxHeartbeats 4000000 in
set_option maxRecDepth 100000 in
theorem t_X12_mixSayings_L28 {x : Ctx} {w : Wp}  {z : St}  {K65 : St → Option (St)} (hK65 : ∀ (s_19 : St), K65 s_19 = some z → V x WM w 3 (QM x WM w none z) s_19 65 [(0, .ref (wa w 0 0))] []) (C : Cx x WM w cX12_mixSayings 3 RX12 2 none) : ∀ (n : Nat) (v1_8 : Int32) (s_9 : St), M_mixSayings_L28 K65 n v1_8 s_9 = some z → V x WM w 3 (QM x WM w none z) s_9 28 [(0, .ref (wa w 0 0)), (1, .int v1_8)] [] := by
  intro n
  induction n with
  | zero => intro v1_8 s_9 h; cases h
  | succ n ih =>
    intro v1_8 s_9 h
    unfold M_mixSayings_L28 at h
    refine r_iload_n C dX12_mixSayings_28 rfl 1 rfl ?_
    refine r_aload_n C dX12_mixSayings_29 rfl 0 rfl ?_
    refine gfX12_128 C dX12_mixSayings_30 ?_
    refine r_icmp_ge (tgt := 65) C dX12_mixSayings_33 (by decide) (fun c_10 => ?_) (fun c_10 => ?_)
    · have h := ip h c_10
      refine r_sub [0] rfl ?_
      exact hK65 _ h
    · have h := iq h c_10
      refine r_iconst (v := 0) C dX12_mixSayings_36 (by decide) ?_
      refine r_istore_n C dX12_mixSayings_37 rfl (Nat.le_of_ble_eq_true rfl) (L' := [(2, _), (0, _), (1, _)]) rfl ?_
      refine r_sub [1, 2, 0] rfl ?_
      refine t_X12_mixSayings_L38 (fun s_18 h => ?_) C _ _ _ h
      refine r_iinc (v := v1_8 + 1) C dX12_mixSayings_59 (j := 1) rfl rfl (Nat.le_of_ble_eq_true rfl) (L' := [(1, _), (0, _)]) rfl ?_
      refine r_goto (tgt := 28) C dX12_mixSayings_62 (by decide) ?_
      refine r_sub [1, 0] rfl ?_
      exact ih _ _ h
set_option maxHeartbeats 4000000 in
set_option maxRecDepth 100000 in
theorem t_X12_mixSayings_L77 {x : Ctx} {w : Wp} {v1_24 : Int32} {z : St}  {K98 : St → Option (St)} (hK98 : ∀ (s_30 : St), K98 s_30 = some z → V x WM w 3 (QM x WM w none z) s_30 98 [(0, .ref (wa w 0 0)), (1, .int v1_24)] []) (C : Cx x WM w cX12_mixSayings 3 RX12 2 none) : ∀ (n : Nat) (v2_25 : Int32) (s_26 : St), M_mixSayings_L77 K98 v1_24 n v2_25 s_26 = some z → V x WM w 3 (QM x WM w none z) s_26 77 [(0, .ref (wa w 0 0)), (1, .int v1_24), (2, .int v2_25)] [] := by
  intro n
  induction n with
  | zero => intro v2_25 s_26 h; cases h
  | succ n ih =>
    intro v2_25 s_26 h
    unfold M_mixSayings_L77 at h
    refine r_iload_n C dX12_mixSayings_77 rfl 2 rfl ?_
    refine r_iconst (v := 4) C dX12_mixSayings_78 (by decide) ?_
    refine r_icmp_gt (tgt := 98) C dX12_mixSayings_79 (by decide) (fun c_27 => ?_) (fun c_27 => ?_)
    · have h := ip h c_27
      refine r_sub [0, 1] rfl ?_
      exact hK98 _ h
    · have h := iq h c_27
      refine r_aload_n C dX12_mixSayings_82 rfl 0 rfl ?_
      refine r_aload_n C dX12_mixSayings_83 rfl 0 rfl ?_
      refine r_iload_n C dX12_mixSayings_84 rfl 1 rfl ?_
      refine r_iload_n C dX12_mixSayings_85 rfl 2 rfl ?_
      obtain ⟨r_28, er_28, h⟩ := bdE h
      refine kX12_160 C (m_X12_sayingTells er_28) (by decide) (Nat.le_of_ble_eq_true rfl) dX12_mixSayings_86 ?_
      obtain ⟨r_29, er_29, h⟩ := bdE h
      refine kX12_291 C (m_X12_mix er_29) (by decide) (Nat.le_of_ble_eq_true rfl) dX12_mixSayings_89 ?_
      refine r_iinc (v := v2_25 + 1) C dX12_mixSayings_92 (j := 2) rfl rfl (Nat.le_of_ble_eq_true rfl) (L' := [(2, _), (0, _), (1, _)]) rfl ?_
      refine r_goto (tgt := 77) C dX12_mixSayings_95 (by decide) ?_
      refine r_sub [1, 2, 0] rfl ?_
      exact ih _ _ h
set_option maxHeartbeats 4000000 in
set_option maxRecDepth 100000 in
theorem t_X12_mixSayings_L100 {x : Ctx} {w : Wp} {v1_32 : Int32} {z : St}  {K125 : St → Option (St)} (hK125 : ∀ (s_38 : St), K125 s_38 = some z → V x WM w 3 (QM x WM w none z) s_38 125 [(0, .ref (wa w 0 0)), (1, .int v1_32)] []) (C : Cx x WM w cX12_mixSayings 3 RX12 2 none) : ∀ (n : Nat) (v2_33 : Int32) (s_34 : St), M_mixSayings_L100 K125 v1_32 n v2_33 s_34 = some z → V x WM w 3 (QM x WM w none z) s_34 100 [(0, .ref (wa w 0 0)), (1, .int v1_32), (2, .int v2_33)] [] := by
  intro n
  induction n with
  | zero => intro v2_33 s_34 h; cases h
  | succ n ih =>
    intro v2_33 s_34 h
    unfold M_mixSayings_L100 at h
    refine r_iload_n C dX12_mixSayings_100 rfl 2 rfl ?_
    refine r_iconst (v := 5) C dX12_mixSayings_101 (by decide) ?_
    refine r_icmp_ge (tgt := 125) C dX12_mixSayings_102 (by decide) (fun c_35 => ?_) (fun c_35 => ?_)
    · have h := ip h c_35
      refine r_sub [0, 1] rfl ?_
      exact hK125 _ h
    · have h := iq h c_35
      refine r_aload_n C dX12_mixSayings_105 rfl 0 rfl ?_
      refine r_aload_n C dX12_mixSayings_106 rfl 0 rfl ?_
      refine gfX12_59 C dX12_mixSayings_107 ?_
      refine r_iconst (v := 5) C dX12_mixSayings_110 (by decide) ?_
      refine r_iload_n C dX12_mixSayings_111 rfl 1 rfl ?_
      refine r_imul C dX12_mixSayings_112 ?_
      refine r_iload_n C dX12_mixSayings_113 rfl 2 rfl ?_
      refine r_iadd C dX12_mixSayings_114 ?_
      obtain ⟨g_36, h⟩ := gdE h
      refine ldM_22 C g_36 dX12_mixSayings_115 ?_
      obtain ⟨r_37, er_37, h⟩ := bdE h
      refine kX12_291 C (m_X12_mix er_37) (by decide) (Nat.le_of_ble_eq_true rfl) dX12_mixSayings_116 ?_
      refine r_iinc (v := v2_33 + 1) C dX12_mixSayings_119 (j := 2) rfl rfl (Nat.le_of_ble_eq_true rfl) (L' := [(2, _), (0, _), (1, _)]) rfl ?_
      refine r_goto (tgt := 100) C dX12_mixSayings_122 (by decide) ?_
      refine r_sub [1, 2, 0] rfl ?_
      exact ih _ _ h
set_option maxHeartbeats 4000000 in
set_option maxRecDepth 100000 in
theorem t_X12_mixSayings_L67 {x : Ctx} {w : Wp}  {z : St}    (C : Cx x WM w cX12_mixSayings 3 RX12 2 none) : ∀ (n : Nat) (v1_21 : Int32) (s_22 : St), M_mixSayings_L67 n v1_21 s_22 = some z → V x WM w 3 (QM x WM w none z) s_22 67 [(0, .ref (wa w 0 0)), (1, .int v1_21)] [] := by
  intro n
  induction n with
  | zero => intro v1_21 s_22 h; cases h
  | succ n ih =>
    intro v1_21 s_22 h
    unfold M_mixSayings_L67 at h
    refine r_iload_n C dX12_mixSayings_67 rfl 1 rfl ?_
    refine r_aload_n C dX12_mixSayings_68 rfl 0 rfl ?_
    refine gfX12_131 C dX12_mixSayings_69 ?_
    refine r_icmp_ge (tgt := 131) C dX12_mixSayings_72 (by decide) (fun c_23 => ?_) (fun c_23 => ?_)
    · have h := ip h c_23
      cases h
      exact r_vret C dX12_mixSayings_131
    · have h := iq h c_23
      refine r_iconst (v := 0) C dX12_mixSayings_75 (by decide) ?_
      refine r_istore_n C dX12_mixSayings_76 rfl (Nat.le_of_ble_eq_true rfl) (L' := [(2, _), (0, _), (1, _)]) rfl ?_
      refine r_sub [1, 2, 0] rfl ?_
      refine t_X12_mixSayings_L77 (fun s_31 h => ?_) C _ _ _ h
      refine r_iconst (v := 0) C dX12_mixSayings_98 (by decide) ?_
      refine r_istore_n C dX12_mixSayings_99 rfl (Nat.le_of_ble_eq_true rfl) (L' := [(2, _), (0, _), (1, _)]) rfl ?_
      refine r_sub [1, 2, 0] rfl ?_
      refine t_X12_mixSayings_L100 (fun s_39 h => ?_) C _ _ _ h
      refine r_iinc (v := v1_21 + 1) C dX12_mixSayings_125 (j := 1) rfl rfl (Nat.le_of_ble_eq_true rfl) (L' := [(1, _), (0, _)]) rfl ?_
      refine r_goto (tgt := 67) C dX12_mixSayings_128 (by decide) ?_
      refine r_sub [1, 0] rfl ?_
      exact ih _ _ h
set_option maxHeartbeats 4000000 in
set_option maxRecDepth 100000 in
theorem m_X12_mixSayings {l : Launch} {w : Wp}   {s0 : St} {z : St} (h : M_mixSayings s0 = some z) : Cm l yX12_mixSayings (.code yX12_mixSayings cX12_mixSayings 3 none) 2 WM w [.ref (wa w 0 0)] s0 none z := by
  refine Cm.of (own := RX12) (by decide +kernel) rfl (Nat.le_of_ble_eq_true rfl) (L := [(0, .ref (wa w 0 0))]) rfl KoM (fun x hl C => ?_)
  subst hl
  unfold M_mixSayings at h
  refine r_iconst (v := 0) C dX12_mixSayings_0 (by decide) ?_
  refine r_istore_n C dX12_mixSayings_1 rfl (Nat.le_of_ble_eq_true rfl) (L' := [(1, _), (0, _)]) rfl ?_
  refine r_sub [1, 0] rfl ?_
  refine t_X12_mixSayings_L2 (fun s_7 h => ?_) C _ _ _ h
  refine r_iconst (v := 0) C dX12_mixSayings_26 (by decide) ?_
  refine r_istore_n C dX12_mixSayings_27 rfl (Nat.le_of_ble_eq_true rfl) (L' := [(1, _), (0, _)]) rfl ?_
  refine r_sub [1, 0] rfl ?_
  refine t_X12_mixSayings_L28 (fun s_20 h => ?_) C _ _ _ h
  refine r_iconst (v := 0) C dX12_mixSayings_65 (by decide) ?_
  refine r_istore_n C dX12_mixSayings_66 rfl (Nat.le_of_ble_eq_true rfl) (L' := [(1, _), (0, _)]) rfl ?_
  refine r_sub [1, 0] rfl ?_
  exact t_X12_mixSayings_L67 C _ _ _ h
def M_digest_L9 (K30 : St → Option (Int64 × St))  : Nat → Int32 → St → Option (Int64 × St)
  | 0, _, _ => none
  | n + 1, v1_1, s_2 => if 6 < v1_1 then (K30 s_2) else (Option.bind (M_counts v1_1 s_2) (fun r_4 => Option.bind (M_mix r_4 s_2) (fun r_5 => (M_digest_L9 K30 n) (v1_1 + 1) r_5)))
def M_digest_L36 (K57 : St → Option (Int64 × St))  : Nat → Int32 → St → Option (Int64 × St)
  | 0, _, _ => none
  | n + 1, v1_9, s_10 => if 3 ≤ v1_9 then (K57 s_10) else (if inb v1_9 3 = true then Option.bind (M_mix (s_10.1 24 0 v1_9.toNatClampNeg) s_10) (fun r_13 => (M_digest_L36 K57 n) (v1_9 + 1) r_13) else none)
def M_digest_L69 (K90 : St → Option (Int64 × St)) (v1_19 : Int32) : Nat → Int32 → St → Option (Int64 × St)
  | 0, _, _ => none
  | n + 1, v2_20, s_21 => if 2 < v2_20 then (K90 s_21) else (Option.bind (M_moveTells v1_19 v2_20 s_21) (fun r_23 => Option.bind (M_mix r_23 s_21) (fun r_24 => (M_digest_L69 K90 v1_19 n) (v2_20 + 1) r_24)))
def M_digest_L59 (K96 : St → Option (Int64 × St))  : Nat → Int32 → St → Option (Int64 × St)
  | 0, _, _ => none
  | n + 1, v1_16, s_17 => if (s_17.1 0 0 33) ≤ v1_16 then (K96 s_17) else (M_digest_L69 (fun (s_26 : St) => (M_digest_L59 K96 n) (v1_16 + 1) s_26) v1_16 1100 0 s_17)
def M_digest_L129 (K155 : St → Option (Int64 × St)) (v1_39 : Int32) : Nat → Int32 → St → Option (Int64 × St)
  | 0, _, _ => none
  | n + 1, v2_40, s_41 => if inb v1_39 6 = true then if (s_41.1 5 0 v1_39.toNatClampNeg) ≤ v2_40 then (K155 s_41) else (Option.bind (M_rowAt v1_39 v2_40 s_41) (fun r_44 => Option.bind (M_mix r_44 s_41) (fun r_45 => (M_digest_L129 K155 v1_39 n) (v2_40 + 1) r_45))) else none
def M_digest_J124 (B98 : Int32 → St → Option (Int64 × St)) (v1_35 : Int32) (t_36 : Int32) (s_37 : St) : Option (Int64 × St) :=
  Option.bind (M_mix t_36 s_37) (fun r_38 => M_digest_L129 (fun (s_47 : St) => B98 (v1_35 + 1) s_47) v1_35 1100 0 r_38)
def M_digest_L98 (K161 : St → Option (Int64 × St))  : Nat → Int32 → St → Option (Int64 × St)
  | 0, _, _ => none
  | n + 1, v1_29, s_30 => if 6 ≤ v1_29 then (K161 s_30) else (if inb v1_29 6 = true then if 0 ≤ (s_30.1 5 0 v1_29.toNatClampNeg) then (if inb v1_29 6 = true then M_digest_J124 (M_digest_L98 K161 n) v1_29 (s_30.1 5 0 v1_29.toNatClampNeg) s_30 else none) else (M_digest_J124 (M_digest_L98 K161 n) v1_29 (-1) s_30) else none)
def M_digest_L193 (K224 : St → Option (Int64 × St)) (v1_62 : Int32) : Nat → Int32 → St → Option (Int64 × St)
  | 0, _, _ => none
  | n + 1, v2_63, s_64 => if inb v1_62 4 = true then if (s_64.1 8 0 v1_62.toNatClampNeg) ≤ v2_63 then (K224 s_64) else (if inb ((40 * v1_62) + v2_63) 160 = true then Option.bind (M_mix (s_64.1 9 0 (((40 * v1_62) + v2_63).toNatClampNeg)) s_64) (fun r_68 => (M_digest_L193 K224 v1_62 n) (v2_63 + 1) r_68) else none) else none
def M_digest_J188 (B163 : Int32 → St → Option (Int64 × St)) (v1_58 : Int32) (t_59 : Int32) (s_60 : St) : Option (Int64 × St) :=
  Option.bind (M_mix t_59 s_60) (fun r_61 => M_digest_L193 (fun (s_70 : St) => B163 (v1_58 + 1) s_70) v1_58 1100 0 r_61)
def M_digest_L163   : Nat → Int32 → St → Option (Int64 × St)
  | 0, _, _ => none
  | n + 1, v1_52, s_53 => if 4 ≤ v1_52 then (some (s_53.2 40, s_53)) else (if inb v1_52 4 = true then if 0 ≤ (s_53.1 8 0 v1_52.toNatClampNeg) then (if inb v1_52 4 = true then M_digest_J188 (M_digest_L163 n) v1_52 (s_53.1 8 0 v1_52.toNatClampNeg) s_53 else none) else (M_digest_J188 (M_digest_L163 n) v1_52 (-1) s_53) else none)
def M_digest  (s0 : St) : Option (Int64 × St) :=
  M_digest_L9 (fun (s_7 : St) => Option.bind (M_mixSayings s_7) (fun r_8 => M_digest_L36 (fun (s_15 : St) => M_digest_L59 (fun (s_28 : St) => M_digest_L98 (fun (s_51 : St) => M_digest_L163 1100 0 s_51) 1100 0 s_28) 1100 0 s_15) 1100 0 r_8)) 1100 0 (sY s0 40 17)
set_option maxHeartbeats 4000000 in
set_option maxRecDepth 100000 in
theorem t_X12_digest_L9 {x : Ctx} {w : Wp}  {z : Int64 × St}  {K30 : St → Option (Int64 × St)} (hK30 : ∀ (s_6 : St), K30 s_6 = some z → V x WM w 3 (QM x WM w (some (.long z.1)) z.2) s_6 30 [(0, .ref (wa w 0 0))] []) (C : Cx x WM w cX12_digest 3 RX12 3 (some .long)) : ∀ (n : Nat) (v1_1 : Int32) (s_2 : St), M_digest_L9 K30 n v1_1 s_2 = some z → V x WM w 3 (QM x WM w (some (.long z.1)) z.2) s_2 9 [(0, .ref (wa w 0 0)), (1, .int v1_1)] [] := by
  intro n
  induction n with
  | zero => intro v1_1 s_2 h; cases h
  | succ n ih =>
    intro v1_1 s_2 h
    unfold M_digest_L9 at h
    refine r_iload_n C dX12_digest_9 rfl 1 rfl ?_
    refine r_bipush (v := 6) C dX12_digest_10 (by decide) ?_
    refine r_icmp_gt (tgt := 30) C dX12_digest_12 (by decide) (fun c_3 => ?_) (fun c_3 => ?_)
    · have h := ip h c_3
      refine r_sub [0] rfl ?_
      exact hK30 _ h
    · have h := iq h c_3
      refine r_aload_n C dX12_digest_15 rfl 0 rfl ?_
      refine r_aload_n C dX12_digest_16 rfl 0 rfl ?_
      refine r_iload_n C dX12_digest_17 rfl 1 rfl ?_
      obtain ⟨r_4, er_4, h⟩ := bdE h
      refine kX12_283 C (m_X12_counts er_4) (by decide) (Nat.le_of_ble_eq_true rfl) dX12_digest_18 ?_
      obtain ⟨r_5, er_5, h⟩ := bdE h
      refine kX12_291 C (m_X12_mix er_5) (by decide) (Nat.le_of_ble_eq_true rfl) dX12_digest_21 ?_
      refine r_iinc (v := v1_1 + 1) C dX12_digest_24 (j := 1) rfl rfl (Nat.le_of_ble_eq_true rfl) (L' := [(1, _), (0, _)]) rfl ?_
      refine r_goto (tgt := 9) C dX12_digest_27 (by decide) ?_
      refine r_sub [1, 0] rfl ?_
      exact ih _ _ h
set_option maxHeartbeats 4000000 in
set_option maxRecDepth 100000 in
theorem t_X12_digest_L36 {x : Ctx} {w : Wp}  {z : Int64 × St}  {K57 : St → Option (Int64 × St)} (hK57 : ∀ (s_14 : St), K57 s_14 = some z → V x WM w 3 (QM x WM w (some (.long z.1)) z.2) s_14 57 [(0, .ref (wa w 0 0))] []) (C : Cx x WM w cX12_digest 3 RX12 3 (some .long)) : ∀ (n : Nat) (v1_9 : Int32) (s_10 : St), M_digest_L36 K57 n v1_9 s_10 = some z → V x WM w 3 (QM x WM w (some (.long z.1)) z.2) s_10 36 [(0, .ref (wa w 0 0)), (1, .int v1_9)] [] := by
  intro n
  induction n with
  | zero => intro v1_9 s_10 h; cases h
  | succ n ih =>
    intro v1_9 s_10 h
    unfold M_digest_L36 at h
    refine r_iload_n C dX12_digest_36 rfl 1 rfl ?_
    refine r_iconst (v := 3) C dX12_digest_37 (by decide) ?_
    refine r_icmp_ge (tgt := 57) C dX12_digest_38 (by decide) (fun c_11 => ?_) (fun c_11 => ?_)
    · have h := ip h c_11
      refine r_sub [0] rfl ?_
      exact hK57 _ h
    · have h := iq h c_11
      refine r_aload_n C dX12_digest_41 rfl 0 rfl ?_
      refine r_aload_n C dX12_digest_42 rfl 0 rfl ?_
      refine gfX12_62 C dX12_digest_43 ?_
      refine r_iload_n C dX12_digest_46 rfl 1 rfl ?_
      obtain ⟨g_12, h⟩ := gdE h
      refine ldM_24 C g_12 dX12_digest_47 ?_
      obtain ⟨r_13, er_13, h⟩ := bdE h
      refine kX12_291 C (m_X12_mix er_13) (by decide) (Nat.le_of_ble_eq_true rfl) dX12_digest_48 ?_
      refine r_iinc (v := v1_9 + 1) C dX12_digest_51 (j := 1) rfl rfl (Nat.le_of_ble_eq_true rfl) (L' := [(1, _), (0, _)]) rfl ?_
      refine r_goto (tgt := 36) C dX12_digest_54 (by decide) ?_
      refine r_sub [1, 0] rfl ?_
      exact ih _ _ h
set_option maxHeartbeats 4000000 in
set_option maxRecDepth 100000 in
theorem t_X12_digest_L69 {x : Ctx} {w : Wp} {v1_19 : Int32} {z : Int64 × St}  {K90 : St → Option (Int64 × St)} (hK90 : ∀ (s_25 : St), K90 s_25 = some z → V x WM w 3 (QM x WM w (some (.long z.1)) z.2) s_25 90 [(0, .ref (wa w 0 0)), (1, .int v1_19)] []) (C : Cx x WM w cX12_digest 3 RX12 3 (some .long)) : ∀ (n : Nat) (v2_20 : Int32) (s_21 : St), M_digest_L69 K90 v1_19 n v2_20 s_21 = some z → V x WM w 3 (QM x WM w (some (.long z.1)) z.2) s_21 69 [(0, .ref (wa w 0 0)), (1, .int v1_19), (2, .int v2_20)] [] := by
  intro n
  induction n with
  | zero => intro v2_20 s_21 h; cases h
  | succ n ih =>
    intro v2_20 s_21 h
    unfold M_digest_L69 at h
    refine r_iload_n C dX12_digest_69 rfl 2 rfl ?_
    refine r_iconst (v := 2) C dX12_digest_70 (by decide) ?_
    refine r_icmp_gt (tgt := 90) C dX12_digest_71 (by decide) (fun c_22 => ?_) (fun c_22 => ?_)
    · have h := ip h c_22
      refine r_sub [0, 1] rfl ?_
      exact hK90 _ h
    · have h := iq h c_22
      refine r_aload_n C dX12_digest_74 rfl 0 rfl ?_
      refine r_aload_n C dX12_digest_75 rfl 0 rfl ?_
      refine r_iload_n C dX12_digest_76 rfl 1 rfl ?_
      refine r_iload_n C dX12_digest_77 rfl 2 rfl ?_
      obtain ⟨r_23, er_23, h⟩ := bdE h
      refine kX12_268 C (m_X12_moveTells er_23) (by decide) (Nat.le_of_ble_eq_true rfl) dX12_digest_78 ?_
      obtain ⟨r_24, er_24, h⟩ := bdE h
      refine kX12_291 C (m_X12_mix er_24) (by decide) (Nat.le_of_ble_eq_true rfl) dX12_digest_81 ?_
      refine r_iinc (v := v2_20 + 1) C dX12_digest_84 (j := 2) rfl rfl (Nat.le_of_ble_eq_true rfl) (L' := [(2, _), (0, _), (1, _)]) rfl ?_
      refine r_goto (tgt := 69) C dX12_digest_87 (by decide) ?_
      refine r_sub [1, 2, 0] rfl ?_
      exact ih _ _ h
set_option maxHeartbeats 4000000 in
set_option maxRecDepth 100000 in
theorem t_X12_digest_L59 {x : Ctx} {w : Wp}  {z : Int64 × St}  {K96 : St → Option (Int64 × St)} (hK96 : ∀ (s_27 : St), K96 s_27 = some z → V x WM w 3 (QM x WM w (some (.long z.1)) z.2) s_27 96 [(0, .ref (wa w 0 0))] []) (C : Cx x WM w cX12_digest 3 RX12 3 (some .long)) : ∀ (n : Nat) (v1_16 : Int32) (s_17 : St), M_digest_L59 K96 n v1_16 s_17 = some z → V x WM w 3 (QM x WM w (some (.long z.1)) z.2) s_17 59 [(0, .ref (wa w 0 0)), (1, .int v1_16)] [] := by
  intro n
  induction n with
  | zero => intro v1_16 s_17 h; cases h
  | succ n ih =>
    intro v1_16 s_17 h
    unfold M_digest_L59 at h
    refine r_iload_n C dX12_digest_59 rfl 1 rfl ?_
    refine r_aload_n C dX12_digest_60 rfl 0 rfl ?_
    refine gfX12_265 C dX12_digest_61 ?_
    refine r_icmp_ge (tgt := 96) C dX12_digest_64 (by decide) (fun c_18 => ?_) (fun c_18 => ?_)
    · have h := ip h c_18
      refine r_sub [0] rfl ?_
      exact hK96 _ h
    · have h := iq h c_18
      refine r_iconst (v := 0) C dX12_digest_67 (by decide) ?_
      refine r_istore_n C dX12_digest_68 rfl (Nat.le_of_ble_eq_true rfl) (L' := [(2, _), (0, _), (1, _)]) rfl ?_
      refine r_sub [1, 2, 0] rfl ?_
      refine t_X12_digest_L69 (fun s_26 h => ?_) C _ _ _ h
      refine r_iinc (v := v1_16 + 1) C dX12_digest_90 (j := 1) rfl rfl (Nat.le_of_ble_eq_true rfl) (L' := [(1, _), (0, _)]) rfl ?_
      refine r_goto (tgt := 59) C dX12_digest_93 (by decide) ?_
      refine r_sub [1, 0] rfl ?_
      exact ih _ _ h
set_option maxHeartbeats 4000000 in
set_option maxRecDepth 100000 in
theorem t_X12_digest_L129 {x : Ctx} {w : Wp} {v1_39 : Int32} {z : Int64 × St}  {K155 : St → Option (Int64 × St)} (hK155 : ∀ (s_46 : St), K155 s_46 = some z → V x WM w 3 (QM x WM w (some (.long z.1)) z.2) s_46 155 [(0, .ref (wa w 0 0)), (1, .int v1_39)] []) (C : Cx x WM w cX12_digest 3 RX12 3 (some .long)) : ∀ (n : Nat) (v2_40 : Int32) (s_41 : St), M_digest_L129 K155 v1_39 n v2_40 s_41 = some z → V x WM w 3 (QM x WM w (some (.long z.1)) z.2) s_41 129 [(0, .ref (wa w 0 0)), (1, .int v1_39), (2, .int v2_40)] [] := by
  intro n
  induction n with
  | zero => intro v2_40 s_41 h; cases h
  | succ n ih =>
    intro v2_40 s_41 h
    unfold M_digest_L129 at h
    refine r_iload_n C dX12_digest_129 rfl 2 rfl ?_
    refine r_aload_n C dX12_digest_130 rfl 0 rfl ?_
    refine gfX12_17 C dX12_digest_131 ?_
    refine r_iload_n C dX12_digest_134 rfl 1 rfl ?_
    obtain ⟨g_42, h⟩ := gdE h
    refine ldM_5 C g_42 dX12_digest_135 ?_
    refine r_icmp_ge (tgt := 155) C dX12_digest_136 (by decide) (fun c_43 => ?_) (fun c_43 => ?_)
    · have h := ip h c_43
      refine r_sub [0, 1] rfl ?_
      exact hK155 _ h
    · have h := iq h c_43
      refine r_aload_n C dX12_digest_139 rfl 0 rfl ?_
      refine r_aload_n C dX12_digest_140 rfl 0 rfl ?_
      refine r_iload_n C dX12_digest_141 rfl 1 rfl ?_
      refine r_iload_n C dX12_digest_142 rfl 2 rfl ?_
      obtain ⟨r_44, er_44, h⟩ := bdE h
      refine kX12_115 C (m_X12_rowAt er_44) (by decide) (Nat.le_of_ble_eq_true rfl) dX12_digest_143 ?_
      obtain ⟨r_45, er_45, h⟩ := bdE h
      refine kX12_291 C (m_X12_mix er_45) (by decide) (Nat.le_of_ble_eq_true rfl) dX12_digest_146 ?_
      refine r_iinc (v := v2_40 + 1) C dX12_digest_149 (j := 2) rfl rfl (Nat.le_of_ble_eq_true rfl) (L' := [(2, _), (0, _), (1, _)]) rfl ?_
      refine r_goto (tgt := 129) C dX12_digest_152 (by decide) ?_
      refine r_sub [1, 2, 0] rfl ?_
      exact ih _ _ h
set_option maxHeartbeats 4000000 in
set_option maxRecDepth 100000 in
theorem t_X12_digest_J124 {x : Ctx} {w : Wp} {v1_35 : Int32} {t_36 : Int32} {s_37 : St} {z : Int64 × St}  {B98 : Int32 → St → Option (Int64 × St)} (hB98 : ∀ (u1_48 : Int32) (s_49 : St), B98 u1_48 s_49 = some z → V x WM w 3 (QM x WM w (some (.long z.1)) z.2) s_49 98 [(0, .ref (wa w 0 0)), (1, .int u1_48)] []) (C : Cx x WM w cX12_digest 3 RX12 3 (some .long)) (h : M_digest_J124 B98 v1_35 t_36 s_37 = some z) : V x WM w 3 (QM x WM w (some (.long z.1)) z.2) s_37 124 [(0, .ref (wa w 0 0)), (1, .int v1_35)] [.int t_36, .ref (wa w 0 0)] := by
  unfold M_digest_J124 at h
  obtain ⟨r_38, er_38, h⟩ := bdE h
  refine kX12_291 C (m_X12_mix er_38) (by decide) (Nat.le_of_ble_eq_true rfl) dX12_digest_124 ?_
  refine r_iconst (v := 0) C dX12_digest_127 (by decide) ?_
  refine r_istore_n C dX12_digest_128 rfl (Nat.le_of_ble_eq_true rfl) (L' := [(2, _), (0, _), (1, _)]) rfl ?_
  refine r_sub [1, 2, 0] rfl ?_
  refine t_X12_digest_L129 (fun s_47 h => ?_) C _ _ _ h
  refine r_iinc (v := v1_35 + 1) C dX12_digest_155 (j := 1) rfl rfl (Nat.le_of_ble_eq_true rfl) (L' := [(1, _), (0, _)]) rfl ?_
  refine r_goto (tgt := 98) C dX12_digest_158 (by decide) ?_
  refine r_sub [1, 0] rfl ?_
  exact hB98 _ _ h
set_option maxHeartbeats 4000000 in
set_option maxRecDepth 100000 in
theorem t_X12_digest_L98 {x : Ctx} {w : Wp}  {z : Int64 × St}  {K161 : St → Option (Int64 × St)} (hK161 : ∀ (s_50 : St), K161 s_50 = some z → V x WM w 3 (QM x WM w (some (.long z.1)) z.2) s_50 161 [(0, .ref (wa w 0 0))] []) (C : Cx x WM w cX12_digest 3 RX12 3 (some .long)) : ∀ (n : Nat) (v1_29 : Int32) (s_30 : St), M_digest_L98 K161 n v1_29 s_30 = some z → V x WM w 3 (QM x WM w (some (.long z.1)) z.2) s_30 98 [(0, .ref (wa w 0 0)), (1, .int v1_29)] [] := by
  intro n
  induction n with
  | zero => intro v1_29 s_30 h; cases h
  | succ n ih =>
    intro v1_29 s_30 h
    unfold M_digest_L98 at h
    refine r_iload_n C dX12_digest_98 rfl 1 rfl ?_
    refine r_bipush (v := 6) C dX12_digest_99 (by decide) ?_
    refine r_icmp_ge (tgt := 161) C dX12_digest_101 (by decide) (fun c_31 => ?_) (fun c_31 => ?_)
    · have h := ip h c_31
      refine r_sub [0] rfl ?_
      exact hK161 _ h
    · have h := iq h c_31
      refine r_aload_n C dX12_digest_104 rfl 0 rfl ?_
      refine r_aload_n C dX12_digest_105 rfl 0 rfl ?_
      refine gfX12_17 C dX12_digest_106 ?_
      refine r_iload_n C dX12_digest_109 rfl 1 rfl ?_
      obtain ⟨g_32, h⟩ := gdE h
      refine ldM_5 C g_32 dX12_digest_110 ?_
      refine r_if_ge (tgt := 118) C dX12_digest_111 (by decide) (fun c_33 => ?_) (fun c_33 => ?_)
      · have h := ip h c_33
        refine r_aload_n C dX12_digest_118 rfl 0 rfl ?_
        refine gfX12_17 C dX12_digest_119 ?_
        refine r_iload_n C dX12_digest_122 rfl 1 rfl ?_
        obtain ⟨g_34, h⟩ := gdE h
        refine ldM_5 C g_34 dX12_digest_123 ?_
        refine r_sub [0, 1] rfl ?_
        exact t_X12_digest_J124 ih C h
      · have h := iq h c_33
        refine r_iconst (v := (-1)) C dX12_digest_114 (by decide) ?_
        refine r_goto (tgt := 124) C dX12_digest_115 (by decide) ?_
        refine r_sub [0, 1] rfl ?_
        exact t_X12_digest_J124 ih C h
set_option maxHeartbeats 4000000 in
set_option maxRecDepth 100000 in
theorem t_X12_digest_L193 {x : Ctx} {w : Wp} {v1_62 : Int32} {z : Int64 × St}  {K224 : St → Option (Int64 × St)} (hK224 : ∀ (s_69 : St), K224 s_69 = some z → V x WM w 3 (QM x WM w (some (.long z.1)) z.2) s_69 224 [(0, .ref (wa w 0 0)), (1, .int v1_62)] []) (C : Cx x WM w cX12_digest 3 RX12 3 (some .long)) : ∀ (n : Nat) (v2_63 : Int32) (s_64 : St), M_digest_L193 K224 v1_62 n v2_63 s_64 = some z → V x WM w 3 (QM x WM w (some (.long z.1)) z.2) s_64 193 [(0, .ref (wa w 0 0)), (1, .int v1_62), (2, .int v2_63)] [] := by
  intro n
  induction n with
  | zero => intro v2_63 s_64 h; cases h
  | succ n ih =>
    intro v2_63 s_64 h
    unfold M_digest_L193 at h
    refine r_iload_n C dX12_digest_193 rfl 2 rfl ?_
    refine r_aload_n C dX12_digest_194 rfl 0 rfl ?_
    refine gfX12_26 C dX12_digest_195 ?_
    refine r_iload_n C dX12_digest_198 rfl 1 rfl ?_
    obtain ⟨g_65, h⟩ := gdE h
    refine ldM_8 C g_65 dX12_digest_199 ?_
    refine r_icmp_ge (tgt := 224) C dX12_digest_200 (by decide) (fun c_66 => ?_) (fun c_66 => ?_)
    · have h := ip h c_66
      refine r_sub [0, 1] rfl ?_
      exact hK224 _ h
    · have h := iq h c_66
      refine r_aload_n C dX12_digest_203 rfl 0 rfl ?_
      refine r_aload_n C dX12_digest_204 rfl 0 rfl ?_
      refine gfX12_29 C dX12_digest_205 ?_
      refine r_bipush (v := 40) C dX12_digest_208 (by decide) ?_
      refine r_iload_n C dX12_digest_210 rfl 1 rfl ?_
      refine r_imul C dX12_digest_211 ?_
      refine r_iload_n C dX12_digest_212 rfl 2 rfl ?_
      refine r_iadd C dX12_digest_213 ?_
      obtain ⟨g_67, h⟩ := gdE h
      refine ldM_9 C g_67 dX12_digest_214 ?_
      obtain ⟨r_68, er_68, h⟩ := bdE h
      refine kX12_291 C (m_X12_mix er_68) (by decide) (Nat.le_of_ble_eq_true rfl) dX12_digest_215 ?_
      refine r_iinc (v := v2_63 + 1) C dX12_digest_218 (j := 2) rfl rfl (Nat.le_of_ble_eq_true rfl) (L' := [(2, _), (0, _), (1, _)]) rfl ?_
      refine r_goto (tgt := 193) C dX12_digest_221 (by decide) ?_
      refine r_sub [1, 2, 0] rfl ?_
      exact ih _ _ h
set_option maxHeartbeats 4000000 in
set_option maxRecDepth 100000 in
theorem t_X12_digest_J188 {x : Ctx} {w : Wp} {v1_58 : Int32} {t_59 : Int32} {s_60 : St} {z : Int64 × St}  {B163 : Int32 → St → Option (Int64 × St)} (hB163 : ∀ (u1_71 : Int32) (s_72 : St), B163 u1_71 s_72 = some z → V x WM w 3 (QM x WM w (some (.long z.1)) z.2) s_72 163 [(0, .ref (wa w 0 0)), (1, .int u1_71)] []) (C : Cx x WM w cX12_digest 3 RX12 3 (some .long)) (h : M_digest_J188 B163 v1_58 t_59 s_60 = some z) : V x WM w 3 (QM x WM w (some (.long z.1)) z.2) s_60 188 [(0, .ref (wa w 0 0)), (1, .int v1_58)] [.int t_59, .ref (wa w 0 0)] := by
  unfold M_digest_J188 at h
  obtain ⟨r_61, er_61, h⟩ := bdE h
  refine kX12_291 C (m_X12_mix er_61) (by decide) (Nat.le_of_ble_eq_true rfl) dX12_digest_188 ?_
  refine r_iconst (v := 0) C dX12_digest_191 (by decide) ?_
  refine r_istore_n C dX12_digest_192 rfl (Nat.le_of_ble_eq_true rfl) (L' := [(2, _), (0, _), (1, _)]) rfl ?_
  refine r_sub [1, 2, 0] rfl ?_
  refine t_X12_digest_L193 (fun s_70 h => ?_) C _ _ _ h
  refine r_iinc (v := v1_58 + 1) C dX12_digest_224 (j := 1) rfl rfl (Nat.le_of_ble_eq_true rfl) (L' := [(1, _), (0, _)]) rfl ?_
  refine r_goto (tgt := 163) C dX12_digest_227 (by decide) ?_
  refine r_sub [1, 0] rfl ?_
  exact hB163 _ _ h
set_option maxHeartbeats 4000000 in
set_option maxRecDepth 100000 in
theorem t_X12_digest_L163 {x : Ctx} {w : Wp}  {z : Int64 × St}    (C : Cx x WM w cX12_digest 3 RX12 3 (some .long)) : ∀ (n : Nat) (v1_52 : Int32) (s_53 : St), M_digest_L163 n v1_52 s_53 = some z → V x WM w 3 (QM x WM w (some (.long z.1)) z.2) s_53 163 [(0, .ref (wa w 0 0)), (1, .int v1_52)] [] := by
  intro n
  induction n with
  | zero => intro v1_52 s_53 h; cases h
  | succ n ih =>
    intro v1_52 s_53 h
    unfold M_digest_L163 at h
    refine r_iload_n C dX12_digest_163 rfl 1 rfl ?_
    refine r_iconst (v := 4) C dX12_digest_164 (by decide) ?_
    refine r_icmp_ge (tgt := 230) C dX12_digest_165 (by decide) (fun c_54 => ?_) (fun c_54 => ?_)
    · have h := ip h c_54
      refine r_aload_n C dX12_digest_230 rfl 0 rfl ?_
      refine gfX12_288 C dX12_digest_231 ?_
      cases h
      exact r_lret C dX12_digest_234
    · have h := iq h c_54
      refine r_aload_n C dX12_digest_168 rfl 0 rfl ?_
      refine r_aload_n C dX12_digest_169 rfl 0 rfl ?_
      refine gfX12_26 C dX12_digest_170 ?_
      refine r_iload_n C dX12_digest_173 rfl 1 rfl ?_
      obtain ⟨g_55, h⟩ := gdE h
      refine ldM_8 C g_55 dX12_digest_174 ?_
      refine r_if_ge (tgt := 182) C dX12_digest_175 (by decide) (fun c_56 => ?_) (fun c_56 => ?_)
      · have h := ip h c_56
        refine r_aload_n C dX12_digest_182 rfl 0 rfl ?_
        refine gfX12_26 C dX12_digest_183 ?_
        refine r_iload_n C dX12_digest_186 rfl 1 rfl ?_
        obtain ⟨g_57, h⟩ := gdE h
        refine ldM_8 C g_57 dX12_digest_187 ?_
        refine r_sub [0, 1] rfl ?_
        exact t_X12_digest_J188 ih C h
      · have h := iq h c_56
        refine r_iconst (v := (-1)) C dX12_digest_178 (by decide) ?_
        refine r_goto (tgt := 188) C dX12_digest_179 (by decide) ?_
        refine r_sub [0, 1] rfl ?_
        exact t_X12_digest_J188 ih C h
set_option maxHeartbeats 4000000 in
set_option maxRecDepth 100000 in
theorem m_X12_digest {l : Launch} {w : Wp}   {s0 : St} {z : Int64 × St} (h : M_digest s0 = some z) : Cm l yX12_digest (.code yX12_digest cX12_digest 3 (some .long)) 3 WM w [.ref (wa w 0 0)] s0 (some (.long z.1)) z.2 := by
  refine Cm.of (own := RX12) (by decide +kernel) rfl (Nat.le_of_ble_eq_true rfl) (L := [(0, .ref (wa w 0 0))]) rfl KoM (fun x hl C => ?_)
  subst hl
  unfold M_digest at h
  refine r_aload_n C dX12_digest_0 rfl 0 rfl ?_
  refine r_ldc2 C dX12_digest_1 q_1476 ?_
  refine pfX12_288 C dX12_digest_4 ?_
  refine r_iconst (v := 0) C dX12_digest_7 (by decide) ?_
  refine r_istore_n C dX12_digest_8 rfl (Nat.le_of_ble_eq_true rfl) (L' := [(1, _), (0, _)]) rfl ?_
  refine r_sub [1, 0] rfl ?_
  refine t_X12_digest_L9 (fun s_7 h => ?_) C _ _ _ h
  refine r_aload_n C dX12_digest_30 rfl 0 rfl ?_
  obtain ⟨r_8, er_8, h⟩ := bdE h
  refine kX12_296 C (m_X12_mixSayings er_8) (by decide) (Nat.le_of_ble_eq_true rfl) dX12_digest_31 ?_
  refine r_iconst (v := 0) C dX12_digest_34 (by decide) ?_
  refine r_istore_n C dX12_digest_35 rfl (Nat.le_of_ble_eq_true rfl) (L' := [(1, _), (0, _)]) rfl ?_
  refine r_sub [1, 0] rfl ?_
  refine t_X12_digest_L36 (fun s_15 h => ?_) C _ _ _ h
  refine r_iconst (v := 0) C dX12_digest_57 (by decide) ?_
  refine r_istore_n C dX12_digest_58 rfl (Nat.le_of_ble_eq_true rfl) (L' := [(1, _), (0, _)]) rfl ?_
  refine r_sub [1, 0] rfl ?_
  refine t_X12_digest_L59 (fun s_28 h => ?_) C _ _ _ h
  refine r_iconst (v := 0) C dX12_digest_96 (by decide) ?_
  refine r_istore_n C dX12_digest_97 rfl (Nat.le_of_ble_eq_true rfl) (L' := [(1, _), (0, _)]) rfl ?_
  refine r_sub [1, 0] rfl ?_
  refine t_X12_digest_L98 (fun s_51 h => ?_) C _ _ _ h
  refine r_iconst (v := 0) C dX12_digest_161 (by decide) ?_
  refine r_istore_n C dX12_digest_162 rfl (Nat.le_of_ble_eq_true rfl) (L' := [(1, _), (0, _)]) rfl ?_
  refine r_sub [1, 0] rfl ?_
  exact t_X12_digest_L163 C _ _ _ h
