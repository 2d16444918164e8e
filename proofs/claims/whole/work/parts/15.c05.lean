def Pg_closes (v1 : Nat) (v2 : Int32) (s0 : St) : Option (Int32) :=
  if inb (s0.1 28 v1 1) 24 = true then if inb v2 24 = true then Option.bind (Bk_caseTraits (s0.1 28 v1 1) s0) (fun r_3 => Option.bind (Bk_caseTraits v2 s0) (fun r_4 => if (s0.1 28 v1 0) = 2 then (some (if ((ush (r_3 ^^^ r_4) (s0.1 28 v1 2)) &&& 1) = 1 then 1 else 0 : Int32)) else (if (s0.1 28 v1 0) = 3 then (if inb (s0.1 28 v1 2) 8 = true then Option.bind (Ru_verdict (s0.1 24 ((s0.1 28 v1 2).toNatClampNeg) 2) r_4 s0) (fun r_10 => some (if r_10 = (s0.1 26 v2.toNatClampNeg 3) then 1 else 0 : Int32)) else none) else (if (s0.1 28 v1 0) = 4 then (if inb (s0.1 26 v2.toNatClampNeg 0) 8 = true then Option.bind (Pg_fitsSomeCheap ((s0.1 28 v1 1).toNatClampNeg) (r_3 ^^^ (1 <<< ((s0.1 28 v1 2) &&& 31))) ((s0.1 26 v2.toNatClampNeg 0).toNatClampNeg) s0) (fun r_15 => if r_15 = 0 ∨ r_15 = 1 then some r_15 else none) else none) else (if (s0.1 28 v1 0) = 5 then (some (if (s0.1 26 ((s0.1 28 v1 1).toNatClampNeg) 0) = (s0.1 26 v2.toNatClampNeg 0) then (if (if (s0.1 28 v1 2) ≤ (s0.1 26 ((s0.1 28 v1 1).toNatClampNeg) 2) then 0 else 1 : Int32) = (if (s0.1 28 v1 2) ≤ (s0.1 26 v2.toNatClampNeg 2) then 0 else 1 : Int32) then 0 else 1) else 0 : Int32)) else (some 1)))))) else none else none
set_option maxHeartbeats 4000000 in
set_option maxRecDepth 100000 in
theorem m_X6_closes {l : Launch} {w : Wp} {v1 : Nat} {v2 : Int32} (hv1 : v1 < 40) {s0 : St} {z : Int32} (h : Pg_closes v1 v2 s0 = some z) : Cm l yX6_closes (.code yX6_closes cX6_closes 8 (some .boolean)) 3 WC w [.ref (wa w 4 0), .ref (wa w 28 v1), .int v2, .ref (wa w 15 0)] s0 (some (.int z)) s0 := by
  refine Cm.of (own := RX6) (by decide +kernel) rfl (Nat.le_of_ble_eq_true rfl) (L := [(0, .ref (wa w 4 0)), (1, .ref (wa w 28 v1)), (2, .int v2), (3, .ref (wa w 15 0))]) rfl KoC (fun x hl C => ?_)
  subst hl
  unfold Pg_closes at h
  refine r_aload_n C dX6_closes_0 rfl 0 rfl ?_
  refine gfX6_27 C dX6_closes_1 ?_
  refine gfX6_54 C dX6_closes_4 ?_
  refine r_aload_n C dX6_closes_7 rfl 1 rfl ?_
  refine gfX6_48 C hv1 dX6_closes_8 ?_
  obtain ⟨g_1, h⟩ := gdE h
  refine la_16 C g_1 dX6_closes_11 ?_
  refine r_astore C dX6_closes_12 (Nat.le_of_ble_eq_true rfl) (L' := [(4, _), (0, _), (1, _), (2, _), (3, _)]) rfl ?_
  refine r_aload_n C dX6_closes_14 rfl 1 rfl ?_
  refine gfX6_27 C dX6_closes_15 ?_
  refine gfX6_54 C dX6_closes_18 ?_
  refine r_iload_n C dX6_closes_21 rfl 3 rfl ?_
  obtain ⟨g_2, h⟩ := gdE h
  refine la_16 C g_2 dX6_closes_22 ?_
  refine r_astore C dX6_closes_23 (Nat.le_of_ble_eq_true rfl) (L' := [(5, _), (4, _), (0, _), (1, _), (2, _), (3, _)]) rfl ?_
  refine r_aload_n C dX6_closes_25 rfl 2 rfl ?_
  refine gfX6_27 C dX6_closes_26 ?_
  refine r_aload_n C dX6_closes_29 rfl 3 rfl ?_
  refine gfX6_48 C hv1 dX6_closes_30 ?_
  obtain ⟨r_3, er_3, h⟩ := bdE h
  refine kX6_58 C (m_X1_caseTraits er_3) (by decide) (Nat.le_of_ble_eq_true rfl) dX6_closes_33 ?_
  refine r_istore C dX6_closes_36 (Nat.le_of_ble_eq_true rfl) (L' := [(6, _), (5, _), (4, _), (0, _), (1, _), (2, _), (3, _)]) rfl ?_
  refine r_aload_n C dX6_closes_38 rfl 3 rfl ?_
  refine gfX6_27 C dX6_closes_39 ?_
  refine r_iload_n C dX6_closes_42 rfl 5 rfl ?_
  obtain ⟨r_4, er_4, h⟩ := bdE h
  refine kX6_58 C (m_X1_caseTraits er_4) (by decide) (Nat.le_of_ble_eq_true rfl) dX6_closes_43 ?_
  refine r_istore C dX6_closes_46 (Nat.le_of_ble_eq_true rfl) (L' := [(7, _), (6, _), (5, _), (4, _), (0, _), (1, _), (2, _), (3, _)]) rfl ?_
  refine r_aload_n C dX6_closes_48 rfl 5 rfl ?_
  refine gfX6_45 C hv1 dX6_closes_49 ?_
  by_cases c_5 : (s0.1 28 v1 0) = 2
  · have h := ip h c_5
    refine r_tabIn (tgt := 84) C dX6_closes_52 c_5 (by decide) (by decide) rfl (by decide) ?_
    refine r_iload C dX6_closes_84 1 rfl ?_
    refine r_iload C dX6_closes_86 0 rfl ?_
    refine r_ixor C dX6_closes_88 ?_
    refine r_aload_n C dX6_closes_89 rfl 5 rfl ?_
    refine gfX6_51 C hv1 dX6_closes_90 ?_
    refine r_iushr (v := ush (r_3 ^^^ r_4) (s0.1 28 v1 2)) C dX6_closes_93 rfl ?_
    refine r_iconst (v := 1) C dX6_closes_94 (by decide) ?_
    refine r_iand C dX6_closes_95 ?_
    refine r_iconst (v := 1) C dX6_closes_96 (by decide) ?_
    refine r_em (st := []) 105 ((if ((ush (r_3 ^^^ r_4) (s0.1 28 v1 2)) &&& 1) = 1 then 1 else 0 : Int32)) (fun hM_7 => ?_) ?_
    · refine r_icmp_ne (tgt := 104) C dX6_closes_97 (by decide) (fun c_6 => ?_) (fun c_6 => ?_)
      · refine r_iconst (v := 0) C dX6_closes_104 (by decide) ?_
        exact (em_neg c_6 hM_7)
      · refine r_iconst (v := 1) C dX6_closes_100 (by decide) ?_
        refine r_goto (tgt := 105) C dX6_closes_101 (by decide) ?_
        exact (em_pos c_6 hM_7)
    cases h
    exact r_zret C (nb_ite rfl rfl) dX6_closes_105
  have h := iq h c_5
  by_cases c_8 : (s0.1 28 v1 0) = 3
  · have h := ip h c_8
    refine r_tabIn (tgt := 106) C dX6_closes_52 c_8 (by decide) (by decide) rfl (by decide) ?_
    refine r_aload_n C dX6_closes_106 rfl 4 rfl ?_
    refine gfX6_27 C dX6_closes_107 ?_
    refine gfX6_67 C dX6_closes_110 ?_
    refine r_aload_n C dX6_closes_113 rfl 7 rfl ?_
    refine r_aload_n C dX6_closes_114 rfl 5 rfl ?_
    refine gfX6_51 C hv1 dX6_closes_115 ?_
    obtain ⟨g_9, h⟩ := gdE h
    refine la_15 C g_9 dX6_closes_118 ?_
    refine gfX6_71 C (inb_lt g_9) dX6_closes_119 ?_
    refine gfX6_77 C (inb_lt g_9) dX6_closes_122 ?_
    refine r_iload C dX6_closes_125 0 rfl ?_
    obtain ⟨r_10, er_10, h⟩ := bdE h
    refine kX6_82 C (m_X8_verdict er_10) (by decide) (Nat.le_of_ble_eq_true rfl) dX6_closes_127 ?_
    refine r_aload C dX6_closes_130 2 rfl ?_
    refine gfX6_125 C (inb_lt g_2) dX6_closes_132 ?_
    refine r_em (st := []) 143 ((if r_10 = (s0.1 26 v2.toNatClampNeg 3) then 1 else 0 : Int32)) (fun hM_12 => ?_) ?_
    · refine r_icmp_ne (tgt := 142) C dX6_closes_135 (by decide) (fun c_11 => ?_) (fun c_11 => ?_)
      · refine r_iconst (v := 0) C dX6_closes_142 (by decide) ?_
        exact (em_neg c_11 hM_12)
      · refine r_iconst (v := 1) C dX6_closes_138 (by decide) ?_
        refine r_goto (tgt := 143) C dX6_closes_139 (by decide) ?_
        exact (em_pos c_11 hM_12)
    cases h
    exact r_zret C (nb_ite rfl rfl) dX6_closes_143
  have h := iq h c_8
  by_cases c_13 : (s0.1 28 v1 0) = 4
  · have h := ip h c_13
    refine r_tabIn (tgt := 144) C dX6_closes_52 c_13 (by decide) (by decide) rfl (by decide) ?_
    refine r_aload_n C dX6_closes_144 rfl 4 rfl ?_
    refine r_aload C dX6_closes_145 3 rfl ?_
    refine r_iload C dX6_closes_147 1 rfl ?_
    refine r_iconst (v := 1) C dX6_closes_149 (by decide) ?_
    refine r_aload_n C dX6_closes_150 rfl 5 rfl ?_
    refine gfX6_51 C hv1 dX6_closes_151 ?_
    refine r_ishl C dX6_closes_154 ?_
    refine r_ixor C dX6_closes_155 ?_
    refine r_aload_n C dX6_closes_156 rfl 7 rfl ?_
    refine r_aload C dX6_closes_157 2 rfl ?_
    refine gfX6_88 C (inb_lt g_2) dX6_closes_159 ?_
    obtain ⟨g_14, h⟩ := gdE h
    refine la_15 C g_14 dX6_closes_162 ?_
    refine gfX6_71 C (inb_lt g_14) dX6_closes_163 ?_
    obtain ⟨r_15, er_15, h⟩ := bdE h
    refine kX6_128 C (m_X6_fitsSomeCheap (inb_lt g_1) (inb_lt g_14) er_15) (by decide) (Nat.le_of_ble_eq_true rfl) dX6_closes_166 ?_
    obtain ⟨g_16, h⟩ := gdE h
    cases h
    exact r_zret C (nb_01 g_16) dX6_closes_169
  have h := iq h c_13
  by_cases c_17 : (s0.1 28 v1 0) = 5
  · have h := ip h c_17
    refine r_tabIn (tgt := 170) C dX6_closes_52 c_17 (by decide) (by decide) rfl (by decide) ?_
    refine r_aload C dX6_closes_170 3 rfl ?_
    refine gfX6_88 C (inb_lt g_1) dX6_closes_172 ?_
    refine r_aload C dX6_closes_175 2 rfl ?_
    refine gfX6_88 C (inb_lt g_2) dX6_closes_177 ?_
    refine r_em (st := []) 225 ((if (s0.1 26 ((s0.1 28 v1 1).toNatClampNeg) 0) = (s0.1 26 v2.toNatClampNeg 0) then (if (if (s0.1 28 v1 2) ≤ (s0.1 26 ((s0.1 28 v1 1).toNatClampNeg) 2) then 0 else 1 : Int32) = (if (s0.1 28 v1 2) ≤ (s0.1 26 v2.toNatClampNeg 2) then 0 else 1 : Int32) then 0 else 1) else 0 : Int32)) (fun hM_24 => ?_) ?_
    · refine r_icmp_ne (tgt := 224) C dX6_closes_180 (by decide) (fun c_23 => ?_) (fun c_23 => ?_)
      · refine r_iconst (v := 0) C dX6_closes_224 (by decide) ?_
        exact (em_neg c_23 hM_24)
      · refine r_aload C dX6_closes_183 3 rfl ?_
        refine gfX6_111 C (inb_lt g_1) dX6_closes_185 ?_
        refine r_aload_n C dX6_closes_188 rfl 5 rfl ?_
        refine gfX6_51 C hv1 dX6_closes_189 ?_
        refine r_em (st := []) 200 ((if (s0.1 28 v1 2) ≤ (s0.1 26 ((s0.1 28 v1 1).toNatClampNeg) 2) then 0 else 1 : Int32)) (fun hM_19 => ?_) ?_
        · refine r_icmp_ge (tgt := 199) C dX6_closes_192 (by decide) (fun c_18 => ?_) (fun c_18 => ?_)
          · refine r_iconst (v := 0) C dX6_closes_199 (by decide) ?_
            exact (em_pos c_18 hM_19)
          · refine r_iconst (v := 1) C dX6_closes_195 (by decide) ?_
            refine r_goto (tgt := 200) C dX6_closes_196 (by decide) ?_
            exact (em_neg c_18 hM_19)
        refine r_aload C dX6_closes_200 2 rfl ?_
        refine gfX6_111 C (inb_lt g_2) dX6_closes_202 ?_
        refine r_aload_n C dX6_closes_205 rfl 5 rfl ?_
        refine gfX6_51 C hv1 dX6_closes_206 ?_
        refine r_em (st := [.int (if (s0.1 28 v1 2) ≤ (s0.1 26 ((s0.1 28 v1 1).toNatClampNeg) 2) then 0 else 1 : Int32)]) 217 ((if (s0.1 28 v1 2) ≤ (s0.1 26 v2.toNatClampNeg 2) then 0 else 1 : Int32)) (fun hM_21 => ?_) ?_
        · refine r_icmp_ge (tgt := 216) C dX6_closes_209 (by decide) (fun c_20 => ?_) (fun c_20 => ?_)
          · refine r_iconst (v := 0) C dX6_closes_216 (by decide) ?_
            exact (em_pos c_20 hM_21)
          · refine r_iconst (v := 1) C dX6_closes_212 (by decide) ?_
            refine r_goto (tgt := 217) C dX6_closes_213 (by decide) ?_
            exact (em_neg c_20 hM_21)
        refine r_icmp_eq (tgt := 224) C dX6_closes_217 (by decide) (fun c_22 => ?_) (fun c_22 => ?_)
        · refine r_iconst (v := 0) C dX6_closes_224 (by decide) ?_
          exact (em_pos c_22 (em_pos c_23 hM_24))
        · refine r_iconst (v := 1) C dX6_closes_220 (by decide) ?_
          refine r_goto (tgt := 225) C dX6_closes_221 (by decide) ?_
          exact (em_neg c_22 (em_pos c_23 hM_24))
    cases h
    exact r_zret C (nb_ite (nb_ite rfl rfl) rfl) dX6_closes_225
  have h := iq h c_17
  refine r_tabOut (tgt := 226) C dX6_closes_52 (by have q0 := tq_ne (k := 2) (by decide) c_5; have q1 := tq_ne (k := 3) (by decide) c_8; have q2 := tq_ne (k := 4) (by decide) c_13; have q3 := tq_ne (k := 5) (by decide) c_17; omega) (by decide) ?_
  refine r_iconst (v := 1) C dX6_closes_226 (by decide) ?_
  cases h
  exact r_zret C rfl dX6_closes_227
def Pg_readThrough_J143 (B12 : Int32 → St → Option (St)) (v2_16 : Int32)  (s_17 : St) : Option (St) :=
  B12 (v2_16 + 1) s_17
def Pg_readThrough_J133 (B12 : Int32 → St → Option (St)) (v2_14 : Int32)  (s_15 : St) : Option (St) :=
  Pg_readThrough_J143 B12 v2_14 (sX s_15 4 0 3 ((s_15.1 4 0 3) + 1))
def Pg_readThrough_J61 (B12 : Int32 → St → Option (St)) (v2_8 : Int32) (n3_9 : Nat)  (s_10 : St) : Option (St) :=
  if 2 ≤ (s_10.1 28 n3_9 0) then (Option.bind (Pg_lastOpen v2_8 (s_10.1 28 n3_9 1) s_10) (fun r_12 => if r_12 = (-9) then (Pg_readThrough_J133 B12 v2_8 s_10) else (if inb r_12 40 = true then Option.bind (Pg_closes n3_9 (s_10.1 28 r_12.toNatClampNeg 2) s_10) (fun r_23 => if r_23 = 0 then (Pg_readThrough_J133 B12 v2_8 s_10) else (if inb r_12 40 = true then Pg_readThrough_J143 B12 v2_8 (sX (sX s_10 28 r_12.toNatClampNeg 3 0) 4 0 2 (((sX s_10 28 r_12.toNatClampNeg 3 0).1 4 0 2) - 1)) else none)) else none))) else (Pg_readThrough_J143 B12 v2_8 s_10)
def Pg_readThrough_L12   : Nat → Int32 → St → Option (St)
  | 0, _, _ => none
  | n + 1, v2_1, s_2 => if (s_2.1 4 0 1) ≤ v2_1 then (some s_2) else (if inb v2_1 40 = true then if ((sX s_2 28 v2_1.toNatClampNeg 3 (if (s_2.1 28 v2_1.toNatClampNeg 0) = 1 then 1 else 0 : Int32)).1 28 v2_1.toNatClampNeg 3) = 0 then (Pg_readThrough_J61 (Pg_readThrough_L12 n) v2_1 v2_1.toNatClampNeg (sX s_2 28 v2_1.toNatClampNeg 3 (if (s_2.1 28 v2_1.toNatClampNeg 0) = 1 then 1 else 0 : Int32))) else (Pg_readThrough_J61 (Pg_readThrough_L12 n) v2_1 v2_1.toNatClampNeg (sX (sX s_2 28 v2_1.toNatClampNeg 3 (if (s_2.1 28 v2_1.toNatClampNeg 0) = 1 then 1 else 0 : Int32)) 4 0 2 (((sX s_2 28 v2_1.toNatClampNeg 3 (if (s_2.1 28 v2_1.toNatClampNeg 0) = 1 then 1 else 0 : Int32)).1 4 0 2) + 1))) else none)
def Pg_readThrough  (s0 : St) : Option (St) :=
  Pg_readThrough_L12 1100 0 (sX (sX s0 4 0 2 0) 4 0 3 0)
set_option maxHeartbeats 4000000 in
set_option maxRecDepth 100000 in
theorem t_X6_readThrough_J143 {x : Ctx} {w : Wp} {v2_16 : Int32}  {s_17 : St} {z : St}  {B12 : Int32 → St → Option (St)} (hB12 : ∀ (u2_18 : Int32) (s_19 : St), B12 u2_18 s_19 = some z → V x WC w 5 (QM x WC w none z) s_19 12 [(0, .ref (wa w 4 0)), (1, .ref (wa w 15 0)), (2, .int u2_18)] []) (C : Cx x WC w cX6_readThrough 5 RX6 4 none) (h : Pg_readThrough_J143 B12 v2_16 s_17 = some z) : V x WC w 5 (QM x WC w none z) s_17 143 [(0, .ref (wa w 4 0)), (1, .ref (wa w 15 0)), (2, .int v2_16)] [] := by
  unfold Pg_readThrough_J143 at h
  refine r_iinc (v := v2_16 + 1) C dX6_readThrough_143 (j := 2) rfl rfl (Nat.le_of_ble_eq_true rfl) (L' := [(2, _), (0, _), (1, _)]) rfl ?_
  refine r_goto (tgt := 12) C dX6_readThrough_146 (by decide) ?_
  refine r_sub [1, 2, 0] rfl ?_
  exact hB12 _ _ h
set_option maxHeartbeats 4000000 in
set_option maxRecDepth 100000 in
theorem t_X6_readThrough_J133 {x : Ctx} {w : Wp} {v2_14 : Int32}  {s_15 : St} {z : St}  {B12 : Int32 → St → Option (St)} (hB12 : ∀ (u2_20 : Int32) (s_21 : St), B12 u2_20 s_21 = some z → V x WC w 5 (QM x WC w none z) s_21 12 [(0, .ref (wa w 4 0)), (1, .ref (wa w 15 0)), (2, .int u2_20)] []) (C : Cx x WC w cX6_readThrough 5 RX6 4 none) (h : Pg_readThrough_J133 B12 v2_14 s_15 = some z) : V x WC w 5 (QM x WC w none z) s_15 133 [(0, .ref (wa w 4 0)), (1, .ref (wa w 15 0)), (2, .int v2_14)] [] := by
  unfold Pg_readThrough_J133 at h
  refine r_aload_n C dX6_readThrough_133 rfl 0 rfl ?_
  refine r_dup C dX6_readThrough_134 rfl ?_
  refine gfX6_24 C dX6_readThrough_135 ?_
  refine r_iconst (v := 1) C dX6_readThrough_138 (by decide) ?_
  refine r_iadd C dX6_readThrough_139 ?_
  refine pfX6_24 C dX6_readThrough_140 ?_
  refine r_sub [0, 1, 2] rfl ?_
  exact t_X6_readThrough_J143 hB12 C h
set_option maxHeartbeats 4000000 in
set_option maxRecDepth 100000 in
theorem t_X6_readThrough_J61 {x : Ctx} {w : Wp} {v2_8 : Int32} {n3_9 : Nat}  {s_10 : St} {z : St} (hn3_9 : n3_9 < 40) {B12 : Int32 → St → Option (St)} (hB12 : ∀ (u2_26 : Int32) (s_27 : St), B12 u2_26 s_27 = some z → V x WC w 5 (QM x WC w none z) s_27 12 [(0, .ref (wa w 4 0)), (1, .ref (wa w 15 0)), (2, .int u2_26)] []) (C : Cx x WC w cX6_readThrough 5 RX6 4 none) (h : Pg_readThrough_J61 B12 v2_8 n3_9 s_10 = some z) : V x WC w 5 (QM x WC w none z) s_10 61 [(0, .ref (wa w 4 0)), (1, .ref (wa w 15 0)), (2, .int v2_8), (3, .ref (wa w 28 n3_9))] [] := by
  unfold Pg_readThrough_J61 at h
  refine r_aload_n C dX6_readThrough_61 rfl 3 rfl ?_
  refine gfX6_45 C hn3_9 dX6_readThrough_62 ?_
  refine r_iconst (v := 2) C dX6_readThrough_65 (by decide) ?_
  refine r_icmp_ge (tgt := 72) C dX6_readThrough_66 (by decide) (fun c_11 => ?_) (fun c_11 => ?_)
  · have h := ip h c_11
    refine r_aload_n C dX6_readThrough_72 rfl 0 rfl ?_
    refine r_iload_n C dX6_readThrough_73 rfl 2 rfl ?_
    refine r_aload_n C dX6_readThrough_74 rfl 3 rfl ?_
    refine gfX6_48 C hn3_9 dX6_readThrough_75 ?_
    obtain ⟨r_12, er_12, h⟩ := bdE h
    refine kX6_118 C (m_X6_lastOpen er_12) (by decide) (Nat.le_of_ble_eq_true rfl) dX6_readThrough_78 ?_
    refine r_istore C dX6_readThrough_81 (Nat.le_of_ble_eq_true rfl) (L' := [(4, _), (0, _), (1, _), (2, _), (3, _)]) rfl ?_
    refine r_iload C dX6_readThrough_83 0 rfl ?_
    refine r_bipush (v := (-9)) C dX6_readThrough_85 (by decide) ?_
    refine r_icmp_eq (tgt := 133) C dX6_readThrough_87 (by decide) (fun c_13 => ?_) (fun c_13 => ?_)
    · have h := ip h c_13
      refine r_sub [1, 2, 3] rfl ?_
      exact t_X6_readThrough_J133 hB12 C h
    · have h := iq h c_13
      refine r_aload_n C dX6_readThrough_90 rfl 1 rfl ?_
      refine r_aload_n C dX6_readThrough_91 rfl 4 rfl ?_
      refine r_aload_n C dX6_readThrough_92 rfl 1 rfl ?_
      refine gfX6_11 C dX6_readThrough_93 ?_
      refine r_iload C dX6_readThrough_96 0 rfl ?_
      obtain ⟨g_22, h⟩ := gdE h
      refine la_17 C g_22 dX6_readThrough_98 ?_
      refine gfX6_51 C (inb_lt g_22) dX6_readThrough_99 ?_
      refine r_aload_n C dX6_readThrough_102 rfl 2 rfl ?_
      obtain ⟨r_23, er_23, h⟩ := bdE h
      refine kX6_121 C (m_X6_closes hn3_9 er_23) (by decide) (Nat.le_of_ble_eq_true rfl) dX6_readThrough_103 ?_
      refine r_if_eq (tgt := 133) C dX6_readThrough_106 (by decide) (fun c_24 => ?_) (fun c_24 => ?_)
      · have h := ip h c_24
        refine r_sub [1, 2, 3] rfl ?_
        exact t_X6_readThrough_J133 hB12 C h
      · have h := iq h c_24
        refine r_aload_n C dX6_readThrough_109 rfl 1 rfl ?_
        refine gfX6_11 C dX6_readThrough_110 ?_
        refine r_iload C dX6_readThrough_113 0 rfl ?_
        obtain ⟨g_25, h⟩ := gdE h
        refine la_17 C g_25 dX6_readThrough_115 ?_
        refine r_iconst (v := 0) C dX6_readThrough_116 (by decide) ?_
        refine pfX6_114 C (inb_lt g_25) (nb_01 (Or.inl rfl)) (fb_01 (Or.inl rfl)) dX6_readThrough_117 ?_
        refine r_aload_n C dX6_readThrough_120 rfl 1 rfl ?_
        refine r_dup C dX6_readThrough_121 rfl ?_
        refine gfX6_21 C dX6_readThrough_122 ?_
        refine r_iconst (v := 1) C dX6_readThrough_125 (by decide) ?_
        refine r_isub C dX6_readThrough_126 ?_
        refine pfX6_21 C dX6_readThrough_127 ?_
        refine r_goto (tgt := 143) C dX6_readThrough_130 (by decide) ?_
        refine r_sub [1, 2, 3] rfl ?_
        exact t_X6_readThrough_J143 hB12 C h
  · have h := iq h c_11
    refine r_goto (tgt := 143) C dX6_readThrough_69 (by decide) ?_
    refine r_sub [0, 1, 2] rfl ?_
    exact t_X6_readThrough_J143 hB12 C h
set_option maxHeartbeats 4000000 in
set_option maxRecDepth 100000 in
theorem t_X6_readThrough_L12 {x : Ctx} {w : Wp}  {z : St}    (C : Cx x WC w cX6_readThrough 5 RX6 4 none) : ∀ (n : Nat) (v2_1 : Int32) (s_2 : St), Pg_readThrough_L12 n v2_1 s_2 = some z → V x WC w 5 (QM x WC w none z) s_2 12 [(0, .ref (wa w 4 0)), (1, .ref (wa w 15 0)), (2, .int v2_1)] [] := by
  intro n
  induction n with
  | zero => intro v2_1 s_2 h; cases h
  | succ n ih =>
    intro v2_1 s_2 h
    unfold Pg_readThrough_L12 at h
    refine r_iload_n C dX6_readThrough_12 rfl 2 rfl ?_
    refine r_aload_n C dX6_readThrough_13 rfl 0 rfl ?_
    refine gfX6_17 C dX6_readThrough_14 ?_
    refine r_icmp_ge (tgt := 149) C dX6_readThrough_17 (by decide) (fun c_3 => ?_) (fun c_3 => ?_)
    · have h := ip h c_3
      cases h
      exact r_vret C dX6_readThrough_149
    · have h := iq h c_3
      refine r_aload_n C dX6_readThrough_20 rfl 0 rfl ?_
      refine gfX6_11 C dX6_readThrough_21 ?_
      refine r_iload_n C dX6_readThrough_24 rfl 2 rfl ?_
      obtain ⟨g_4, h⟩ := gdE h
      refine la_17 C g_4 dX6_readThrough_25 ?_
      refine r_astore_n C dX6_readThrough_26 rfl (Nat.le_of_ble_eq_true rfl) (L' := [(3, _), (0, _), (1, _), (2, _)]) rfl ?_
      refine r_aload_n C dX6_readThrough_27 rfl 0 rfl ?_
      refine r_aload_n C dX6_readThrough_28 rfl 0 rfl ?_
      refine gfX6_45 C (inb_lt g_4) dX6_readThrough_29 ?_
      refine r_iconst (v := 1) C dX6_readThrough_32 (by decide) ?_
      refine r_em (st := [.ref (wa w 28 v2_1.toNatClampNeg)]) 41 ((if (s_2.1 28 v2_1.toNatClampNeg 0) = 1 then 1 else 0 : Int32)) (fun hM_6 => ?_) ?_
      · refine r_icmp_ne (tgt := 40) C dX6_readThrough_33 (by decide) (fun c_5 => ?_) (fun c_5 => ?_)
        · refine r_iconst (v := 0) C dX6_readThrough_40 (by decide) ?_
          exact (em_neg c_5 hM_6)
        · refine r_iconst (v := 1) C dX6_readThrough_36 (by decide) ?_
          refine r_goto (tgt := 41) C dX6_readThrough_37 (by decide) ?_
          exact (em_pos c_5 hM_6)
      refine pfX6_114 C (inb_lt g_4) (nb_01 (z01_ite (Or.inr rfl) (Or.inl rfl))) (fb_01 (z01_ite (Or.inr rfl) (Or.inl rfl))) dX6_readThrough_41 ?_
      refine r_aload_n C dX6_readThrough_44 rfl 0 rfl ?_
      refine gfX6_114 C (inb_lt g_4) dX6_readThrough_45 ?_
      refine r_if_eq (tgt := 61) C dX6_readThrough_48 (by decide) (fun c_7 => ?_) (fun c_7 => ?_)
      · have h := ip h c_7
        refine r_sub [1, 2, 3, 0] rfl ?_
        exact t_X6_readThrough_J61 (inb_lt g_4) ih C h
      · have h := iq h c_7
        refine r_aload_n C dX6_readThrough_51 rfl 1 rfl ?_
        refine r_dup C dX6_readThrough_52 rfl ?_
        refine gfX6_21 C dX6_readThrough_53 ?_
        refine r_iconst (v := 1) C dX6_readThrough_56 (by decide) ?_
        refine r_iadd C dX6_readThrough_57 ?_
        refine pfX6_21 C dX6_readThrough_58 ?_
        refine r_sub [1, 2, 3, 0] rfl ?_
        exact t_X6_readThrough_J61 (inb_lt g_4) ih C h
set_option maxHeartbeats 4000000 in
set_option maxRecDepth 100000 in
theorem m_X6_readThrough {l : Launch} {w : Wp}   {s0 : St} {z : St} (h : Pg_readThrough s0 = some z) : Cm l yX6_readThrough (.code yX6_readThrough cX6_readThrough 5 none) 4 WC w [.ref (wa w 4 0), .ref (wa w 15 0)] s0 none z := by
  refine Cm.of (own := RX6) (by decide +kernel) rfl (Nat.le_of_ble_eq_true rfl) (L := [(0, .ref (wa w 4 0)), (1, .ref (wa w 15 0))]) rfl KoC (fun x hl C => ?_)
  subst hl
  unfold Pg_readThrough at h
  refine r_aload_n C dX6_readThrough_0 rfl 0 rfl ?_
  refine r_iconst (v := 0) C dX6_readThrough_1 (by decide) ?_
  refine pfX6_21 C dX6_readThrough_2 ?_
  refine r_aload_n C dX6_readThrough_5 rfl 0 rfl ?_
  refine r_iconst (v := 0) C dX6_readThrough_6 (by decide) ?_
  refine pfX6_24 C dX6_readThrough_7 ?_
  refine r_iconst (v := 0) C dX6_readThrough_10 (by decide) ?_
  refine r_istore_n C dX6_readThrough_11 rfl (Nat.le_of_ble_eq_true rfl) (L' := [(2, _), (0, _), (1, _)]) rfl ?_
  refine r_sub [1, 2, 0] rfl ?_
  exact t_X6_readThrough_L12 C _ _ _ h
def Pg_digestFrom_L17 (K49 : Int64 → Option (Int64)) (v5_5 : Int32) (s0 : St) : Nat → Int64 → Int32 → Option (Int64)
  | 0, _, _ => none
  | n + 1, v3_4, v6_6 => if 3 ≤ v6_6 then (K49 v3_4) else (if inb v5_5 40 = true then (Pg_digestFrom_L17 K49 v5_5 s0 n) ((31 * v3_4) + ((Mv_figure v5_5.toNatClampNeg v6_6 s0).toInt64)) (v6_6 + 1) else none)
def Pg_digestFrom_L5   (s0 : St) : Nat → Int64 → Int32 → Option (Int64)
  | 0, _, _ => none
  | n + 1, v3_1, v5_2 => if (s0.1 4 0 1) ≤ v5_2 then (some v3_1) else (Pg_digestFrom_L17 (fun (v3_10 : Int64) => (Pg_digestFrom_L5 s0 n) v3_10 (v5_2 + 1)) v5_2 s0 1100 v3_1 0)
def Pg_digestFrom (v1 : Int64) (s0 : St) : Option (Int64) :=
  Pg_digestFrom_L5 s0 1100 v1 0
set_option maxHeartbeats 4000000 in
set_option maxRecDepth 100000 in
theorem t_X6_digestFrom_L17 {x : Ctx} {w : Wp} {v5_5 : Int32} {s0 : St} {z : Int64}  {K49 : Int64 → Option (Int64)} (hK49 : ∀ (u3_9 : Int64), K49 u3_9 = some z → V x WC w 7 (QM x WC w (some (.long z)) s0) s0 49 [(0, .ref (wa w 4 0)), (3, .long u3_9), (5, .int v5_5)] []) (C : Cx x WC w cX6_digestFrom 7 RX6 1 (some .long)) : ∀ (n : Nat) (v3_4 : Int64) (v6_6 : Int32), Pg_digestFrom_L17 K49 v5_5 s0 n v3_4 v6_6 = some z → V x WC w 7 (QM x WC w (some (.long z)) s0) s0 17 [(0, .ref (wa w 4 0)), (3, .long v3_4), (5, .int v5_5), (6, .int v6_6)] [] := by
  intro n
  induction n with
  | zero => intro v3_4 v6_6 h; cases h
  | succ n ih =>
    intro v3_4 v6_6 h
    unfold Pg_digestFrom_L17 at h
    refine r_iload C dX6_digestFrom_17 3 rfl ?_
    refine r_iconst (v := 3) C dX6_digestFrom_19 (by decide) ?_
    refine r_icmp_ge (tgt := 49) C dX6_digestFrom_20 (by decide) (fun c_7 => ?_) (fun c_7 => ?_)
    · have h := ip h c_7
      refine r_sub [0, 1, 2] rfl ?_
      exact hK49 _ h
    · have h := iq h c_7
      refine r_ldc2 C dX6_digestFrom_23 q_952 ?_
      refine r_lload_n C dX6_digestFrom_26 rfl 1 rfl ?_
      refine r_lmul C dX6_digestFrom_27 ?_
      refine r_aload_n C dX6_digestFrom_28 rfl 0 rfl ?_
      refine gfX6_11 C dX6_digestFrom_29 ?_
      refine r_iload C dX6_digestFrom_32 2 rfl ?_
      obtain ⟨g_8, h⟩ := gdE h
      refine la_17 C g_8 dX6_digestFrom_34 ?_
      refine r_iload C dX6_digestFrom_35 3 rfl ?_
      refine kX6_148 C (inb_lt g_8) (m_X5_figure (inb_lt g_8) rfl) (by decide) (Nat.le_of_ble_eq_true rfl) dX6_digestFrom_37 ?_
      refine r_i2l C dX6_digestFrom_40 ?_
      refine r_ladd C dX6_digestFrom_41 ?_
      refine r_lstore_n C dX6_digestFrom_42 rfl (Nat.le_of_ble_eq_true rfl) (L' := [(3, _), (0, _), (5, _), (6, _)]) rfl ?_
      refine r_iinc (v := v6_6 + 1) C dX6_digestFrom_43 (j := 3) rfl rfl (Nat.le_of_ble_eq_true rfl) (L' := [(6, _), (3, _), (0, _), (5, _)]) rfl ?_
      refine r_goto (tgt := 17) C dX6_digestFrom_46 (by decide) ?_
      refine r_sub [2, 1, 3, 0] rfl ?_
      exact ih _ _ h
set_option maxHeartbeats 4000000 in
set_option maxRecDepth 100000 in
theorem t_X6_digestFrom_L5 {x : Ctx} {w : Wp}  {s0 : St} {z : Int64}    (C : Cx x WC w cX6_digestFrom 7 RX6 1 (some .long)) : ∀ (n : Nat) (v3_1 : Int64) (v5_2 : Int32), Pg_digestFrom_L5 s0 n v3_1 v5_2 = some z → V x WC w 7 (QM x WC w (some (.long z)) s0) s0 5 [(0, .ref (wa w 4 0)), (3, .long v3_1), (5, .int v5_2)] [] := by
  intro n
  induction n with
  | zero => intro v3_1 v5_2 h; cases h
  | succ n ih =>
    intro v3_1 v5_2 h
    unfold Pg_digestFrom_L5 at h
    refine r_iload C dX6_digestFrom_5 2 rfl ?_
    refine r_aload_n C dX6_digestFrom_7 rfl 0 rfl ?_
    refine gfX6_17 C dX6_digestFrom_8 ?_
    refine r_icmp_ge (tgt := 55) C dX6_digestFrom_11 (by decide) (fun c_3 => ?_) (fun c_3 => ?_)
    · have h := ip h c_3
      refine r_lload_n C dX6_digestFrom_55 rfl 1 rfl ?_
      cases h
      exact r_lret C dX6_digestFrom_56
    · have h := iq h c_3
      refine r_iconst (v := 0) C dX6_digestFrom_14 (by decide) ?_
      refine r_istore C dX6_digestFrom_15 (Nat.le_of_ble_eq_true rfl) (L' := [(6, _), (0, _), (3, _), (5, _)]) rfl ?_
      refine r_sub [1, 2, 3, 0] rfl ?_
      refine t_X6_digestFrom_L17 (fun v3_10 h => ?_) C _ _ _ h
      refine r_iinc (v := v5_2 + 1) C dX6_digestFrom_49 (j := 2) rfl rfl (Nat.le_of_ble_eq_true rfl) (L' := [(5, _), (0, _), (3, _)]) rfl ?_
      refine r_goto (tgt := 5) C dX6_digestFrom_52 (by decide) ?_
      refine r_sub [1, 2, 0] rfl ?_
      exact ih _ _ h
set_option maxHeartbeats 4000000 in
set_option maxRecDepth 100000 in
theorem m_X6_digestFrom {l : Launch} {w : Wp} {v1 : Int64}  {s0 : St} {z : Int64} (h : Pg_digestFrom v1 s0 = some z) : Cm l yX6_digestFrom (.code yX6_digestFrom cX6_digestFrom 7 (some .long)) 1 WC w [.ref (wa w 4 0), .long v1] s0 (some (.long z)) s0 := by
  refine Cm.of (own := RX6) (by decide +kernel) rfl (Nat.le_of_ble_eq_true rfl) (L := [(0, .ref (wa w 4 0)), (1, .long v1)]) rfl KoC (fun x hl C => ?_)
  subst hl
  unfold Pg_digestFrom at h
  refine r_lload_n C dX6_digestFrom_0 rfl 1 rfl ?_
  refine r_lstore_n C dX6_digestFrom_1 rfl (Nat.le_of_ble_eq_true rfl) (L' := [(3, _), (0, _), (1, _)]) rfl ?_
  refine r_iconst (v := 0) C dX6_digestFrom_2 (by decide) ?_
  refine r_istore C dX6_digestFrom_3 (Nat.le_of_ble_eq_true rfl) (L' := [(5, _), (3, _), (0, _), (1, _)]) rfl ?_
  refine r_sub [2, 1, 0] rfl ?_
  exact t_X6_digestFrom_L5 C _ _ _ h
def Rw_renew (n : Nat) (v1 : Int32) (s0 : St) : Option (St) :=
  some (sX (fillR s0 19 n 40 0) 18 n 1 v1)
set_option maxHeartbeats 4000000 in
set_option maxRecDepth 100000 in
theorem m_X7_renew {l : Launch} {w : Wp} {n : Nat} {v1 : Int32} (hn : n < 6) {s0 : St} {z : St} (h : Rw_renew n v1 s0 = some z) : Cm l yX7_renew (.code yX7_renew cX7_renew 2 none) 1 WC w [.ref (wa w 18 n), .int v1] s0 none z := by
  refine Cm.of (own := RX7) (by decide +kernel) rfl (Nat.le_of_ble_eq_true rfl) (L := [(0, .ref (wa w 18 n)), (1, .int v1)]) rfl KoC (fun x hl C => ?_)
  subst hl
  unfold Rw_renew at h
  refine r_aload_n C dX7_renew_0 rfl 0 rfl ?_
  refine gfX7_9 C hn dX7_renew_1 ?_
  refine r_iconst (v := 0) C dX7_renew_4 (by decide) ?_
  refine r_callS (n := 2) C (m_fillI (kd := 19) (n := n) (N := 40) (v := 0) (mc_19 hn) (fun _ _ => rfl) (by decide) KoC) q_428 q_204 q_8 q_205 ⟨by decide +kernel, by decide +kernel, by decide +kernel⟩ rfl (by decide) (by decide) (rest := []) rfl (Nat.le_of_ble_eq_true rfl) dX7_renew_5 ?_
  refine r_aload_n C dX7_renew_8 rfl 0 rfl ?_
  refine r_iload_n C dX7_renew_9 rfl 1 rfl ?_
  refine pfX7_15 C hn dX7_renew_10 ?_
  cases h
  exact r_vret C dX7_renew_13
def Rw_hasPlaces (n : Nat) (v1 : Int32) (v2 : Int32) (s0 : St) : Int32 :=
  (if v1 < 0 then 0 else (if ((s0.1 18 n 1) - v2) < v1 then 0 else 1) : Int32)
set_option maxHeartbeats 4000000 in
set_option maxRecDepth 100000 in
theorem m_X7_hasPlaces {l : Launch} {w : Wp} {n : Nat} {v1 : Int32} {v2 : Int32} (hn : n < 6) {s0 : St} {z : Int32} (h : Rw_hasPlaces n v1 v2 s0 = z) : Cm l yX7_hasPlaces (.code yX7_hasPlaces cX7_hasPlaces 3 (some .boolean)) 0 WC w [.ref (wa w 18 n), .int v1, .int v2] s0 (some (.int z)) s0 := by
  refine Cm.of (own := RX7) (by decide +kernel) rfl (Nat.le_of_ble_eq_true rfl) (L := [(0, .ref (wa w 18 n)), (1, .int v1), (2, .int v2)]) rfl KoC (fun x hl C => ?_)
  subst hl
  unfold Rw_hasPlaces at h
  refine r_iload_n C dX7_hasPlaces_0 rfl 1 rfl ?_
  refine r_em (st := []) 19 ((if v1 < 0 then 0 else (if ((s0.1 18 n 1) - v2) < v1 then 0 else 1) : Int32)) (fun hM_3 => ?_) ?_
  · refine r_if_lt (tgt := 18) C dX7_hasPlaces_1 (by decide) (fun c_2 => ?_) (fun c_2 => ?_)
    · refine r_iconst (v := 0) C dX7_hasPlaces_18 (by decide) ?_
      exact (em_pos c_2 hM_3)
    · refine r_iload_n C dX7_hasPlaces_4 rfl 1 rfl ?_
      refine r_aload_n C dX7_hasPlaces_5 rfl 0 rfl ?_
      refine gfX7_15 C hn dX7_hasPlaces_6 ?_
      refine r_iload_n C dX7_hasPlaces_9 rfl 2 rfl ?_
      refine r_isub C dX7_hasPlaces_10 ?_
      refine r_icmp_gt (tgt := 18) C dX7_hasPlaces_11 (by decide) (fun c_1 => ?_) (fun c_1 => ?_)
      · refine r_iconst (v := 0) C dX7_hasPlaces_18 (by decide) ?_
        exact (em_pos c_1 (em_neg c_2 hM_3))
      · refine r_iconst (v := 1) C dX7_hasPlaces_14 (by decide) ?_
        refine r_goto (tgt := 19) C dX7_hasPlaces_15 (by decide) ?_
        exact (em_neg c_1 (em_neg c_2 hM_3))
  subst h
  exact r_zret C (nb_ite rfl (nb_ite rfl rfl)) dX7_hasPlaces_19
theorem nb_X7_hasPlaces {n : Nat} {v1 : Int32} {v2 : Int32} {s0 : St} : narrow .boolean (.int (Rw_hasPlaces n v1 v2 s0)) = .int (Rw_hasPlaces n v1 v2 s0) := by
  unfold Rw_hasPlaces
  exact (nb_ite rfl (nb_ite rfl rfl))
def Rw_sum_L4  (n0_1 : Nat) (s0 : St) : Nat → Int64 → Int32 → Option (Int64)
  | 0, _, _ => none
  | n + 1, v1_2, v3_3 => if (s0.1 18 n0_1 1) ≤ v3_3 then (some v1_2) else (if inb v3_3 40 = true then (Rw_sum_L4 n0_1 s0 n) (v1_2 + ((s0.1 19 n0_1 v3_3.toNatClampNeg).toInt64)) (v3_3 + 1) else none)
def Rw_sum (n : Nat) (s0 : St) : Option (Int64) :=
  Rw_sum_L4 n s0 1100 0 0
set_option maxHeartbeats 4000000 in
set_option maxRecDepth 100000 in
theorem t_X7_sum_L4 {x : Ctx} {w : Wp} {n0_1 : Nat} {s0 : St} {z : Int64} (hn0_1 : n0_1 < 6)   (C : Cx x WC w cX7_sum 4 RX7 0 (some .long)) : ∀ (n : Nat) (v1_2 : Int64) (v3_3 : Int32), Rw_sum_L4 n0_1 s0 n v1_2 v3_3 = some z → V x WC w 4 (QM x WC w (some (.long z)) s0) s0 4 [(0, .ref (wa w 18 n0_1)), (1, .long v1_2), (3, .int v3_3)] [] := by
  intro n
  induction n with
  | zero => intro v1_2 v3_3 h; cases h
  | succ n ih =>
    intro v1_2 v3_3 h
    unfold Rw_sum_L4 at h
    refine r_iload_n C dX7_sum_4 rfl 2 rfl ?_
    refine r_aload_n C dX7_sum_5 rfl 0 rfl ?_
    refine gfX7_15 C hn0_1 dX7_sum_6 ?_
    refine r_icmp_ge (tgt := 28) C dX7_sum_9 (by decide) (fun c_4 => ?_) (fun c_4 => ?_)
    · have h := ip h c_4
      refine r_lload_n C dX7_sum_28 rfl 1 rfl ?_
      cases h
      exact r_lret C dX7_sum_29
    · have h := iq h c_4
      refine r_lload_n C dX7_sum_12 rfl 1 rfl ?_
      refine r_aload_n C dX7_sum_13 rfl 0 rfl ?_
      refine gfX7_9 C hn0_1 dX7_sum_14 ?_
      refine r_iload_n C dX7_sum_17 rfl 2 rfl ?_
      obtain ⟨g_5, h⟩ := gdE h
      refine ldC_19 C hn0_1 g_5 dX7_sum_18 ?_
      refine r_i2l C dX7_sum_19 ?_
      refine r_ladd C dX7_sum_20 ?_
      refine r_lstore_n C dX7_sum_21 rfl (Nat.le_of_ble_eq_true rfl) (L' := [(1, _), (0, _), (3, _)]) rfl ?_
      refine r_iinc (v := v3_3 + 1) C dX7_sum_22 (j := 2) rfl rfl (Nat.le_of_ble_eq_true rfl) (L' := [(3, _), (1, _), (0, _)]) rfl ?_
      refine r_goto (tgt := 4) C dX7_sum_25 (by decide) ?_
      refine r_sub [2, 1, 0] rfl ?_
      exact ih _ _ h
set_option maxHeartbeats 4000000 in
set_option maxRecDepth 100000 in
theorem m_X7_sum {l : Launch} {w : Wp} {n : Nat} (hn : n < 6) {s0 : St} {z : Int64} (h : Rw_sum n s0 = some z) : Cm l yX7_sum (.code yX7_sum cX7_sum 4 (some .long)) 0 WC w [.ref (wa w 18 n)] s0 (some (.long z)) s0 := by
  refine Cm.of (own := RX7) (by decide +kernel) rfl (Nat.le_of_ble_eq_true rfl) (L := [(0, .ref (wa w 18 n))]) rfl KoC (fun x hl C => ?_)
  subst hl
  unfold Rw_sum at h
  refine r_lconst (v := 0) C dX7_sum_0 (by decide) ?_
  refine r_lstore_n C dX7_sum_1 rfl (Nat.le_of_ble_eq_true rfl) (L' := [(1, _), (0, _)]) rfl ?_
  refine r_iconst (v := 0) C dX7_sum_2 (by decide) ?_
  refine r_istore_n C dX7_sum_3 rfl (Nat.le_of_ble_eq_true rfl) (L' := [(3, _), (1, _), (0, _)]) rfl ?_
  refine r_sub [2, 1, 0] rfl ?_
  exact t_X7_sum_L4 hn C _ _ _ h
def Rw_digestFrom_L15  (n0_1 : Nat) (s0 : St) : Nat → Int64 → Int32 → Option (Int64)
  | 0, _, _ => none
  | n + 1, v3_2, v5_3 => if (s0.1 18 n0_1 1) ≤ v5_3 then (some v3_2) else (if inb v5_3 40 = true then (Rw_digestFrom_L15 n0_1 s0 n) ((31 * v3_2) + ((s0.1 19 n0_1 v5_3.toNatClampNeg).toInt64)) (v5_3 + 1) else none)
def Rw_digestFrom (n : Nat) (v1 : Int64) (s0 : St) : Option (Int64) :=
  Rw_digestFrom_L15 n s0 1100 ((31 * v1) + ((s0.1 18 n 1).toInt64)) 0
set_option maxHeartbeats 4000000 in
set_option maxRecDepth 100000 in
theorem t_X7_digestFrom_L15 {x : Ctx} {w : Wp} {n0_1 : Nat} {s0 : St} {z : Int64} (hn0_1 : n0_1 < 6)   (C : Cx x WC w cX7_digestFrom 6 RX7 0 (some .long)) : ∀ (n : Nat) (v3_2 : Int64) (v5_3 : Int32), Rw_digestFrom_L15 n0_1 s0 n v3_2 v5_3 = some z → V x WC w 6 (QM x WC w (some (.long z)) s0) s0 15 [(0, .ref (wa w 18 n0_1)), (3, .long v3_2), (5, .int v5_3)] [] := by
  intro n
  induction n with
  | zero => intro v3_2 v5_3 h; cases h
  | succ n ih =>
    intro v3_2 v5_3 h
    unfold Rw_digestFrom_L15 at h
    refine r_iload C dX7_digestFrom_15 2 rfl ?_
    refine r_aload_n C dX7_digestFrom_17 rfl 0 rfl ?_
    refine gfX7_15 C hn0_1 dX7_digestFrom_18 ?_
    refine r_icmp_ge (tgt := 45) C dX7_digestFrom_21 (by decide) (fun c_4 => ?_) (fun c_4 => ?_)
    · have h := ip h c_4
      refine r_lload_n C dX7_digestFrom_45 rfl 1 rfl ?_
      cases h
      exact r_lret C dX7_digestFrom_46
    · have h := iq h c_4
      refine r_ldc2 C dX7_digestFrom_24 q_958 ?_
      refine r_lload_n C dX7_digestFrom_27 rfl 1 rfl ?_
      refine r_lmul C dX7_digestFrom_28 ?_
      refine r_aload_n C dX7_digestFrom_29 rfl 0 rfl ?_
      refine gfX7_9 C hn0_1 dX7_digestFrom_30 ?_
      refine r_iload C dX7_digestFrom_33 2 rfl ?_
      obtain ⟨g_5, h⟩ := gdE h
      refine ldC_19 C hn0_1 g_5 dX7_digestFrom_35 ?_
      refine r_i2l C dX7_digestFrom_36 ?_
      refine r_ladd C dX7_digestFrom_37 ?_
      refine r_lstore_n C dX7_digestFrom_38 rfl (Nat.le_of_ble_eq_true rfl) (L' := [(3, _), (0, _), (5, _)]) rfl ?_
      refine r_iinc (v := v5_3 + 1) C dX7_digestFrom_39 (j := 2) rfl rfl (Nat.le_of_ble_eq_true rfl) (L' := [(5, _), (3, _), (0, _)]) rfl ?_
      refine r_goto (tgt := 15) C dX7_digestFrom_42 (by decide) ?_
      refine r_sub [2, 1, 0] rfl ?_
      exact ih _ _ h
set_option maxHeartbeats 4000000 in
set_option maxRecDepth 100000 in
theorem m_X7_digestFrom {l : Launch} {w : Wp} {n : Nat} {v1 : Int64} (hn : n < 6) {s0 : St} {z : Int64} (h : Rw_digestFrom n v1 s0 = some z) : Cm l yX7_digestFrom (.code yX7_digestFrom cX7_digestFrom 6 (some .long)) 0 WC w [.ref (wa w 18 n), .long v1] s0 (some (.long z)) s0 := by
  refine Cm.of (own := RX7) (by decide +kernel) rfl (Nat.le_of_ble_eq_true rfl) (L := [(0, .ref (wa w 18 n)), (1, .long v1)]) rfl KoC (fun x hl C => ?_)
  subst hl
  unfold Rw_digestFrom at h
  refine r_ldc2 C dX7_digestFrom_0 q_958 ?_
  refine r_lload_n C dX7_digestFrom_3 rfl 1 rfl ?_
  refine r_lmul C dX7_digestFrom_4 ?_
  refine r_aload_n C dX7_digestFrom_5 rfl 0 rfl ?_
  refine gfX7_15 C hn dX7_digestFrom_6 ?_
  refine r_i2l C dX7_digestFrom_9 ?_
  refine r_ladd C dX7_digestFrom_10 ?_
  refine r_lstore_n C dX7_digestFrom_11 rfl (Nat.le_of_ble_eq_true rfl) (L' := [(3, _), (0, _), (1, _)]) rfl ?_
  refine r_iconst (v := 0) C dX7_digestFrom_12 (by decide) ?_
  refine r_istore C dX7_digestFrom_13 (Nat.le_of_ble_eq_true rfl) (L' := [(5, _), (3, _), (0, _), (1, _)]) rfl ?_
  refine r_sub [2, 1, 0] rfl ?_
  exact t_X7_digestFrom_L15 hn C _ _ _ h
def Sy_copiesReading_J22 (B4 : Int32 → Int32 → Option (Int32)) (n0_8 : Nat) (v1_9 : Int32) (v2_10 : Int32) (v3_11 : Int32)  (s0 : St) : Option (Int32) :=
  B4 v2_10 (v3_11 + 1)
def Sy_copiesReading_L4  (n0_1 : Nat) (v1_2 : Int32) (s0 : St) : Nat → Int32 → Int32 → Option (Int32)
  | 0, _, _ => none
  | n + 1, v2_3, v3_4 => if 5 ≤ v3_4 then (some v2_3) else (if inb v3_4 5 = true then if (s0.1 27 n0_1 v3_4.toNatClampNeg) = v1_2 then (Sy_copiesReading_J22 (Sy_copiesReading_L4 n0_1 v1_2 s0 n) n0_1 v1_2 (v2_3 + 1) v3_4 s0) else (Sy_copiesReading_J22 (Sy_copiesReading_L4 n0_1 v1_2 s0 n) n0_1 v1_2 v2_3 v3_4 s0) else none)
def Sy_copiesReading (n : Nat) (v1 : Int32) (s0 : St) : Option (Int32) :=
  Sy_copiesReading_L4 n v1 s0 1100 0 0
set_option maxHeartbeats 4000000 in
set_option maxRecDepth 100000 in
theorem t_X9_copiesReading_J22 {x : Ctx} {w : Wp} {n0_8 : Nat} {v1_9 : Int32} {v2_10 : Int32} {v3_11 : Int32}  {s0 : St} {z : Int32} (hn0_8 : n0_8 < 24) {B4 : Int32 → Int32 → Option (Int32)} (hB4 : ∀ (u2_12 : Int32) (u3_13 : Int32), B4 u2_12 u3_13 = some z → V x WC w 4 (QM x WC w (some (.int z)) s0) s0 4 [(0, .ref (wa w 26 n0_8)), (1, .int v1_9), (2, .int u2_12), (3, .int u3_13)] []) (C : Cx x WC w cX9_copiesReading 4 RX9 0 (some .int)) (h : Sy_copiesReading_J22 B4 n0_8 v1_9 v2_10 v3_11 s0 = some z) : V x WC w 4 (QM x WC w (some (.int z)) s0) s0 22 [(0, .ref (wa w 26 n0_8)), (1, .int v1_9), (2, .int v2_10), (3, .int v3_11)] [] := by
  unfold Sy_copiesReading_J22 at h
  refine r_iinc (v := v3_11 + 1) C dX9_copiesReading_22 (j := 3) rfl rfl (Nat.le_of_ble_eq_true rfl) (L' := [(3, _), (0, _), (1, _), (2, _)]) rfl ?_
  refine r_goto (tgt := 4) C dX9_copiesReading_25 (by decide) ?_
  refine r_sub [1, 2, 3, 0] rfl ?_
  exact hB4 _ _ h
set_option maxHeartbeats 4000000 in
set_option maxRecDepth 100000 in
theorem t_X9_copiesReading_L4 {x : Ctx} {w : Wp} {n0_1 : Nat} {v1_2 : Int32} {s0 : St} {z : Int32} (hn0_1 : n0_1 < 24)   (C : Cx x WC w cX9_copiesReading 4 RX9 0 (some .int)) : ∀ (n : Nat) (v2_3 : Int32) (v3_4 : Int32), Sy_copiesReading_L4 n0_1 v1_2 s0 n v2_3 v3_4 = some z → V x WC w 4 (QM x WC w (some (.int z)) s0) s0 4 [(0, .ref (wa w 26 n0_1)), (1, .int v1_2), (2, .int v2_3), (3, .int v3_4)] [] := by
  intro n
  induction n with
  | zero => intro v2_3 v3_4 h; cases h
  | succ n ih =>
    intro v2_3 v3_4 h
    unfold Sy_copiesReading_L4 at h
    refine r_iload_n C dX9_copiesReading_4 rfl 3 rfl ?_
    refine r_iconst (v := 5) C dX9_copiesReading_5 (by decide) ?_
    refine r_icmp_ge (tgt := 28) C dX9_copiesReading_6 (by decide) (fun c_5 => ?_) (fun c_5 => ?_)
    · have h := ip h c_5
      refine r_iload_n C dX9_copiesReading_28 rfl 2 rfl ?_
      cases h
      exact r_iret C dX9_copiesReading_29
    · have h := iq h c_5
      refine r_aload_n C dX9_copiesReading_9 rfl 0 rfl ?_
      refine gfX9_27 C hn0_1 dX9_copiesReading_10 ?_
      refine r_iload_n C dX9_copiesReading_13 rfl 3 rfl ?_
      obtain ⟨g_6, h⟩ := gdE h
      refine ldC_27 C hn0_1 g_6 dX9_copiesReading_14 ?_
      refine r_iload_n C dX9_copiesReading_15 rfl 1 rfl ?_
      refine r_icmp_ne (tgt := 22) C dX9_copiesReading_16 (by decide) (fun c_7 => ?_) (fun c_7 => ?_)
      · have h := iq h c_7
        refine r_sub [0, 1, 2, 3] rfl ?_
        exact t_X9_copiesReading_J22 hn0_1 ih C h
      · have h := ip h c_7
        refine r_iinc (v := v2_3 + 1) C dX9_copiesReading_19 (j := 2) rfl rfl (Nat.le_of_ble_eq_true rfl) (L' := [(2, _), (0, _), (1, _), (3, _)]) rfl ?_
        refine r_sub [1, 2, 0, 3] rfl ?_
        exact t_X9_copiesReading_J22 hn0_1 ih C h
set_option maxHeartbeats 4000000 in
set_option maxRecDepth 100000 in
theorem m_X9_copiesReading {l : Launch} {w : Wp} {n : Nat} {v1 : Int32} (hn : n < 24) {s0 : St} {z : Int32} (h : Sy_copiesReading n v1 s0 = some z) : Cm l yX9_copiesReading (.code yX9_copiesReading cX9_copiesReading 4 (some .int)) 0 WC w [.ref (wa w 26 n), .int v1] s0 (some (.int z)) s0 := by
  refine Cm.of (own := RX9) (by decide +kernel) rfl (Nat.le_of_ble_eq_true rfl) (L := [(0, .ref (wa w 26 n)), (1, .int v1)]) rfl KoC (fun x hl C => ?_)
  subst hl
  unfold Sy_copiesReading at h
  refine r_iconst (v := 0) C dX9_copiesReading_0 (by decide) ?_
  refine r_istore_n C dX9_copiesReading_1 rfl (Nat.le_of_ble_eq_true rfl) (L' := [(2, _), (0, _), (1, _)]) rfl ?_
  refine r_iconst (v := 0) C dX9_copiesReading_2 (by decide) ?_
  refine r_istore_n C dX9_copiesReading_3 rfl (Nat.le_of_ble_eq_true rfl) (L' := [(3, _), (2, _), (0, _), (1, _)]) rfl ?_
  refine r_sub [2, 3, 1, 0] rfl ?_
  exact t_X9_copiesReading_L4 hn C _ _ _ h
def Tx_renew (n : Nat) (v1 : Int32) (s0 : St) : Option (St) :=
  some (sX (fillR s0 21 n 40 (vp_nar .byte 32)) 20 n 1 v1)
set_option maxHeartbeats 4000000 in
set_option maxRecDepth 100000 in
theorem m_X10_renew {l : Launch} {w : Wp} {n : Nat} {v1 : Int32} (hn : n < 4) {s0 : St} {z : St} (h : Tx_renew n v1 s0 = some z) : Cm l yX10_renew (.code yX10_renew cX10_renew 2 none) 1 WC w [.ref (wa w 20 n), .int v1] s0 none z := by
  refine Cm.of (own := RX10) (by decide +kernel) rfl (Nat.le_of_ble_eq_true rfl) (L := [(0, .ref (wa w 20 n)), (1, .int v1)]) rfl KoC (fun x hl C => ?_)
  subst hl
  unfold Tx_renew at h
  refine r_aload_n C dX10_renew_0 rfl 0 rfl ?_
  refine gfX10_9 C hn dX10_renew_1 ?_
  refine r_bipush (v := 32) C dX10_renew_4 (by decide) ?_
  refine r_callS (n := 2) C (m_fillB (kd := 21) (n := n) (N := 40) (v := 32) (mc_21 hn) (fun _ _ => rfl) (by decide) KoC) q_468 q_469 q_8 q_470 ⟨by decide +kernel, by decide +kernel, by decide +kernel⟩ rfl (by decide) (by decide) (rest := []) rfl (Nat.le_of_ble_eq_true rfl) dX10_renew_6 ?_
  refine r_aload_n C dX10_renew_9 rfl 0 rfl ?_
  refine r_iload_n C dX10_renew_10 rfl 1 rfl ?_
  refine pfX10_15 C hn dX10_renew_11 ?_
  cases h
  exact r_vret C dX10_renew_14
def Tx_skipBlanks_L0  (n0_1 : Nat) : Nat → St → Option (St)
  | 0, _ => none
  | n + 1, s_2 => if (s_2.1 20 n0_1 1) ≤ (s_2.1 20 n0_1 3) then (some s_2) else (if inb (s_2.1 20 n0_1 3) 40 = true then if (s_2.1 21 n0_1 ((s_2.1 20 n0_1 3).toNatClampNeg)) = 32 then ((Tx_skipBlanks_L0 n0_1 n) (sX s_2 20 n0_1 3 ((s_2.1 20 n0_1 3) + 1))) else (some s_2) else none)
def Tx_skipBlanks (n : Nat) (s0 : St) : Option (St) :=
  Tx_skipBlanks_L0 n 1100 s0
set_option maxHeartbeats 4000000 in
set_option maxRecDepth 100000 in
theorem t_X10_skipBlanks_L0 {x : Ctx} {w : Wp} {n0_1 : Nat} {z : St} (hn0_1 : n0_1 < 4)   (C : Cx x WC w cX10_skipBlanks 1 RX10 0 none) : ∀ (n : Nat)  (s_2 : St), Tx_skipBlanks_L0 n0_1 n s_2 = some z → V x WC w 1 (QM x WC w none z) s_2 0 [(0, .ref (wa w 20 n0_1))] [] := by
  intro n
  induction n with
  | zero => intro s_2 h; cases h
  | succ n ih =>
    intro s_2 h
    unfold Tx_skipBlanks_L0 at h
    refine r_aload_n C dX10_skipBlanks_0 rfl 0 rfl ?_
    refine gfX10_22 C hn0_1 dX10_skipBlanks_1 ?_
    refine r_aload_n C dX10_skipBlanks_4 rfl 0 rfl ?_
    refine gfX10_15 C hn0_1 dX10_skipBlanks_5 ?_
    refine r_icmp_ge (tgt := 38) C dX10_skipBlanks_8 (by decide) (fun c_3 => ?_) (fun c_3 => ?_)
    · have h := ip h c_3
      cases h
      exact r_vret C dX10_skipBlanks_38
    · have h := iq h c_3
      refine r_aload_n C dX10_skipBlanks_11 rfl 0 rfl ?_
      refine gfX10_9 C hn0_1 dX10_skipBlanks_12 ?_
      refine r_aload_n C dX10_skipBlanks_15 rfl 0 rfl ?_
      refine gfX10_22 C hn0_1 dX10_skipBlanks_16 ?_
      obtain ⟨g_4, h⟩ := gdE h
      refine ldC_21 C hn0_1 g_4 dX10_skipBlanks_19 ?_
      refine r_bipush (v := 32) C dX10_skipBlanks_20 (by decide) ?_
      refine r_icmp_ne (tgt := 38) C dX10_skipBlanks_22 (by decide) (fun c_5 => ?_) (fun c_5 => ?_)
      · have h := iq h c_5
        cases h
        exact r_vret C dX10_skipBlanks_38
      · have h := ip h c_5
        refine r_aload_n C dX10_skipBlanks_25 rfl 0 rfl ?_
        refine r_dup C dX10_skipBlanks_26 rfl ?_
        refine gfX10_22 C hn0_1 dX10_skipBlanks_27 ?_
        refine r_iconst (v := 1) C dX10_skipBlanks_30 (by decide) ?_
        refine r_iadd C dX10_skipBlanks_31 ?_
        refine pfX10_22 C hn0_1 dX10_skipBlanks_32 ?_
        refine r_goto (tgt := 0) C dX10_skipBlanks_35 (by decide) ?_
        refine r_sub [0] rfl ?_
        exact ih _ h
set_option maxHeartbeats 4000000 in
set_option maxRecDepth 100000 in
theorem m_X10_skipBlanks {l : Launch} {w : Wp} {n : Nat} (hn : n < 4) {s0 : St} {z : St} (h : Tx_skipBlanks n s0 = some z) : Cm l yX10_skipBlanks (.code yX10_skipBlanks cX10_skipBlanks 1 none) 0 WC w [.ref (wa w 20 n)] s0 none z := by
  refine Cm.of (own := RX10) (by decide +kernel) rfl (Nat.le_of_ble_eq_true rfl) (L := [(0, .ref (wa w 20 n))]) rfl KoC (fun x hl C => ?_)
  subst hl
  unfold Tx_skipBlanks at h
  refine r_sub [0] rfl ?_
  exact t_X10_skipBlanks_L0 hn C _ _ h
def Tx_signHere (n : Nat) (s0 : St) : Option (Int32) :=
  if (s0.1 20 n 1) ≤ (s0.1 20 n 3) then (some 0) else (if inb (s0.1 20 n 3) 40 = true then some (s0.1 21 n ((s0.1 20 n 3).toNatClampNeg)) else none)
set_option maxHeartbeats 4000000 in
set_option maxRecDepth 100000 in
theorem m_X10_signHere {l : Launch} {w : Wp} {n : Nat} (hn : n < 4) {s0 : St} {z : Int32} (h : Tx_signHere n s0 = some z) : Cm l yX10_signHere (.code yX10_signHere cX10_signHere 1 (some .int)) 0 WC w [.ref (wa w 20 n)] s0 (some (.int z)) s0 := by
  refine Cm.of (own := RX10) (by decide +kernel) rfl (Nat.le_of_ble_eq_true rfl) (L := [(0, .ref (wa w 20 n))]) rfl KoC (fun x hl C => ?_)
  subst hl
  unfold Tx_signHere at h
  refine r_aload_n C dX10_signHere_0 rfl 0 rfl ?_
  refine gfX10_22 C hn dX10_signHere_1 ?_
  refine r_aload_n C dX10_signHere_4 rfl 0 rfl ?_
  refine gfX10_15 C hn dX10_signHere_5 ?_
  refine r_icmp_ge (tgt := 23) C dX10_signHere_8 (by decide) (fun c_1 => ?_) (fun c_1 => ?_)
  · have h := ip h c_1
    refine r_iconst (v := 0) C dX10_signHere_23 (by decide) ?_
    cases h
    exact r_iret C dX10_signHere_24
  · have h := iq h c_1
    refine r_aload_n C dX10_signHere_11 rfl 0 rfl ?_
    refine gfX10_9 C hn dX10_signHere_12 ?_
    refine r_aload_n C dX10_signHere_15 rfl 0 rfl ?_
    refine gfX10_22 C hn dX10_signHere_16 ?_
    obtain ⟨g_2, h⟩ := gdE h
    refine ldC_21 C hn g_2 dX10_signHere_19 ?_
    refine r_goto (tgt := 24) C dX10_signHere_20 (by decide) ?_
    cases h
    exact r_iret C dX10_signHere_24
def Tx_readLetters_J25 (B2 : Int32 → St → Option (Int32 × St)) (n0_6 : Nat) (v1_7 : Int32) (v2_8 : Int32)  (s_9 : St) : Option (Int32 × St) :=
  Option.bind (Tx_signHere n0_6 s_9) (fun r_10 => if (r_10 - 97) ≤ v1_7 then (some (0, s_9)) else (if (r_10 - 97) < 5 then (if inb (r_10 - 97) 5 = true then if ((sX (sX s_9 20 n0_6 2 ((s_9.1 20 n0_6 2) + (v2_8 * (pw3 (r_10 - 97).toNatClampNeg)))) 20 n0_6 3 (((sX s_9 20 n0_6 2 ((s_9.1 20 n0_6 2) + (v2_8 * (pw3 (r_10 - 97).toNatClampNeg)))).1 20 n0_6 3) + 1)).1 20 n0_6 1) ≤ ((sX (sX s_9 20 n0_6 2 ((s_9.1 20 n0_6 2) + (v2_8 * (pw3 (r_10 - 97).toNatClampNeg)))) 20 n0_6 3 (((sX s_9 20 n0_6 2 ((s_9.1 20 n0_6 2) + (v2_8 * (pw3 (r_10 - 97).toNatClampNeg)))).1 20 n0_6 3) + 1)).1 20 n0_6 3) then (some (1, sX (sX s_9 20 n0_6 2 ((s_9.1 20 n0_6 2) + (v2_8 * (pw3 (r_10 - 97).toNatClampNeg)))) 20 n0_6 3 (((sX s_9 20 n0_6 2 ((s_9.1 20 n0_6 2) + (v2_8 * (pw3 (r_10 - 97).toNatClampNeg)))).1 20 n0_6 3) + 1))) else (Option.bind (Tx_signHere n0_6 (sX (sX s_9 20 n0_6 2 ((s_9.1 20 n0_6 2) + (v2_8 * (pw3 (r_10 - 97).toNatClampNeg)))) 20 n0_6 3 (((sX s_9 20 n0_6 2 ((s_9.1 20 n0_6 2) + (v2_8 * (pw3 (r_10 - 97).toNatClampNeg)))).1 20 n0_6 3) + 1))) (fun r_16 => if r_16 = 32 then (some (1, sX (sX s_9 20 n0_6 2 ((s_9.1 20 n0_6 2) + (v2_8 * (pw3 (r_10 - 97).toNatClampNeg)))) 20 n0_6 3 (((sX s_9 20 n0_6 2 ((s_9.1 20 n0_6 2) + (v2_8 * (pw3 (r_10 - 97).toNatClampNeg)))).1 20 n0_6 3) + 1))) else (B2 (r_10 - 97) (sX (sX s_9 20 n0_6 2 ((s_9.1 20 n0_6 2) + (v2_8 * (pw3 (r_10 - 97).toNatClampNeg)))) 20 n0_6 3 (((sX s_9 20 n0_6 2 ((s_9.1 20 n0_6 2) + (v2_8 * (pw3 (r_10 - 97).toNatClampNeg)))).1 20 n0_6 3) + 1))))) else none) else (some (0, s_9))))
def Tx_readLetters_L2  (n0_1 : Nat) : Nat → Int32 → St → Option (Int32 × St)
  | 0, _, _ => none
  | n + 1, v1_2, s_3 => Option.bind (Tx_signHere n0_1 s_3) (fun r_4 => if r_4 = 33 then (Tx_readLetters_J25 (Tx_readLetters_L2 n0_1 n) n0_1 v1_2 2 (sX s_3 20 n0_1 3 ((s_3.1 20 n0_1 3) + 1))) else (Tx_readLetters_J25 (Tx_readLetters_L2 n0_1 n) n0_1 v1_2 1 s_3))
def Tx_readLetters (n : Nat) (s0 : St) : Option (Int32 × St) :=
  Tx_readLetters_L2 n 1100 (-1) s0
set_option maxHeartbeats 4000000 in
set_option maxRecDepth 100000 in
theorem t_X10_readLetters_J25 {x : Ctx} {w : Wp} {n0_6 : Nat} {v1_7 : Int32} {v2_8 : Int32}  {s_9 : St} {z : Int32 × St} (hn0_6 : n0_6 < 4) {B2 : Int32 → St → Option (Int32 × St)} (hB2 : ∀ (u1_18 : Int32) (s_19 : St), B2 u1_18 s_19 = some z → V x WC w 4 (QM x WC w (some (.int z.1)) z.2) s_19 2 [(0, .ref (wa w 20 n0_6)), (1, .int u1_18)] []) (C : Cx x WC w cX10_readLetters 4 RX10 1 (some .boolean)) (h : Tx_readLetters_J25 B2 n0_6 v1_7 v2_8 s_9 = some z) : V x WC w 4 (QM x WC w (some (.int z.1)) z.2) s_9 25 [(0, .ref (wa w 20 n0_6)), (1, .int v1_7), (2, .int v2_8)] [] := by
  unfold Tx_readLetters_J25 at h
  refine r_aload_n C dX10_readLetters_25 rfl 0 rfl ?_
  obtain ⟨r_10, er_10, h⟩ := bdE h
  refine kX10_34 C hn0_6 (m_X10_signHere hn0_6 er_10) (by decide) (Nat.le_of_ble_eq_true rfl) dX10_readLetters_26 ?_
  refine r_bipush (v := 97) C dX10_readLetters_29 (by decide) ?_
  refine r_isub C dX10_readLetters_31 ?_
  refine r_istore_n C dX10_readLetters_32 rfl (Nat.le_of_ble_eq_true rfl) (L' := [(3, _), (0, _), (1, _), (2, _)]) rfl ?_
  refine r_iload_n C dX10_readLetters_33 rfl 0 rfl ?_
  refine r_iload_n C dX10_readLetters_34 rfl 2 rfl ?_
  refine r_icmp_le (tgt := 43) C dX10_readLetters_35 (by decide) (fun c_11 => ?_) (fun c_11 => ?_)
  · have h := ip h c_11
    refine r_iconst (v := 0) C dX10_readLetters_43 (by decide) ?_
    cases h
    exact r_zret (v := 0) C rfl dX10_readLetters_44
  · have h := iq h c_11
    refine r_iload_n C dX10_readLetters_38 rfl 0 rfl ?_
    refine r_iconst (v := 5) C dX10_readLetters_39 (by decide) ?_
    refine r_icmp_lt (tgt := 45) C dX10_readLetters_40 (by decide) (fun c_12 => ?_) (fun c_12 => ?_)
    · have h := ip h c_12
      refine r_aload_n C dX10_readLetters_45 rfl 1 rfl ?_
      refine r_dup C dX10_readLetters_46 rfl ?_
      refine gfX10_19 C hn0_6 dX10_readLetters_47 ?_
      refine r_iload_n C dX10_readLetters_50 rfl 3 rfl ?_
      refine r_gets3 C dX10_readLetters_51 (fun t3_13 ht3_13 => ?_)
      refine r_iload_n C dX10_readLetters_54 rfl 0 rfl ?_
      obtain ⟨g_14, h⟩ := gdE h
      refine r_ldP3 C ht3_13 g_14 dX10_readLetters_55 ?_
      refine r_imul C dX10_readLetters_56 ?_
      refine r_iadd C dX10_readLetters_57 ?_
      refine pfX10_19 C hn0_6 dX10_readLetters_58 ?_
      refine r_iload_n C dX10_readLetters_61 rfl 0 rfl ?_
      refine r_istore_n C dX10_readLetters_62 rfl (Nat.le_of_ble_eq_true rfl) (L' := [(1, _), (3, _), (0, _), (2, _)]) rfl ?_
      refine r_aload_n C dX10_readLetters_63 rfl 2 rfl ?_
      refine r_dup C dX10_readLetters_64 rfl ?_
      refine gfX10_22 C hn0_6 dX10_readLetters_65 ?_
      refine r_iconst (v := 1) C dX10_readLetters_68 (by decide) ?_
      refine r_iadd C dX10_readLetters_69 ?_
      refine pfX10_22 C hn0_6 dX10_readLetters_70 ?_
      refine r_aload_n C dX10_readLetters_73 rfl 2 rfl ?_
      refine gfX10_22 C hn0_6 dX10_readLetters_74 ?_
      refine r_aload_n C dX10_readLetters_77 rfl 2 rfl ?_
      refine gfX10_15 C hn0_6 dX10_readLetters_78 ?_
      refine r_icmp_ge (tgt := 93) C dX10_readLetters_81 (by decide) (fun c_15 => ?_) (fun c_15 => ?_)
      · have h := ip h c_15
        refine r_iconst (v := 1) C dX10_readLetters_93 (by decide) ?_
        cases h
        exact r_zret (v := 1) C rfl dX10_readLetters_94
      · have h := iq h c_15
        refine r_aload_n C dX10_readLetters_84 rfl 2 rfl ?_
        obtain ⟨r_16, er_16, h⟩ := bdE h
        refine kX10_34 C hn0_6 (m_X10_signHere hn0_6 er_16) (by decide) (Nat.le_of_ble_eq_true rfl) dX10_readLetters_85 ?_
        refine r_bipush (v := 32) C dX10_readLetters_88 (by decide) ?_
        refine r_icmp_ne (tgt := 2) C dX10_readLetters_90 (by decide) (fun c_17 => ?_) (fun c_17 => ?_)
        · have h := iq h c_17
          refine r_sub [2, 0] rfl ?_
          exact hB2 _ _ h
        · have h := ip h c_17
          refine r_iconst (v := 1) C dX10_readLetters_93 (by decide) ?_
          cases h
          exact r_zret (v := 1) C rfl dX10_readLetters_94
    · have h := iq h c_12
      refine r_iconst (v := 0) C dX10_readLetters_43 (by decide) ?_
      cases h
      exact r_zret (v := 0) C rfl dX10_readLetters_44
set_option maxHeartbeats 4000000 in
set_option maxRecDepth 100000 in
theorem t_X10_readLetters_L2 {x : Ctx} {w : Wp} {n0_1 : Nat} {z : Int32 × St} (hn0_1 : n0_1 < 4)   (C : Cx x WC w cX10_readLetters 4 RX10 1 (some .boolean)) : ∀ (n : Nat) (v1_2 : Int32) (s_3 : St), Tx_readLetters_L2 n0_1 n v1_2 s_3 = some z → V x WC w 4 (QM x WC w (some (.int z.1)) z.2) s_3 2 [(0, .ref (wa w 20 n0_1)), (1, .int v1_2)] [] := by
  intro n
  induction n with
  | zero => intro v1_2 s_3 h; cases h
  | succ n ih =>
    intro v1_2 s_3 h
    unfold Tx_readLetters_L2 at h
    refine r_iconst (v := 1) C dX10_readLetters_2 (by decide) ?_
    refine r_istore_n C dX10_readLetters_3 rfl (Nat.le_of_ble_eq_true rfl) (L' := [(2, _), (0, _), (1, _)]) rfl ?_
    refine r_aload_n C dX10_readLetters_4 rfl 1 rfl ?_
    obtain ⟨r_4, er_4, h⟩ := bdE h
    refine kX10_34 C hn0_1 (m_X10_signHere hn0_1 er_4) (by decide) (Nat.le_of_ble_eq_true rfl) dX10_readLetters_5 ?_
    refine r_bipush (v := 33) C dX10_readLetters_8 (by decide) ?_
    refine r_icmp_ne (tgt := 25) C dX10_readLetters_10 (by decide) (fun c_5 => ?_) (fun c_5 => ?_)
    · have h := iq h c_5
      refine r_sub [1, 2, 0] rfl ?_
      exact t_X10_readLetters_J25 hn0_1 ih C h
    · have h := ip h c_5
      refine r_iconst (v := 2) C dX10_readLetters_13 (by decide) ?_
      refine r_istore_n C dX10_readLetters_14 rfl (Nat.le_of_ble_eq_true rfl) (L' := [(2, _), (0, _), (1, _)]) rfl ?_
      refine r_aload_n C dX10_readLetters_15 rfl 1 rfl ?_
      refine r_dup C dX10_readLetters_16 rfl ?_
      refine gfX10_22 C hn0_1 dX10_readLetters_17 ?_
      refine r_iconst (v := 1) C dX10_readLetters_20 (by decide) ?_
      refine r_iadd C dX10_readLetters_21 ?_
      refine pfX10_22 C hn0_1 dX10_readLetters_22 ?_
      refine r_sub [1, 2, 0] rfl ?_
      exact t_X10_readLetters_J25 hn0_1 ih C h
set_option maxHeartbeats 4000000 in
set_option maxRecDepth 100000 in
theorem m_X10_readLetters {l : Launch} {w : Wp} {n : Nat} (hn : n < 4) {s0 : St} {z : Int32 × St} (h : Tx_readLetters n s0 = some z) : Cm l yX10_readLetters (.code yX10_readLetters cX10_readLetters 4 (some .boolean)) 1 WC w [.ref (wa w 20 n)] s0 (some (.int z.1)) z.2 := by
  refine Cm.of (own := RX10) (by decide +kernel) rfl (Nat.le_of_ble_eq_true rfl) (L := [(0, .ref (wa w 20 n))]) rfl KoC (fun x hl C => ?_)
  subst hl
  unfold Tx_readLetters at h
  refine r_iconst (v := (-1)) C dX10_readLetters_0 (by decide) ?_
  refine r_istore_n C dX10_readLetters_1 rfl (Nat.le_of_ble_eq_true rfl) (L' := [(1, _), (0, _)]) rfl ?_
  refine r_sub [1, 0] rfl ?_
  exact t_X10_readLetters_L2 hn C _ _ _ h
def Tx_readRule_J73  (n0_9 : Nat)  (s_10 : St) : Option (Int32 × St) :=
  Option.bind (Tx_skipBlanks n0_9 s_10) (fun r_11 => some ((if (r_11.1 20 n0_9 1) ≤ (r_11.1 20 n0_9 3) then (-9) else (r_11.1 20 n0_9 3) : Int32), r_11))
def Tx_readRule_J31  (n0_4 : Nat) (v1_5 : Int32)  (s_6 : St) : Option (Int32 × St) :=
  Tx_readRule_J73 n0_4 (sX (sX s_6 20 n0_4 2 (if v1_5 = 48 then 243 else 0 : Int32)) 20 n0_4 3 (((sX s_6 20 n0_4 2 (if v1_5 = 48 then 243 else 0 : Int32)).1 20 n0_4 3) + 1))
def Tx_readRule (n : Nat) (s0 : St) : Option (Int32 × St) :=
  Option.bind (Tx_skipBlanks n (sX (sX s0 20 n 3 0) 20 n 2 0)) (fun r_1 => Option.bind (Tx_signHere n r_1) (fun r_2 => if r_2 = 48 then (Tx_readRule_J31 n r_2 r_1) else (if r_2 = 49 then (Tx_readRule_J31 n r_2 r_1) else (Option.bind (Tx_readLetters n r_1) (fun r_15 => if r_15.1 = 0 then (some (r_15.2.1 20 n 3, r_15.2)) else (Tx_readRule_J73 n r_15.2))))))
set_option maxHeartbeats 4000000 in
set_option maxRecDepth 100000 in
theorem t_X10_readRule_J73 {x : Ctx} {w : Wp} {n0_9 : Nat}  {s_10 : St} {z : Int32 × St} (hn0_9 : n0_9 < 4)   (C : Cx x WC w cX10_readRule 2 RX10 2 (some .int)) (h : Tx_readRule_J73 n0_9 s_10 = some z) : V x WC w 2 (QM x WC w (some (.int z.1)) z.2) s_10 73 [(0, .ref (wa w 20 n0_9))] [] := by
  unfold Tx_readRule_J73 at h
  refine r_aload_n C dX10_readRule_73 rfl 0 rfl ?_
  obtain ⟨r_11, er_11, h⟩ := bdE h
  refine kX10_31 C hn0_9 (m_X10_skipBlanks hn0_9 er_11) (by decide) (Nat.le_of_ble_eq_true rfl) dX10_readRule_74 ?_
  refine r_aload_n C dX10_readRule_77 rfl 0 rfl ?_
  refine gfX10_22 C hn0_9 dX10_readRule_78 ?_
  refine r_aload_n C dX10_readRule_81 rfl 0 rfl ?_
  refine gfX10_15 C hn0_9 dX10_readRule_82 ?_
  refine r_em (st := []) 97 ((if (r_11.1 20 n0_9 1) ≤ (r_11.1 20 n0_9 3) then (-9) else (r_11.1 20 n0_9 3) : Int32)) (fun hM_13 => ?_) ?_
  · refine r_icmp_ge (tgt := 95) C dX10_readRule_85 (by decide) (fun c_12 => ?_) (fun c_12 => ?_)
    · refine r_bipush (v := (-9)) C dX10_readRule_95 (by decide) ?_
      exact (em_pos c_12 hM_13)
    · refine r_aload_n C dX10_readRule_88 rfl 0 rfl ?_
      refine gfX10_22 C hn0_9 dX10_readRule_89 ?_
      refine r_goto (tgt := 97) C dX10_readRule_92 (by decide) ?_
      exact (em_neg c_12 hM_13)
  cases h
  exact r_iret C dX10_readRule_97
set_option maxHeartbeats 4000000 in
set_option maxRecDepth 100000 in
theorem t_X10_readRule_J31 {x : Ctx} {w : Wp} {n0_4 : Nat} {v1_5 : Int32}  {s_6 : St} {z : Int32 × St} (hn0_4 : n0_4 < 4)   (C : Cx x WC w cX10_readRule 2 RX10 2 (some .int)) (h : Tx_readRule_J31 n0_4 v1_5 s_6 = some z) : V x WC w 2 (QM x WC w (some (.int z.1)) z.2) s_6 31 [(0, .ref (wa w 20 n0_4)), (1, .int v1_5)] [] := by
  unfold Tx_readRule_J31 at h
  refine r_aload_n C dX10_readRule_31 rfl 0 rfl ?_
  refine r_iload_n C dX10_readRule_32 rfl 1 rfl ?_
  refine r_bipush (v := 48) C dX10_readRule_33 (by decide) ?_
  refine r_em (st := [.ref (wa w 20 n0_4)]) 45 ((if v1_5 = 48 then 243 else 0 : Int32)) (fun hM_8 => ?_) ?_
  · refine r_icmp_ne (tgt := 44) C dX10_readRule_35 (by decide) (fun c_7 => ?_) (fun c_7 => ?_)
    · refine r_iconst (v := 0) C dX10_readRule_44 (by decide) ?_
      exact (em_neg c_7 hM_8)
    · refine r_sipush (v := 243) C dX10_readRule_38 (by decide) ?_
      refine r_goto (tgt := 45) C dX10_readRule_41 (by decide) ?_
      exact (em_pos c_7 hM_8)
  refine pfX10_19 C hn0_4 dX10_readRule_45 ?_
  refine r_aload_n C dX10_readRule_48 rfl 0 rfl ?_
  refine r_dup C dX10_readRule_49 rfl ?_
  refine gfX10_22 C hn0_4 dX10_readRule_50 ?_
  refine r_iconst (v := 1) C dX10_readRule_53 (by decide) ?_
  refine r_iadd C dX10_readRule_54 ?_
  refine pfX10_22 C hn0_4 dX10_readRule_55 ?_
  refine r_goto (tgt := 73) C dX10_readRule_58 (by decide) ?_
  refine r_sub [0] rfl ?_
  exact t_X10_readRule_J73 hn0_4 C h
set_option maxHeartbeats 4000000 in
set_option maxRecDepth 100000 in
theorem m_X10_readRule {l : Launch} {w : Wp} {n : Nat} (hn : n < 4) {s0 : St} {z : Int32 × St} (h : Tx_readRule n s0 = some z) : Cm l yX10_readRule (.code yX10_readRule cX10_readRule 2 (some .int)) 2 WC w [.ref (wa w 20 n)] s0 (some (.int z.1)) z.2 := by
  refine Cm.of (own := RX10) (by decide +kernel) rfl (Nat.le_of_ble_eq_true rfl) (L := [(0, .ref (wa w 20 n))]) rfl KoC (fun x hl C => ?_)
  subst hl
  unfold Tx_readRule at h
  refine r_aload_n C dX10_readRule_0 rfl 0 rfl ?_
  refine r_iconst (v := 0) C dX10_readRule_1 (by decide) ?_
  refine pfX10_22 C hn dX10_readRule_2 ?_
  refine r_aload_n C dX10_readRule_5 rfl 0 rfl ?_
  refine r_iconst (v := 0) C dX10_readRule_6 (by decide) ?_
  refine pfX10_19 C hn dX10_readRule_7 ?_
  refine r_aload_n C dX10_readRule_10 rfl 0 rfl ?_
  obtain ⟨r_1, er_1, h⟩ := bdE h
  refine kX10_31 C hn (m_X10_skipBlanks hn er_1) (by decide) (Nat.le_of_ble_eq_true rfl) dX10_readRule_11 ?_
  refine r_aload_n C dX10_readRule_14 rfl 0 rfl ?_
  obtain ⟨r_2, er_2, h⟩ := bdE h
  refine kX10_34 C hn (m_X10_signHere hn er_2) (by decide) (Nat.le_of_ble_eq_true rfl) dX10_readRule_15 ?_
  refine r_istore_n C dX10_readRule_18 rfl (Nat.le_of_ble_eq_true rfl) (L' := [(1, _), (0, _)]) rfl ?_
  refine r_iload_n C dX10_readRule_19 rfl 0 rfl ?_
  refine r_bipush (v := 48) C dX10_readRule_20 (by decide) ?_
  refine r_icmp_eq (tgt := 31) C dX10_readRule_22 (by decide) (fun c_3 => ?_) (fun c_3 => ?_)
  · have h := ip h c_3
    refine r_sub [1, 0] rfl ?_
    exact t_X10_readRule_J31 hn C h
  · have h := iq h c_3
    refine r_iload_n C dX10_readRule_25 rfl 0 rfl ?_
    refine r_bipush (v := 49) C dX10_readRule_26 (by decide) ?_
    refine r_icmp_ne (tgt := 61) C dX10_readRule_28 (by decide) (fun c_14 => ?_) (fun c_14 => ?_)
    · have h := iq h c_14
      refine r_aload_n C dX10_readRule_61 rfl 1 rfl ?_
      obtain ⟨r_15, er_15, h⟩ := bdE h
      refine kX10_38 C hn (m_X10_readLetters hn er_15) (by decide) (Nat.le_of_ble_eq_true rfl) dX10_readRule_62 ?_
      refine r_if_ne (tgt := 73) C dX10_readRule_65 (by decide) (fun c_16 => ?_) (fun c_16 => ?_)
      · have h := iq h c_16
        refine r_sub [1] rfl ?_
        exact t_X10_readRule_J73 hn C h
      · have h := ip h c_16
        refine r_aload_n C dX10_readRule_68 rfl 1 rfl ?_
        refine gfX10_22 C hn dX10_readRule_69 ?_
        cases h
        exact r_iret C dX10_readRule_72
    · have h := ip h c_14
      refine r_sub [1, 0] rfl ?_
      exact t_X10_readRule_J31 hn C h
