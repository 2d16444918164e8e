def Bn_firstChange_J91 (B14 : Int32 → Int32 → Int32 → St → Option (Int32 × St)) (n1_18 : Nat) (v3_19 : Int32) (v4_20 : Int32) (v5_21 : Int32)  (s_22 : St) : Option (Int32 × St) :=
  B14 v3_19 v4_20 (v5_21 + 1) s_22
def Bn_firstChange_J84 (B14 : Int32 → Int32 → Int32 → St → Option (Int32 × St)) (n1_13 : Nat) (v5_14 : Int32) (v6_15 : Int32) (v7_16 : Int32)  (s_17 : St) : Option (Int32 × St) :=
  Bn_firstChange_J91 B14 n1_13 v7_16 v6_15 v5_14 s_17
def Bn_firstChange_L14 (K97 : Int32 → Int32 → St → Option (Int32 × St)) (n1_1 : Nat) : Nat → Int32 → Int32 → Int32 → St → Option (Int32 × St)
  | 0, _, _, _, _ => none
  | n + 1, v3_2, v4_3, v5_4, s_5 => if (s_5.1 22 n1_1 5) ≤ v5_4 then (K97 v3_2 v4_3 s_5) else (if inb v5_4 9 = true then if inb (s_5.1 23 n1_1 v5_4.toNatClampNeg) 24 = true then if ((s_5.1 26 ((s_5.1 23 n1_1 v5_4.toNatClampNeg).toNatClampNeg) 2) + 1) ≤ (s_5.1 22 n1_1 1) then (Option.bind (Bn_sayingsAhead ((s_5.1 26 ((s_5.1 23 n1_1 v5_4.toNatClampNeg).toNatClampNeg) 2) + 1) n1_1 s_5) (fun r_10 => Option.bind (Bn_costParted r_10 s_5) (fun r_11 => if r_11 < v3_2 then (Bn_firstChange_J84 (Bn_firstChange_L14 K97 n1_1 n) n1_1 v5_4 ((s_5.1 26 ((s_5.1 23 n1_1 v5_4.toNatClampNeg).toNatClampNeg) 2) + 1) r_11 s_5) else (if r_11 = v3_2 then (if v4_3 ≤ ((s_5.1 26 ((s_5.1 23 n1_1 v5_4.toNatClampNeg).toNatClampNeg) 2) + 1) then (Bn_firstChange_J91 (Bn_firstChange_L14 K97 n1_1 n) n1_1 v3_2 v4_3 v5_4 s_5) else (Bn_firstChange_J84 (Bn_firstChange_L14 K97 n1_1 n) n1_1 v5_4 ((s_5.1 26 ((s_5.1 23 n1_1 v5_4.toNatClampNeg).toNatClampNeg) 2) + 1) r_11 s_5)) else (Bn_firstChange_J91 (Bn_firstChange_L14 K97 n1_1 n) n1_1 v3_2 v4_3 v5_4 s_5))))) else (Bn_firstChange_J91 (Bn_firstChange_L14 K97 n1_1 n) n1_1 v3_2 v4_3 v5_4 s_5) else none else none)
def Bn_firstChange (v1 : Nat) (s0 : St) : Option (Int32 × St) :=
  Bn_firstChange_L14 (fun (v3_36 : Int32) (v4_37 : Int32) (s_38 : St) => some (v4_37, sX s_38 10 0 8 ((s_38.1 10 0 4) - v3_36))) v1 1100 (s0.1 10 0 4) (s0.1 22 v1 0) 0 s0
set_option maxHeartbeats 4000000 in
set_option maxRecDepth 100000 in
theorem t_X0_firstChange_J91 {x : Ctx} {w : Wp} {n1_18 : Nat} {v3_19 : Int32} {v4_20 : Int32} {v5_21 : Int32}  {s_22 : St} {z : Int32 × St} (hn1_18 : n1_18 < 8) {B14 : Int32 → Int32 → Int32 → St → Option (Int32 × St)} (hB14 : ∀ (u3_23 : Int32) (u4_24 : Int32) (u5_25 : Int32) (s_26 : St), B14 u3_23 u4_24 u5_25 s_26 = some z → V x WC w 8 (QM x WC w (some (.int z.1)) z.2) s_26 14 [(0, .ref (wa w 10 0)), (1, .ref (wa w 22 n1_18)), (2, .ref (wa w 16 0)), (3, .int u3_23), (4, .int u4_24), (5, .int u5_25)] []) (C : Cx x WC w cX0_firstChange 8 RX0 3 (some .int)) (h : Bn_firstChange_J91 B14 n1_18 v3_19 v4_20 v5_21 s_22 = some z) : V x WC w 8 (QM x WC w (some (.int z.1)) z.2) s_22 91 [(0, .ref (wa w 10 0)), (1, .ref (wa w 22 n1_18)), (2, .ref (wa w 16 0)), (3, .int v3_19), (4, .int v4_20), (5, .int v5_21)] [] := by
  unfold Bn_firstChange_J91 at h
  refine r_iinc (v := v5_21 + 1) C dX0_firstChange_91 (j := 5) rfl rfl (Nat.le_of_ble_eq_true rfl) (L' := [(5, _), (0, _), (1, _), (2, _), (3, _), (4, _)]) rfl ?_
  refine r_goto (tgt := 14) C dX0_firstChange_94 (by decide) ?_
  refine r_sub [1, 2, 3, 4, 5, 0] rfl ?_
  exact hB14 _ _ _ _ h
set_option maxHeartbeats 4000000 in
set_option maxRecDepth 100000 in
theorem t_X0_firstChange_J84 {x : Ctx} {w : Wp} {n1_13 : Nat} {v5_14 : Int32} {v6_15 : Int32} {v7_16 : Int32}  {s_17 : St} {z : Int32 × St} (hn1_13 : n1_13 < 8) {B14 : Int32 → Int32 → Int32 → St → Option (Int32 × St)} (hB14 : ∀ (u3_27 : Int32) (u4_28 : Int32) (u5_29 : Int32) (s_30 : St), B14 u3_27 u4_28 u5_29 s_30 = some z → V x WC w 8 (QM x WC w (some (.int z.1)) z.2) s_30 14 [(0, .ref (wa w 10 0)), (1, .ref (wa w 22 n1_13)), (2, .ref (wa w 16 0)), (3, .int u3_27), (4, .int u4_28), (5, .int u5_29)] []) (C : Cx x WC w cX0_firstChange 8 RX0 3 (some .int)) (h : Bn_firstChange_J84 B14 n1_13 v5_14 v6_15 v7_16 s_17 = some z) : V x WC w 8 (QM x WC w (some (.int z.1)) z.2) s_17 84 [(0, .ref (wa w 10 0)), (1, .ref (wa w 22 n1_13)), (2, .ref (wa w 16 0)), (5, .int v5_14), (6, .int v6_15), (7, .int v7_16)] [] := by
  unfold Bn_firstChange_J84 at h
  refine r_iload C dX0_firstChange_84 5 rfl ?_
  refine r_istore_n C dX0_firstChange_86 rfl (Nat.le_of_ble_eq_true rfl) (L' := [(3, _), (0, _), (1, _), (2, _), (5, _), (6, _), (7, _)]) rfl ?_
  refine r_iload C dX0_firstChange_87 5 rfl ?_
  refine r_istore C dX0_firstChange_89 (Nat.le_of_ble_eq_true rfl) (L' := [(4, _), (3, _), (0, _), (1, _), (2, _), (5, _), (6, _), (7, _)]) rfl ?_
  refine r_sub [2, 3, 4, 1, 0, 5] rfl ?_
  exact t_X0_firstChange_J91 hn1_13 hB14 C h
set_option maxHeartbeats 4000000 in
set_option maxRecDepth 100000 in
theorem t_X0_firstChange_L14 {x : Ctx} {w : Wp} {n1_1 : Nat} {z : Int32 × St} (hn1_1 : n1_1 < 8) {K97 : Int32 → Int32 → St → Option (Int32 × St)} (hK97 : ∀ (u3_33 : Int32) (u4_34 : Int32) (s_35 : St), K97 u3_33 u4_34 s_35 = some z → V x WC w 8 (QM x WC w (some (.int z.1)) z.2) s_35 97 [(0, .ref (wa w 10 0)), (3, .int u3_33), (4, .int u4_34)] []) (C : Cx x WC w cX0_firstChange 8 RX0 3 (some .int)) : ∀ (n : Nat) (v3_2 : Int32) (v4_3 : Int32) (v5_4 : Int32) (s_5 : St), Bn_firstChange_L14 K97 n1_1 n v3_2 v4_3 v5_4 s_5 = some z → V x WC w 8 (QM x WC w (some (.int z.1)) z.2) s_5 14 [(0, .ref (wa w 10 0)), (1, .ref (wa w 22 n1_1)), (2, .ref (wa w 16 0)), (3, .int v3_2), (4, .int v4_3), (5, .int v5_4)] [] := by
  intro n
  induction n with
  | zero => intro v3_2 v4_3 v5_4 s_5 h; cases h
  | succ n ih =>
    intro v3_2 v4_3 v5_4 s_5 h
    unfold Bn_firstChange_L14 at h
    refine r_iload C dX0_firstChange_14 5 rfl ?_
    refine r_aload_n C dX0_firstChange_16 rfl 1 rfl ?_
    refine gfX0_68 C hn1_1 dX0_firstChange_17 ?_
    refine r_icmp_ge (tgt := 97) C dX0_firstChange_20 (by decide) (fun c_6 => ?_) (fun c_6 => ?_)
    · have h := ip h c_6
      refine r_sub [0, 3, 4] rfl ?_
      exact hK97 _ _ _ h
    · have h := iq h c_6
      refine r_aload_n C dX0_firstChange_23 rfl 2 rfl ?_
      refine r_aload_n C dX0_firstChange_24 rfl 1 rfl ?_
      refine gfX0_73 C hn1_1 dX0_firstChange_25 ?_
      refine r_iload C dX0_firstChange_28 5 rfl ?_
      obtain ⟨g_7, h⟩ := gdE h
      refine ldC_23 C hn1_1 g_7 dX0_firstChange_30 ?_
      obtain ⟨g_8, h⟩ := gdE h
      refine la_16 C g_8 dX0_firstChange_31 ?_
      refine gfX0_103 C (inb_lt g_8) dX0_firstChange_32 ?_
      refine r_iconst (v := 1) C dX0_firstChange_35 (by decide) ?_
      refine r_iadd C dX0_firstChange_36 ?_
      refine r_istore C dX0_firstChange_37 (Nat.le_of_ble_eq_true rfl) (L' := [(6, _), (0, _), (1, _), (2, _), (3, _), (4, _), (5, _)]) rfl ?_
      refine r_iload C dX0_firstChange_39 0 rfl ?_
      refine r_aload_n C dX0_firstChange_41 rfl 2 rfl ?_
      refine gfX0_106 C hn1_1 dX0_firstChange_42 ?_
      refine r_icmp_le (tgt := 51) C dX0_firstChange_45 (by decide) (fun c_9 => ?_) (fun c_9 => ?_)
      · have h := ip h c_9
        refine r_aload_n C dX0_firstChange_51 rfl 1 rfl ?_
        refine r_aload_n C dX0_firstChange_52 rfl 1 rfl ?_
        refine r_iload C dX0_firstChange_53 0 rfl ?_
        refine r_aload_n C dX0_firstChange_55 rfl 2 rfl ?_
        refine r_aload_n C dX0_firstChange_56 rfl 3 rfl ?_
        obtain ⟨r_10, er_10, h⟩ := bdE h
        refine kX0_109 C (m_X0_sayingsAhead hn1_1 er_10) (by decide) (Nat.le_of_ble_eq_true rfl) dX0_firstChange_57 ?_
        obtain ⟨r_11, er_11, h⟩ := bdE h
        refine kX0_113 C (m_X0_costParted er_11) (by decide) (Nat.le_of_ble_eq_true rfl) dX0_firstChange_60 ?_
        refine r_istore C dX0_firstChange_63 (Nat.le_of_ble_eq_true rfl) (L' := [(7, _), (6, _), (0, _), (1, _), (2, _), (3, _), (4, _), (5, _)]) rfl ?_
        refine r_iload C dX0_firstChange_65 0 rfl ?_
        refine r_iload_n C dX0_firstChange_67 rfl 5 rfl ?_
        refine r_icmp_lt (tgt := 84) C dX0_firstChange_68 (by decide) (fun c_12 => ?_) (fun c_12 => ?_)
        · have h := ip h c_12
          refine r_sub [2, 3, 4, 7, 1, 0] rfl ?_
          exact t_X0_firstChange_J84 hn1_1 ih C h
        · have h := iq h c_12
          refine r_iload C dX0_firstChange_71 0 rfl ?_
          refine r_iload_n C dX0_firstChange_73 rfl 5 rfl ?_
          refine r_icmp_ne (tgt := 91) C dX0_firstChange_74 (by decide) (fun c_31 => ?_) (fun c_31 => ?_)
          · have h := iq h c_31
            refine r_sub [2, 3, 4, 5, 6, 7] rfl ?_
            exact t_X0_firstChange_J91 hn1_1 ih C h
          · have h := ip h c_31
            refine r_iload C dX0_firstChange_77 1 rfl ?_
            refine r_iload C dX0_firstChange_79 6 rfl ?_
            refine r_icmp_ge (tgt := 91) C dX0_firstChange_81 (by decide) (fun c_32 => ?_) (fun c_32 => ?_)
            · have h := ip h c_32
              refine r_sub [2, 3, 4, 5, 6, 7] rfl ?_
              exact t_X0_firstChange_J91 hn1_1 ih C h
            · have h := iq h c_32
              refine r_sub [2, 3, 4, 7, 1, 0] rfl ?_
              exact t_X0_firstChange_J84 hn1_1 ih C h
      · have h := iq h c_9
        refine r_goto (tgt := 91) C dX0_firstChange_48 (by decide) ?_
        refine r_sub [1, 2, 3, 4, 5, 6] rfl ?_
        exact t_X0_firstChange_J91 hn1_1 ih C h
set_option maxHeartbeats 4000000 in
set_option maxRecDepth 100000 in
theorem m_X0_firstChange {l : Launch} {w : Wp} {v1 : Nat} (hv1 : v1 < 8) {s0 : St} {z : Int32 × St} (h : Bn_firstChange v1 s0 = some z) : Cm l yX0_firstChange (.code yX0_firstChange cX0_firstChange 8 (some .int)) 3 WC w [.ref (wa w 10 0), .ref (wa w 22 v1), .ref (wa w 16 0)] s0 (some (.int z.1)) z.2 := by
  refine Cm.of (own := RX0) (by decide +kernel) rfl (Nat.le_of_ble_eq_true rfl) (L := [(0, .ref (wa w 10 0)), (1, .ref (wa w 22 v1)), (2, .ref (wa w 16 0))]) rfl KoC (fun x hl C => ?_)
  subst hl
  unfold Bn_firstChange at h
  refine r_aload_n C dX0_firstChange_0 rfl 0 rfl ?_
  refine gfX0_25 C dX0_firstChange_1 ?_
  refine r_istore_n C dX0_firstChange_4 rfl (Nat.le_of_ble_eq_true rfl) (L' := [(3, _), (0, _), (1, _), (2, _)]) rfl ?_
  refine r_aload_n C dX0_firstChange_5 rfl 2 rfl ?_
  refine gfX0_100 C hv1 dX0_firstChange_6 ?_
  refine r_istore C dX0_firstChange_9 (Nat.le_of_ble_eq_true rfl) (L' := [(4, _), (3, _), (0, _), (1, _), (2, _)]) rfl ?_
  refine r_iconst (v := 0) C dX0_firstChange_11 (by decide) ?_
  refine r_istore C dX0_firstChange_12 (Nat.le_of_ble_eq_true rfl) (L' := [(5, _), (4, _), (3, _), (0, _), (1, _), (2, _)]) rfl ?_
  refine r_sub [3, 4, 5, 2, 1, 0] rfl ?_
  refine t_X0_firstChange_L14 hv1 (fun v3_36 v4_37 s_38 h => ?_) C _ _ _ _ _ h
  refine r_aload_n C dX0_firstChange_97 rfl 0 rfl ?_
  refine r_aload_n C dX0_firstChange_98 rfl 0 rfl ?_
  refine gfX0_25 C dX0_firstChange_99 ?_
  refine r_iload_n C dX0_firstChange_102 rfl 1 rfl ?_
  refine r_isub C dX0_firstChange_103 ?_
  refine pfX0_37 C dX0_firstChange_104 ?_
  refine r_iload C dX0_firstChange_107 2 rfl ?_
  cases h
  exact r_iret C dX0_firstChange_109
def Q_within (v0 : Int32) (v1 : Int32) : Int32 :=
  (if v0 < 0 then 0 else (if v1 ≤ v0 then 0 else 1) : Int32)
set_option maxHeartbeats 4000000 in
set_option maxRecDepth 100000 in
theorem m_X11_within {l : Launch} {w : Wp} {v0 : Int32} {v1 : Int32}  {s0 : St} {z : Int32} (h : Q_within v0 v1 = z) : Cm l yX11_within (.code yX11_within cX11_within 2 (some .boolean)) 0 WC w [.int v0, .int v1] s0 (some (.int z)) s0 := by
  refine Cm.of (own := RX11) (by decide +kernel) rfl (Nat.le_of_ble_eq_true rfl) (L := [(0, .int v0), (1, .int v1)]) rfl KoC (fun x hl C => ?_)
  subst hl
  unfold Q_within at h
  refine r_iload_n C dX11_within_0 rfl 0 rfl ?_
  refine r_em (st := []) 14 ((if v0 < 0 then 0 else (if v1 ≤ v0 then 0 else 1) : Int32)) (fun hM_3 => ?_) ?_
  · refine r_if_lt (tgt := 13) C dX11_within_1 (by decide) (fun c_2 => ?_) (fun c_2 => ?_)
    · refine r_iconst (v := 0) C dX11_within_13 (by decide) ?_
      exact (em_pos c_2 hM_3)
    · refine r_iload_n C dX11_within_4 rfl 0 rfl ?_
      refine r_iload_n C dX11_within_5 rfl 1 rfl ?_
      refine r_icmp_ge (tgt := 13) C dX11_within_6 (by decide) (fun c_1 => ?_) (fun c_1 => ?_)
      · refine r_iconst (v := 0) C dX11_within_13 (by decide) ?_
        exact (em_pos c_1 (em_neg c_2 hM_3))
      · refine r_iconst (v := 1) C dX11_within_9 (by decide) ?_
        refine r_goto (tgt := 14) C dX11_within_10 (by decide) ?_
        exact (em_neg c_1 (em_neg c_2 hM_3))
  subst h
  exact r_zret C (nb_ite rfl (nb_ite rfl rfl)) dX11_within_14
theorem nb_X11_within {v0 : Int32} {v1 : Int32} : narrow .boolean (.int (Q_within v0 v1)) = .int (Q_within v0 v1) := by
  unfold Q_within
  exact (nb_ite rfl (nb_ite rfl rfl))
def Bk_hasCase (v1 : Int32) (s0 : St) : Int32 :=
  Q_within v1 (s0.1 3 0 3)
set_option maxHeartbeats 4000000 in
set_option maxRecDepth 100000 in
theorem m_X1_hasCase {l : Launch} {w : Wp} {v1 : Int32}  {s0 : St} {z : Int32} (h : Bk_hasCase v1 s0 = z) : Cm l yX1_hasCase (.code yX1_hasCase cX1_hasCase 2 (some .boolean)) 1 WC w [.ref (wa w 3 0), .int v1] s0 (some (.int z)) s0 := by
  refine Cm.of (own := RX1) (by decide +kernel) rfl (Nat.le_of_ble_eq_true rfl) (L := [(0, .ref (wa w 3 0)), (1, .int v1)]) rfl KoC (fun x hl C => ?_)
  subst hl
  unfold Bk_hasCase at h
  refine r_iload_n C dX1_hasCase_0 rfl 1 rfl ?_
  refine r_aload_n C dX1_hasCase_1 rfl 0 rfl ?_
  refine gfX1_31 C dX1_hasCase_2 ?_
  refine kX1_55 C (m_X11_within rfl) (by decide) (Nat.le_of_ble_eq_true rfl) dX1_hasCase_5 ?_
  subst h
  exact r_zret C nb_X11_within dX1_hasCase_8
theorem nb_X1_hasCase {v1 : Int32} {s0 : St} : narrow .boolean (.int (Bk_hasCase v1 s0)) = .int (Bk_hasCase v1 s0) := by
  unfold Bk_hasCase
  exact nb_X11_within
def Bk_hasMaster (v1 : Int32) (s0 : St) : Int32 :=
  Q_within v1 (s0.1 3 0 5)
set_option maxHeartbeats 4000000 in
set_option maxRecDepth 100000 in
theorem m_X1_hasMaster {l : Launch} {w : Wp} {v1 : Int32}  {s0 : St} {z : Int32} (h : Bk_hasMaster v1 s0 = z) : Cm l yX1_hasMaster (.code yX1_hasMaster cX1_hasMaster 2 (some .boolean)) 1 WC w [.ref (wa w 3 0), .int v1] s0 (some (.int z)) s0 := by
  refine Cm.of (own := RX1) (by decide +kernel) rfl (Nat.le_of_ble_eq_true rfl) (L := [(0, .ref (wa w 3 0)), (1, .int v1)]) rfl KoC (fun x hl C => ?_)
  subst hl
  unfold Bk_hasMaster at h
  refine r_iload_n C dX1_hasMaster_0 rfl 1 rfl ?_
  refine r_aload_n C dX1_hasMaster_1 rfl 0 rfl ?_
  refine gfX1_41 C dX1_hasMaster_2 ?_
  refine kX1_55 C (m_X11_within rfl) (by decide) (Nat.le_of_ble_eq_true rfl) dX1_hasMaster_5 ?_
  subst h
  exact r_zret C nb_X11_within dX1_hasMaster_8
theorem nb_X1_hasMaster {v1 : Int32} {s0 : St} : narrow .boolean (.int (Bk_hasMaster v1 s0)) = .int (Bk_hasMaster v1 s0) := by
  unfold Bk_hasMaster
  exact nb_X11_within
def Bk_hasSaying (v1 : Int32) (s0 : St) : Int32 :=
  Q_within v1 (s0.1 3 0 7)
set_option maxHeartbeats 4000000 in
set_option maxRecDepth 100000 in
theorem m_X1_hasSaying {l : Launch} {w : Wp} {v1 : Int32}  {s0 : St} {z : Int32} (h : Bk_hasSaying v1 s0 = z) : Cm l yX1_hasSaying (.code yX1_hasSaying cX1_hasSaying 2 (some .boolean)) 1 WC w [.ref (wa w 3 0), .int v1] s0 (some (.int z)) s0 := by
  refine Cm.of (own := RX1) (by decide +kernel) rfl (Nat.le_of_ble_eq_true rfl) (L := [(0, .ref (wa w 3 0)), (1, .int v1)]) rfl KoC (fun x hl C => ?_)
  subst hl
  unfold Bk_hasSaying at h
  refine r_iload_n C dX1_hasSaying_0 rfl 1 rfl ?_
  refine r_aload_n C dX1_hasSaying_1 rfl 0 rfl ?_
  refine gfX1_50 C dX1_hasSaying_2 ?_
  refine kX1_55 C (m_X11_within rfl) (by decide) (Nat.le_of_ble_eq_true rfl) dX1_hasSaying_5 ?_
  subst h
  exact r_zret C nb_X11_within dX1_hasSaying_8
theorem nb_X1_hasSaying {v1 : Int32} {s0 : St} : narrow .boolean (.int (Bk_hasSaying v1 s0)) = .int (Bk_hasSaying v1 s0) := by
  unfold Bk_hasSaying
  exact nb_X11_within
def Bk_hasYear (v1 : Int32) (v2 : Int32) (s0 : St) : Option (Int32) :=
  if (Bk_hasMaster v1 s0) = 0 then (some 0) else (if inb v1 8 = true then if v2 < (s0.1 22 v1.toNatClampNeg 0) then (some 0) else (if inb v1 8 = true then some (if (s0.1 22 v1.toNatClampNeg 1) < v2 then 0 else 1 : Int32) else none) else none)
set_option maxHeartbeats 4000000 in
set_option maxRecDepth 100000 in
theorem m_X1_hasYear {l : Launch} {w : Wp} {v1 : Int32} {v2 : Int32}  {s0 : St} {z : Int32} (h : Bk_hasYear v1 v2 s0 = some z) : Cm l yX1_hasYear (.code yX1_hasYear cX1_hasYear 3 (some .boolean)) 2 WC w [.ref (wa w 3 0), .int v1, .int v2] s0 (some (.int z)) s0 := by
  refine Cm.of (own := RX1) (by decide +kernel) rfl (Nat.le_of_ble_eq_true rfl) (L := [(0, .ref (wa w 3 0)), (1, .int v1), (2, .int v2)]) rfl KoC (fun x hl C => ?_)
  subst hl
  unfold Bk_hasYear at h
  refine r_aload_n C dX1_hasYear_0 rfl 0 rfl ?_
  refine r_iload_n C dX1_hasYear_1 rfl 1 rfl ?_
  refine kX1_59 C (m_X1_hasMaster rfl) (by decide) (Nat.le_of_ble_eq_true rfl) dX1_hasYear_2 ?_
  refine r_if_eq (tgt := 38) C dX1_hasYear_5 (by decide) (fun c_1 => ?_) (fun c_1 => ?_)
  · have h := ip h c_1
    refine r_iconst (v := 0) C dX1_hasYear_38 (by decide) ?_
    cases h
    exact r_zret C rfl dX1_hasYear_39
  · have h := iq h c_1
    refine r_iload_n C dX1_hasYear_8 rfl 2 rfl ?_
    refine r_aload_n C dX1_hasYear_9 rfl 0 rfl ?_
    refine gfX1_37 C dX1_hasYear_10 ?_
    refine r_iload_n C dX1_hasYear_13 rfl 1 rfl ?_
    obtain ⟨g_2, h⟩ := gdE h
    refine la_15 C g_2 dX1_hasYear_14 ?_
    refine gfX1_63 C (inb_lt g_2) dX1_hasYear_15 ?_
    refine r_icmp_lt (tgt := 38) C dX1_hasYear_18 (by decide) (fun c_3 => ?_) (fun c_3 => ?_)
    · have h := ip h c_3
      refine r_iconst (v := 0) C dX1_hasYear_38 (by decide) ?_
      cases h
      exact r_zret C rfl dX1_hasYear_39
    · have h := iq h c_3
      refine r_iload_n C dX1_hasYear_21 rfl 2 rfl ?_
      refine r_aload_n C dX1_hasYear_22 rfl 0 rfl ?_
      refine gfX1_37 C dX1_hasYear_23 ?_
      refine r_iload_n C dX1_hasYear_26 rfl 1 rfl ?_
      obtain ⟨g_4, h⟩ := gdE h
      refine la_15 C g_4 dX1_hasYear_27 ?_
      refine gfX1_66 C (inb_lt g_4) dX1_hasYear_28 ?_
      refine r_em (st := []) 39 ((if (s0.1 22 v1.toNatClampNeg 1) < v2 then 0 else 1 : Int32)) (fun hM_6 => ?_) ?_
      · refine r_icmp_gt (tgt := 38) C dX1_hasYear_31 (by decide) (fun c_5 => ?_) (fun c_5 => ?_)
        · refine r_iconst (v := 0) C dX1_hasYear_38 (by decide) ?_
          exact (em_pos c_5 hM_6)
        · refine r_iconst (v := 1) C dX1_hasYear_34 (by decide) ?_
          refine r_goto (tgt := 39) C dX1_hasYear_35 (by decide) ?_
          exact (em_neg c_5 hM_6)
      cases h
      exact r_zret C (nb_ite rfl rfl) dX1_hasYear_39
def Bk_hasRoom (v1 : Int32) (v2 : Int32) (s0 : St) : Option (Int32) :=
  if 24 < ((s0.1 3 0 7) + v2) then (some 0) else (if inb v1 8 = true then some (if 9 < ((s0.1 22 v1.toNatClampNeg 5) + v2) then 0 else 1 : Int32) else none)
set_option maxHeartbeats 4000000 in
set_option maxRecDepth 100000 in
theorem m_X1_hasRoom {l : Launch} {w : Wp} {v1 : Int32} {v2 : Int32}  {s0 : St} {z : Int32} (h : Bk_hasRoom v1 v2 s0 = some z) : Cm l yX1_hasRoom (.code yX1_hasRoom cX1_hasRoom 3 (some .boolean)) 0 WC w [.ref (wa w 3 0), .int v1, .int v2] s0 (some (.int z)) s0 := by
  refine Cm.of (own := RX1) (by decide +kernel) rfl (Nat.le_of_ble_eq_true rfl) (L := [(0, .ref (wa w 3 0)), (1, .int v1), (2, .int v2)]) rfl KoC (fun x hl C => ?_)
  subst hl
  unfold Bk_hasRoom at h
  refine r_aload_n C dX1_hasRoom_0 rfl 0 rfl ?_
  refine gfX1_50 C dX1_hasRoom_1 ?_
  refine r_iload_n C dX1_hasRoom_4 rfl 2 rfl ?_
  refine r_iadd C dX1_hasRoom_5 ?_
  refine r_bipush (v := 24) C dX1_hasRoom_6 (by decide) ?_
  refine r_icmp_gt (tgt := 31) C dX1_hasRoom_8 (by decide) (fun c_1 => ?_) (fun c_1 => ?_)
  · have h := ip h c_1
    refine r_iconst (v := 0) C dX1_hasRoom_31 (by decide) ?_
    cases h
    exact r_zret C rfl dX1_hasRoom_32
  · have h := iq h c_1
    refine r_aload_n C dX1_hasRoom_11 rfl 0 rfl ?_
    refine gfX1_37 C dX1_hasRoom_12 ?_
    refine r_iload_n C dX1_hasRoom_15 rfl 1 rfl ?_
    obtain ⟨g_2, h⟩ := gdE h
    refine la_15 C g_2 dX1_hasRoom_16 ?_
    refine gfX1_69 C (inb_lt g_2) dX1_hasRoom_17 ?_
    refine r_iload_n C dX1_hasRoom_20 rfl 2 rfl ?_
    refine r_iadd C dX1_hasRoom_21 ?_
    refine r_bipush (v := 9) C dX1_hasRoom_22 (by decide) ?_
    refine r_em (st := []) 32 ((if 9 < ((s0.1 22 v1.toNatClampNeg 5) + v2) then 0 else 1 : Int32)) (fun hM_4 => ?_) ?_
    · refine r_icmp_gt (tgt := 31) C dX1_hasRoom_24 (by decide) (fun c_3 => ?_) (fun c_3 => ?_)
      · refine r_iconst (v := 0) C dX1_hasRoom_31 (by decide) ?_
        exact (em_pos c_3 hM_4)
      · refine r_iconst (v := 1) C dX1_hasRoom_27 (by decide) ?_
        refine r_goto (tgt := 32) C dX1_hasRoom_28 (by decide) ?_
        exact (em_neg c_3 hM_4)
    cases h
    exact r_zret C (nb_ite rfl rfl) dX1_hasRoom_32
def Bk_addCase (v1 : Int32) (s0 : St) : Option (Int32 × St) :=
  if inb (s0.1 3 0 3) 12 = true then some (((sX (sX s0 14 0 ((s0.1 3 0 3).toNatClampNeg) v1) 3 0 3 (((sX s0 14 0 ((s0.1 3 0 3).toNatClampNeg) v1).1 3 0 3) + 1)).1 3 0 3) - 1, sX (sX s0 14 0 ((s0.1 3 0 3).toNatClampNeg) v1) 3 0 3 (((sX s0 14 0 ((s0.1 3 0 3).toNatClampNeg) v1).1 3 0 3) + 1)) else none
set_option maxHeartbeats 4000000 in
set_option maxRecDepth 100000 in
theorem m_X1_addCase {l : Launch} {w : Wp} {v1 : Int32}  {s0 : St} {z : Int32 × St} (h : Bk_addCase v1 s0 = some z) : Cm l yX1_addCase (.code yX1_addCase cX1_addCase 2 (some .int)) 0 WC w [.ref (wa w 3 0), .int v1] s0 (some (.int z.1)) z.2 := by
  refine Cm.of (own := RX1) (by decide +kernel) rfl (Nat.le_of_ble_eq_true rfl) (L := [(0, .ref (wa w 3 0)), (1, .int v1)]) rfl KoC (fun x hl C => ?_)
  subst hl
  unfold Bk_addCase at h
  refine r_aload_n C dX1_addCase_0 rfl 0 rfl ?_
  refine gfX1_27 C dX1_addCase_1 ?_
  refine r_aload_n C dX1_addCase_4 rfl 0 rfl ?_
  refine gfX1_31 C dX1_addCase_5 ?_
  refine r_iload_n C dX1_addCase_8 rfl 1 rfl ?_
  obtain ⟨g_1, h⟩ := gdE h
  refine stC_14 C g_1 dX1_addCase_9 ?_
  refine r_aload_n C dX1_addCase_10 rfl 0 rfl ?_
  refine r_dup C dX1_addCase_11 rfl ?_
  refine gfX1_31 C dX1_addCase_12 ?_
  refine r_iconst (v := 1) C dX1_addCase_15 (by decide) ?_
  refine r_iadd C dX1_addCase_16 ?_
  refine pfX1_31 C dX1_addCase_17 ?_
  refine r_aload_n C dX1_addCase_20 rfl 0 rfl ?_
  refine gfX1_31 C dX1_addCase_21 ?_
  refine r_iconst (v := 1) C dX1_addCase_24 (by decide) ?_
  refine r_isub C dX1_addCase_25 ?_
  cases h
  exact r_iret C dX1_addCase_26
def Bk_addMaster_J54   (t_4 : Int32) (t_5 : Nat) (s_6 : St) : Option (Int32 × St) :=
  some (((sX (sX s_6 22 t_5 3 t_4) 3 0 5 (((sX s_6 22 t_5 3 t_4).1 3 0 5) + 1)).1 3 0 5) - 1, sX (sX s_6 22 t_5 3 t_4) 3 0 5 (((sX s_6 22 t_5 3 t_4).1 3 0 5) + 1))
def Bk_addMaster (v1 : Int32) (v2 : Int32) (v3 : Int32) (s0 : St) : Option (Int32 × St) :=
  if inb (s0.1 3 0 5) 8 = true then if v3 = (-9) then (Bk_addMaster_J54 0 ((s0.1 3 0 5).toNatClampNeg) (sX (sX (sX s0 22 ((s0.1 3 0 5).toNatClampNeg) 0 v1) 22 ((s0.1 3 0 5).toNatClampNeg) 1 v2) 22 ((s0.1 3 0 5).toNatClampNeg) 2 v3)) else (if inb v3 8 = true then Bk_addMaster_J54 (((sX (sX (sX s0 22 ((s0.1 3 0 5).toNatClampNeg) 0 v1) 22 ((s0.1 3 0 5).toNatClampNeg) 1 v2) 22 ((s0.1 3 0 5).toNatClampNeg) 2 v3).1 22 v3.toNatClampNeg 3) ||| (1 <<< (v3 &&& 31))) ((s0.1 3 0 5).toNatClampNeg) (sX (sX (sX s0 22 ((s0.1 3 0 5).toNatClampNeg) 0 v1) 22 ((s0.1 3 0 5).toNatClampNeg) 1 v2) 22 ((s0.1 3 0 5).toNatClampNeg) 2 v3) else none) else none
set_option maxHeartbeats 4000000 in
set_option maxRecDepth 100000 in
theorem t_X1_addMaster_J54 {x : Ctx} {w : Wp}  {t_4 : Int32} {t_5 : Nat} {s_6 : St} {z : Int32 × St} (ht_5 : t_5 < 8)   (C : Cx x WC w cX1_addMaster 5 RX1 0 (some .int)) (h : Bk_addMaster_J54 t_4 t_5 s_6 = some z) : V x WC w 5 (QM x WC w (some (.int z.1)) z.2) s_6 54 [(0, .ref (wa w 3 0))] [.int t_4, .ref (wa w 22 t_5)] := by
  unfold Bk_addMaster_J54 at h
  refine pfX1_75 C ht_5 dX1_addMaster_54 ?_
  refine r_aload_n C dX1_addMaster_57 rfl 0 rfl ?_
  refine r_dup C dX1_addMaster_58 rfl ?_
  refine gfX1_41 C dX1_addMaster_59 ?_
  refine r_iconst (v := 1) C dX1_addMaster_62 (by decide) ?_
  refine r_iadd C dX1_addMaster_63 ?_
  refine pfX1_41 C dX1_addMaster_64 ?_
  refine r_aload_n C dX1_addMaster_67 rfl 0 rfl ?_
  refine gfX1_41 C dX1_addMaster_68 ?_
  refine r_iconst (v := 1) C dX1_addMaster_71 (by decide) ?_
  refine r_isub C dX1_addMaster_72 ?_
  cases h
  exact r_iret C dX1_addMaster_73
set_option maxHeartbeats 4000000 in
set_option maxRecDepth 100000 in
theorem m_X1_addMaster {l : Launch} {w : Wp} {v1 : Int32} {v2 : Int32} {v3 : Int32}  {s0 : St} {z : Int32 × St} (h : Bk_addMaster v1 v2 v3 s0 = some z) : Cm l yX1_addMaster (.code yX1_addMaster cX1_addMaster 5 (some .int)) 0 WC w [.ref (wa w 3 0), .int v1, .int v2, .int v3] s0 (some (.int z.1)) z.2 := by
  refine Cm.of (own := RX1) (by decide +kernel) rfl (Nat.le_of_ble_eq_true rfl) (L := [(0, .ref (wa w 3 0)), (1, .int v1), (2, .int v2), (3, .int v3)]) rfl KoC (fun x hl C => ?_)
  subst hl
  unfold Bk_addMaster at h
  refine r_aload_n C dX1_addMaster_0 rfl 0 rfl ?_
  refine gfX1_37 C dX1_addMaster_1 ?_
  refine r_aload_n C dX1_addMaster_4 rfl 0 rfl ?_
  refine gfX1_41 C dX1_addMaster_5 ?_
  obtain ⟨g_1, h⟩ := gdE h
  refine la_15 C g_1 dX1_addMaster_8 ?_
  refine r_astore C dX1_addMaster_9 (Nat.le_of_ble_eq_true rfl) (L' := [(4, _), (0, _), (1, _), (2, _), (3, _)]) rfl ?_
  refine r_aload C dX1_addMaster_11 0 rfl ?_
  refine r_iload_n C dX1_addMaster_13 rfl 2 rfl ?_
  refine pfX1_63 C (inb_lt g_1) dX1_addMaster_14 ?_
  refine r_aload C dX1_addMaster_17 0 rfl ?_
  refine r_iload_n C dX1_addMaster_19 rfl 3 rfl ?_
  refine pfX1_66 C (inb_lt g_1) dX1_addMaster_20 ?_
  refine r_aload C dX1_addMaster_23 0 rfl ?_
  refine r_iload_n C dX1_addMaster_25 rfl 4 rfl ?_
  refine pfX1_72 C (inb_lt g_1) dX1_addMaster_26 ?_
  refine r_aload C dX1_addMaster_29 0 rfl ?_
  refine r_iload_n C dX1_addMaster_31 rfl 4 rfl ?_
  refine r_bipush (v := (-9)) C dX1_addMaster_32 (by decide) ?_
  refine r_icmp_ne (tgt := 41) C dX1_addMaster_34 (by decide) (fun c_2 => ?_) (fun c_2 => ?_)
  · have h := iq h c_2
    refine r_aload_n C dX1_addMaster_41 rfl 1 rfl ?_
    refine gfX1_37 C dX1_addMaster_42 ?_
    refine r_iload_n C dX1_addMaster_45 rfl 4 rfl ?_
    obtain ⟨g_3, h⟩ := gdE h
    refine la_15 C g_3 dX1_addMaster_46 ?_
    refine gfX1_75 C (inb_lt g_3) dX1_addMaster_47 ?_
    refine r_iconst (v := 1) C dX1_addMaster_50 (by decide) ?_
    refine r_iload_n C dX1_addMaster_51 rfl 4 rfl ?_
    refine r_ishl C dX1_addMaster_52 ?_
    refine r_ior C dX1_addMaster_53 ?_
    refine r_sub [1] rfl ?_
    exact t_X1_addMaster_J54 (inb_lt g_1) C h
  · have h := ip h c_2
    refine r_iconst (v := 0) C dX1_addMaster_37 (by decide) ?_
    refine r_goto (tgt := 54) C dX1_addMaster_38 (by decide) ?_
    refine r_sub [1] rfl ?_
    exact t_X1_addMaster_J54 (inb_lt g_1) C h
def Bk_addSaying (v1 : Int32) (v2 : Int32) (v3 : Int32) (v4 : Int32) (v5 : Int32) (s0 : St) : Option (Int32 × St) :=
  if inb (s0.1 3 0 7) 24 = true then if inb v1 8 = true then if inb ((sX (sX (sX (sX (sX s0 26 ((s0.1 3 0 7).toNatClampNeg) 0 v1) 26 ((s0.1 3 0 7).toNatClampNeg) 1 v2) 26 ((s0.1 3 0 7).toNatClampNeg) 2 v3) 26 ((s0.1 3 0 7).toNatClampNeg) 3 v4) 26 ((s0.1 3 0 7).toNatClampNeg) 4 v5).1 22 v1.toNatClampNeg 5) 9 = true then some (((sX (sX (sX (sX (sX (sX (sX (sX (sX s0 26 ((s0.1 3 0 7).toNatClampNeg) 0 v1) 26 ((s0.1 3 0 7).toNatClampNeg) 1 v2) 26 ((s0.1 3 0 7).toNatClampNeg) 2 v3) 26 ((s0.1 3 0 7).toNatClampNeg) 3 v4) 26 ((s0.1 3 0 7).toNatClampNeg) 4 v5) 23 v1.toNatClampNeg (((sX (sX (sX (sX (sX s0 26 ((s0.1 3 0 7).toNatClampNeg) 0 v1) 26 ((s0.1 3 0 7).toNatClampNeg) 1 v2) 26 ((s0.1 3 0 7).toNatClampNeg) 2 v3) 26 ((s0.1 3 0 7).toNatClampNeg) 3 v4) 26 ((s0.1 3 0 7).toNatClampNeg) 4 v5).1 22 v1.toNatClampNeg 5).toNatClampNeg) ((sX (sX (sX (sX (sX s0 26 ((s0.1 3 0 7).toNatClampNeg) 0 v1) 26 ((s0.1 3 0 7).toNatClampNeg) 1 v2) 26 ((s0.1 3 0 7).toNatClampNeg) 2 v3) 26 ((s0.1 3 0 7).toNatClampNeg) 3 v4) 26 ((s0.1 3 0 7).toNatClampNeg) 4 v5).1 3 0 7)) 22 v1.toNatClampNeg 5 (((sX (sX (sX (sX (sX (sX s0 26 ((s0.1 3 0 7).toNatClampNeg) 0 v1) 26 ((s0.1 3 0 7).toNatClampNeg) 1 v2) 26 ((s0.1 3 0 7).toNatClampNeg) 2 v3) 26 ((s0.1 3 0 7).toNatClampNeg) 3 v4) 26 ((s0.1 3 0 7).toNatClampNeg) 4 v5) 23 v1.toNatClampNeg (((sX (sX (sX (sX (sX s0 26 ((s0.1 3 0 7).toNatClampNeg) 0 v1) 26 ((s0.1 3 0 7).toNatClampNeg) 1 v2) 26 ((s0.1 3 0 7).toNatClampNeg) 2 v3) 26 ((s0.1 3 0 7).toNatClampNeg) 3 v4) 26 ((s0.1 3 0 7).toNatClampNeg) 4 v5).1 22 v1.toNatClampNeg 5).toNatClampNeg) ((sX (sX (sX (sX (sX s0 26 ((s0.1 3 0 7).toNatClampNeg) 0 v1) 26 ((s0.1 3 0 7).toNatClampNeg) 1 v2) 26 ((s0.1 3 0 7).toNatClampNeg) 2 v3) 26 ((s0.1 3 0 7).toNatClampNeg) 3 v4) 26 ((s0.1 3 0 7).toNatClampNeg) 4 v5).1 3 0 7)).1 22 v1.toNatClampNeg 5) + 1)) 24 v1.toNatClampNeg 0 0) 3 0 7 (((sX (sX (sX (sX (sX (sX (sX (sX s0 26 ((s0.1 3 0 7).toNatClampNeg) 0 v1) 26 ((s0.1 3 0 7).toNatClampNeg) 1 v2) 26 ((s0.1 3 0 7).toNatClampNeg) 2 v3) 26 ((s0.1 3 0 7).toNatClampNeg) 3 v4) 26 ((s0.1 3 0 7).toNatClampNeg) 4 v5) 23 v1.toNatClampNeg (((sX (sX (sX (sX (sX s0 26 ((s0.1 3 0 7).toNatClampNeg) 0 v1) 26 ((s0.1 3 0 7).toNatClampNeg) 1 v2) 26 ((s0.1 3 0 7).toNatClampNeg) 2 v3) 26 ((s0.1 3 0 7).toNatClampNeg) 3 v4) 26 ((s0.1 3 0 7).toNatClampNeg) 4 v5).1 22 v1.toNatClampNeg 5).toNatClampNeg) ((sX (sX (sX (sX (sX s0 26 ((s0.1 3 0 7).toNatClampNeg) 0 v1) 26 ((s0.1 3 0 7).toNatClampNeg) 1 v2) 26 ((s0.1 3 0 7).toNatClampNeg) 2 v3) 26 ((s0.1 3 0 7).toNatClampNeg) 3 v4) 26 ((s0.1 3 0 7).toNatClampNeg) 4 v5).1 3 0 7)) 22 v1.toNatClampNeg 5 (((sX (sX (sX (sX (sX (sX s0 26 ((s0.1 3 0 7).toNatClampNeg) 0 v1) 26 ((s0.1 3 0 7).toNatClampNeg) 1 v2) 26 ((s0.1 3 0 7).toNatClampNeg) 2 v3) 26 ((s0.1 3 0 7).toNatClampNeg) 3 v4) 26 ((s0.1 3 0 7).toNatClampNeg) 4 v5) 23 v1.toNatClampNeg (((sX (sX (sX (sX (sX s0 26 ((s0.1 3 0 7).toNatClampNeg) 0 v1) 26 ((s0.1 3 0 7).toNatClampNeg) 1 v2) 26 ((s0.1 3 0 7).toNatClampNeg) 2 v3) 26 ((s0.1 3 0 7).toNatClampNeg) 3 v4) 26 ((s0.1 3 0 7).toNatClampNeg) 4 v5).1 22 v1.toNatClampNeg 5).toNatClampNeg) ((sX (sX (sX (sX (sX s0 26 ((s0.1 3 0 7).toNatClampNeg) 0 v1) 26 ((s0.1 3 0 7).toNatClampNeg) 1 v2) 26 ((s0.1 3 0 7).toNatClampNeg) 2 v3) 26 ((s0.1 3 0 7).toNatClampNeg) 3 v4) 26 ((s0.1 3 0 7).toNatClampNeg) 4 v5).1 3 0 7)).1 22 v1.toNatClampNeg 5) + 1)) 24 v1.toNatClampNeg 0 0).1 3 0 7) + 1)).1 3 0 7) - 1, sX (sX (sX (sX (sX (sX (sX (sX (sX s0 26 ((s0.1 3 0 7).toNatClampNeg) 0 v1) 26 ((s0.1 3 0 7).toNatClampNeg) 1 v2) 26 ((s0.1 3 0 7).toNatClampNeg) 2 v3) 26 ((s0.1 3 0 7).toNatClampNeg) 3 v4) 26 ((s0.1 3 0 7).toNatClampNeg) 4 v5) 23 v1.toNatClampNeg (((sX (sX (sX (sX (sX s0 26 ((s0.1 3 0 7).toNatClampNeg) 0 v1) 26 ((s0.1 3 0 7).toNatClampNeg) 1 v2) 26 ((s0.1 3 0 7).toNatClampNeg) 2 v3) 26 ((s0.1 3 0 7).toNatClampNeg) 3 v4) 26 ((s0.1 3 0 7).toNatClampNeg) 4 v5).1 22 v1.toNatClampNeg 5).toNatClampNeg) ((sX (sX (sX (sX (sX s0 26 ((s0.1 3 0 7).toNatClampNeg) 0 v1) 26 ((s0.1 3 0 7).toNatClampNeg) 1 v2) 26 ((s0.1 3 0 7).toNatClampNeg) 2 v3) 26 ((s0.1 3 0 7).toNatClampNeg) 3 v4) 26 ((s0.1 3 0 7).toNatClampNeg) 4 v5).1 3 0 7)) 22 v1.toNatClampNeg 5 (((sX (sX (sX (sX (sX (sX s0 26 ((s0.1 3 0 7).toNatClampNeg) 0 v1) 26 ((s0.1 3 0 7).toNatClampNeg) 1 v2) 26 ((s0.1 3 0 7).toNatClampNeg) 2 v3) 26 ((s0.1 3 0 7).toNatClampNeg) 3 v4) 26 ((s0.1 3 0 7).toNatClampNeg) 4 v5) 23 v1.toNatClampNeg (((sX (sX (sX (sX (sX s0 26 ((s0.1 3 0 7).toNatClampNeg) 0 v1) 26 ((s0.1 3 0 7).toNatClampNeg) 1 v2) 26 ((s0.1 3 0 7).toNatClampNeg) 2 v3) 26 ((s0.1 3 0 7).toNatClampNeg) 3 v4) 26 ((s0.1 3 0 7).toNatClampNeg) 4 v5).1 22 v1.toNatClampNeg 5).toNatClampNeg) ((sX (sX (sX (sX (sX s0 26 ((s0.1 3 0 7).toNatClampNeg) 0 v1) 26 ((s0.1 3 0 7).toNatClampNeg) 1 v2) 26 ((s0.1 3 0 7).toNatClampNeg) 2 v3) 26 ((s0.1 3 0 7).toNatClampNeg) 3 v4) 26 ((s0.1 3 0 7).toNatClampNeg) 4 v5).1 3 0 7)).1 22 v1.toNatClampNeg 5) + 1)) 24 v1.toNatClampNeg 0 0) 3 0 7 (((sX (sX (sX (sX (sX (sX (sX (sX s0 26 ((s0.1 3 0 7).toNatClampNeg) 0 v1) 26 ((s0.1 3 0 7).toNatClampNeg) 1 v2) 26 ((s0.1 3 0 7).toNatClampNeg) 2 v3) 26 ((s0.1 3 0 7).toNatClampNeg) 3 v4) 26 ((s0.1 3 0 7).toNatClampNeg) 4 v5) 23 v1.toNatClampNeg (((sX (sX (sX (sX (sX s0 26 ((s0.1 3 0 7).toNatClampNeg) 0 v1) 26 ((s0.1 3 0 7).toNatClampNeg) 1 v2) 26 ((s0.1 3 0 7).toNatClampNeg) 2 v3) 26 ((s0.1 3 0 7).toNatClampNeg) 3 v4) 26 ((s0.1 3 0 7).toNatClampNeg) 4 v5).1 22 v1.toNatClampNeg 5).toNatClampNeg) ((sX (sX (sX (sX (sX s0 26 ((s0.1 3 0 7).toNatClampNeg) 0 v1) 26 ((s0.1 3 0 7).toNatClampNeg) 1 v2) 26 ((s0.1 3 0 7).toNatClampNeg) 2 v3) 26 ((s0.1 3 0 7).toNatClampNeg) 3 v4) 26 ((s0.1 3 0 7).toNatClampNeg) 4 v5).1 3 0 7)) 22 v1.toNatClampNeg 5 (((sX (sX (sX (sX (sX (sX s0 26 ((s0.1 3 0 7).toNatClampNeg) 0 v1) 26 ((s0.1 3 0 7).toNatClampNeg) 1 v2) 26 ((s0.1 3 0 7).toNatClampNeg) 2 v3) 26 ((s0.1 3 0 7).toNatClampNeg) 3 v4) 26 ((s0.1 3 0 7).toNatClampNeg) 4 v5) 23 v1.toNatClampNeg (((sX (sX (sX (sX (sX s0 26 ((s0.1 3 0 7).toNatClampNeg) 0 v1) 26 ((s0.1 3 0 7).toNatClampNeg) 1 v2) 26 ((s0.1 3 0 7).toNatClampNeg) 2 v3) 26 ((s0.1 3 0 7).toNatClampNeg) 3 v4) 26 ((s0.1 3 0 7).toNatClampNeg) 4 v5).1 22 v1.toNatClampNeg 5).toNatClampNeg) ((sX (sX (sX (sX (sX s0 26 ((s0.1 3 0 7).toNatClampNeg) 0 v1) 26 ((s0.1 3 0 7).toNatClampNeg) 1 v2) 26 ((s0.1 3 0 7).toNatClampNeg) 2 v3) 26 ((s0.1 3 0 7).toNatClampNeg) 3 v4) 26 ((s0.1 3 0 7).toNatClampNeg) 4 v5).1 3 0 7)).1 22 v1.toNatClampNeg 5) + 1)) 24 v1.toNatClampNeg 0 0).1 3 0 7) + 1)) else none else none else none
set_option maxHeartbeats 4000000 in
set_option maxRecDepth 100000 in
theorem m_X1_addSaying {l : Launch} {w : Wp} {v1 : Int32} {v2 : Int32} {v3 : Int32} {v4 : Int32} {v5 : Int32}  {s0 : St} {z : Int32 × St} (h : Bk_addSaying v1 v2 v3 v4 v5 s0 = some z) : Cm l yX1_addSaying (.code yX1_addSaying cX1_addSaying 8 (some .int)) 0 WC w [.ref (wa w 3 0), .int v1, .int v2, .int v3, .int v4, .int v5] s0 (some (.int z.1)) z.2 := by
  refine Cm.of (own := RX1) (by decide +kernel) rfl (Nat.le_of_ble_eq_true rfl) (L := [(0, .ref (wa w 3 0)), (1, .int v1), (2, .int v2), (3, .int v3), (4, .int v4), (5, .int v5)]) rfl KoC (fun x hl C => ?_)
  subst hl
  unfold Bk_addSaying at h
  refine r_aload_n C dX1_addSaying_0 rfl 0 rfl ?_
  refine gfX1_46 C dX1_addSaying_1 ?_
  refine r_aload_n C dX1_addSaying_4 rfl 0 rfl ?_
  refine gfX1_50 C dX1_addSaying_5 ?_
  obtain ⟨g_1, h⟩ := gdE h
  refine la_16 C g_1 dX1_addSaying_8 ?_
  refine r_astore C dX1_addSaying_9 (Nat.le_of_ble_eq_true rfl) (L' := [(6, _), (0, _), (1, _), (2, _), (3, _), (4, _), (5, _)]) rfl ?_
  refine r_aload C dX1_addSaying_11 0 rfl ?_
  refine r_iload_n C dX1_addSaying_13 rfl 2 rfl ?_
  refine pfX1_78 C (inb_lt g_1) dX1_addSaying_14 ?_
  refine r_aload C dX1_addSaying_17 0 rfl ?_
  refine r_iload_n C dX1_addSaying_19 rfl 3 rfl ?_
  refine pfX1_81 C (inb_lt g_1) dX1_addSaying_20 ?_
  refine r_aload C dX1_addSaying_23 0 rfl ?_
  refine r_iload_n C dX1_addSaying_25 rfl 4 rfl ?_
  refine pfX1_84 C (inb_lt g_1) dX1_addSaying_26 ?_
  refine r_aload C dX1_addSaying_29 0 rfl ?_
  refine r_iload C dX1_addSaying_31 5 rfl ?_
  refine pfX1_87 C (inb_lt g_1) dX1_addSaying_33 ?_
  refine r_aload C dX1_addSaying_36 0 rfl ?_
  refine r_iload C dX1_addSaying_38 6 rfl ?_
  refine pfX1_90 C (inb_lt g_1) dX1_addSaying_40 ?_
  refine r_aload_n C dX1_addSaying_43 rfl 1 rfl ?_
  refine gfX1_37 C dX1_addSaying_44 ?_
  refine r_iload_n C dX1_addSaying_47 rfl 2 rfl ?_
  obtain ⟨g_2, h⟩ := gdE h
  refine la_15 C g_2 dX1_addSaying_48 ?_
  refine r_astore C dX1_addSaying_49 (Nat.le_of_ble_eq_true rfl) (L' := [(7, _), (6, _), (0, _), (1, _), (2, _), (3, _), (4, _), (5, _)]) rfl ?_
  refine r_aload C dX1_addSaying_51 0 rfl ?_
  refine gfX1_93 C (inb_lt g_2) dX1_addSaying_53 ?_
  refine r_aload C dX1_addSaying_56 0 rfl ?_
  refine gfX1_69 C (inb_lt g_2) dX1_addSaying_58 ?_
  refine r_aload_n C dX1_addSaying_61 rfl 2 rfl ?_
  refine gfX1_50 C dX1_addSaying_62 ?_
  obtain ⟨g_3, h⟩ := gdE h
  refine stC_23 C (inb_lt g_2) g_3 dX1_addSaying_65 ?_
  refine r_aload C dX1_addSaying_66 0 rfl ?_
  refine r_dup C dX1_addSaying_68 rfl ?_
  refine gfX1_69 C (inb_lt g_2) dX1_addSaying_69 ?_
  refine r_iconst (v := 1) C dX1_addSaying_72 (by decide) ?_
  refine r_iadd C dX1_addSaying_73 ?_
  refine pfX1_69 C (inb_lt g_2) dX1_addSaying_74 ?_
  refine r_aload C dX1_addSaying_77 0 rfl ?_
  refine gfX1_96 C (inb_lt g_2) dX1_addSaying_79 ?_
  refine r_iconst (v := 0) C dX1_addSaying_82 (by decide) ?_
  refine pfX1_100 C (inb_lt g_2) (nb_01 (Or.inl rfl)) (fb_01 (Or.inl rfl)) dX1_addSaying_83 ?_
  refine r_aload_n C dX1_addSaying_86 rfl 2 rfl ?_
  refine r_dup C dX1_addSaying_87 rfl ?_
  refine gfX1_50 C dX1_addSaying_88 ?_
  refine r_iconst (v := 1) C dX1_addSaying_91 (by decide) ?_
  refine r_iadd C dX1_addSaying_92 ?_
  refine pfX1_50 C dX1_addSaying_93 ?_
  refine r_aload_n C dX1_addSaying_96 rfl 2 rfl ?_
  refine gfX1_50 C dX1_addSaying_97 ?_
  refine r_iconst (v := 1) C dX1_addSaying_100 (by decide) ?_
  refine r_isub C dX1_addSaying_101 ?_
  cases h
  exact r_iret C dX1_addSaying_102
def Bk_reprice_L27   : Nat → Int32 → St → Option (St)
  | 0, _, _ => none
  | n + 1, v4_1, s_2 => if (s_2.1 3 0 5) ≤ v4_1 then (some s_2) else (if inb v4_1 8 = true then (Bk_reprice_L27 n) (v4_1 + 1) (sX s_2 24 v4_1.toNatClampNeg 0 0) else none)
def Bk_reprice (v1 : Int32) (v2 : Int32) (v3 : Int32) (s0 : St) : Option (St) :=
  Bk_reprice_L27 1100 0 (sX (sX (sX s0 10 0 0 v1) 10 0 1 v2) 10 0 2 v3)
set_option maxHeartbeats 4000000 in
set_option maxRecDepth 100000 in
theorem t_X1_reprice_L27 {x : Ctx} {w : Wp}  {z : St}    (C : Cx x WC w cX1_reprice 5 RX1 0 none) : ∀ (n : Nat) (v4_1 : Int32) (s_2 : St), Bk_reprice_L27 n v4_1 s_2 = some z → V x WC w 5 (QM x WC w none z) s_2 27 [(0, .ref (wa w 3 0)), (4, .int v4_1)] [] := by
  intro n
  induction n with
  | zero => intro v4_1 s_2 h; cases h
  | succ n ih =>
    intro v4_1 s_2 h
    unfold Bk_reprice_L27 at h
    refine r_iload C dX1_reprice_27 1 rfl ?_
    refine r_aload_n C dX1_reprice_29 rfl 0 rfl ?_
    refine gfX1_41 C dX1_reprice_30 ?_
    refine r_icmp_ge (tgt := 56) C dX1_reprice_33 (by decide) (fun c_3 => ?_) (fun c_3 => ?_)
    · have h := ip h c_3
      cases h
      exact r_vret C dX1_reprice_56
    · have h := iq h c_3
      refine r_aload_n C dX1_reprice_36 rfl 0 rfl ?_
      refine gfX1_37 C dX1_reprice_37 ?_
      refine r_iload C dX1_reprice_40 1 rfl ?_
      obtain ⟨g_4, h⟩ := gdE h
      refine la_15 C g_4 dX1_reprice_42 ?_
      refine gfX1_96 C (inb_lt g_4) dX1_reprice_43 ?_
      refine r_iconst (v := 0) C dX1_reprice_46 (by decide) ?_
      refine pfX1_100 C (inb_lt g_4) (nb_01 (Or.inl rfl)) (fb_01 (Or.inl rfl)) dX1_reprice_47 ?_
      refine r_iinc (v := v4_1 + 1) C dX1_reprice_50 (j := 1) rfl rfl (Nat.le_of_ble_eq_true rfl) (L' := [(4, _), (0, _)]) rfl ?_
      refine r_goto (tgt := 27) C dX1_reprice_53 (by decide) ?_
      refine r_sub [1, 0] rfl ?_
      exact ih _ _ h
set_option maxHeartbeats 4000000 in
set_option maxRecDepth 100000 in
theorem m_X1_reprice {l : Launch} {w : Wp} {v1 : Int32} {v2 : Int32} {v3 : Int32}  {s0 : St} {z : St} (h : Bk_reprice v1 v2 v3 s0 = some z) : Cm l yX1_reprice (.code yX1_reprice cX1_reprice 5 none) 0 WC w [.ref (wa w 3 0), .int v1, .int v2, .int v3] s0 none z := by
  refine Cm.of (own := RX1) (by decide +kernel) rfl (Nat.le_of_ble_eq_true rfl) (L := [(0, .ref (wa w 3 0)), (1, .int v1), (2, .int v2), (3, .int v3)]) rfl KoC (fun x hl C => ?_)
  subst hl
  unfold Bk_reprice at h
  refine r_aload_n C dX1_reprice_0 rfl 0 rfl ?_
  refine gfX1_23 C dX1_reprice_1 ?_
  refine r_iload_n C dX1_reprice_4 rfl 1 rfl ?_
  refine pfX1_106 C dX1_reprice_5 ?_
  refine r_aload_n C dX1_reprice_8 rfl 0 rfl ?_
  refine gfX1_23 C dX1_reprice_9 ?_
  refine r_iload_n C dX1_reprice_12 rfl 2 rfl ?_
  refine pfX1_109 C dX1_reprice_13 ?_
  refine r_aload_n C dX1_reprice_16 rfl 0 rfl ?_
  refine gfX1_23 C dX1_reprice_17 ?_
  refine r_iload_n C dX1_reprice_20 rfl 3 rfl ?_
  refine pfX1_112 C dX1_reprice_21 ?_
  refine r_iconst (v := 0) C dX1_reprice_24 (by decide) ?_
  refine r_istore C dX1_reprice_25 (Nat.le_of_ble_eq_true rfl) (L' := [(4, _), (0, _), (1, _), (2, _), (3, _)]) rfl ?_
  refine r_sub [1, 0] rfl ?_
  exact t_X1_reprice_L27 C _ _ _ h
def Bk_pupils_J32 (B4 : Int32 → Int32 → Option (Int32)) (v1_7 : Int32) (v2_8 : Int32) (v3_9 : Int32)  (s0 : St) : Option (Int32) :=
  B4 v2_8 (v3_9 + 1)
def Bk_pupils_L4  (v1_1 : Int32) (s0 : St) : Nat → Int32 → Int32 → Option (Int32)
  | 0, _, _ => none
  | n + 1, v2_2, v3_3 => if (s0.1 3 0 5) ≤ v3_3 then (some v2_2) else (if inb v3_3 8 = true then if ((ush (s0.1 22 v3_3.toNatClampNeg 3) v1_1) &&& 1) = 1 then (Bk_pupils_J32 (Bk_pupils_L4 v1_1 s0 n) v1_1 (v2_2 + 1) v3_3 s0) else (Bk_pupils_J32 (Bk_pupils_L4 v1_1 s0 n) v1_1 v2_2 v3_3 s0) else none)
def Bk_pupils (v1 : Int32) (s0 : St) : Option (Int32) :=
  Bk_pupils_L4 v1 s0 1100 0 0
set_option maxHeartbeats 4000000 in
set_option maxRecDepth 100000 in
theorem t_X1_pupils_J32 {x : Ctx} {w : Wp} {v1_7 : Int32} {v2_8 : Int32} {v3_9 : Int32}  {s0 : St} {z : Int32}  {B4 : Int32 → Int32 → Option (Int32)} (hB4 : ∀ (u2_10 : Int32) (u3_11 : Int32), B4 u2_10 u3_11 = some z → V x WC w 4 (QM x WC w (some (.int z)) s0) s0 4 [(0, .ref (wa w 3 0)), (1, .int v1_7), (2, .int u2_10), (3, .int u3_11)] []) (C : Cx x WC w cX1_pupils 4 RX1 0 (some .int)) (h : Bk_pupils_J32 B4 v1_7 v2_8 v3_9 s0 = some z) : V x WC w 4 (QM x WC w (some (.int z)) s0) s0 32 [(0, .ref (wa w 3 0)), (1, .int v1_7), (2, .int v2_8), (3, .int v3_9)] [] := by
  unfold Bk_pupils_J32 at h
  refine r_iinc (v := v3_9 + 1) C dX1_pupils_32 (j := 3) rfl rfl (Nat.le_of_ble_eq_true rfl) (L' := [(3, _), (0, _), (1, _), (2, _)]) rfl ?_
  refine r_goto (tgt := 4) C dX1_pupils_35 (by decide) ?_
  refine r_sub [1, 2, 3, 0] rfl ?_
  exact hB4 _ _ h
set_option maxHeartbeats 4000000 in
set_option maxRecDepth 100000 in
theorem t_X1_pupils_L4 {x : Ctx} {w : Wp} {v1_1 : Int32} {s0 : St} {z : Int32}    (C : Cx x WC w cX1_pupils 4 RX1 0 (some .int)) : ∀ (n : Nat) (v2_2 : Int32) (v3_3 : Int32), Bk_pupils_L4 v1_1 s0 n v2_2 v3_3 = some z → V x WC w 4 (QM x WC w (some (.int z)) s0) s0 4 [(0, .ref (wa w 3 0)), (1, .int v1_1), (2, .int v2_2), (3, .int v3_3)] [] := by
  intro n
  induction n with
  | zero => intro v2_2 v3_3 h; cases h
  | succ n ih =>
    intro v2_2 v3_3 h
    unfold Bk_pupils_L4 at h
    refine r_iload_n C dX1_pupils_4 rfl 3 rfl ?_
    refine r_aload_n C dX1_pupils_5 rfl 0 rfl ?_
    refine gfX1_41 C dX1_pupils_6 ?_
    refine r_icmp_ge (tgt := 38) C dX1_pupils_9 (by decide) (fun c_4 => ?_) (fun c_4 => ?_)
    · have h := ip h c_4
      refine r_iload_n C dX1_pupils_38 rfl 2 rfl ?_
      cases h
      exact r_iret C dX1_pupils_39
    · have h := iq h c_4
      refine r_aload_n C dX1_pupils_12 rfl 0 rfl ?_
      refine gfX1_37 C dX1_pupils_13 ?_
      refine r_iload_n C dX1_pupils_16 rfl 3 rfl ?_
      obtain ⟨g_5, h⟩ := gdE h
      refine la_15 C g_5 dX1_pupils_17 ?_
      refine gfX1_75 C (inb_lt g_5) dX1_pupils_18 ?_
      refine r_iload_n C dX1_pupils_21 rfl 1 rfl ?_
      refine r_iushr (v := ush (s0.1 22 v3_3.toNatClampNeg 3) v1_1) C dX1_pupils_22 rfl ?_
      refine r_iconst (v := 1) C dX1_pupils_23 (by decide) ?_
      refine r_iand C dX1_pupils_24 ?_
      refine r_iconst (v := 1) C dX1_pupils_25 (by decide) ?_
      refine r_icmp_ne (tgt := 32) C dX1_pupils_26 (by decide) (fun c_6 => ?_) (fun c_6 => ?_)
      · have h := iq h c_6
        refine r_sub [0, 1, 2, 3] rfl ?_
        exact t_X1_pupils_J32 ih C h
      · have h := ip h c_6
        refine r_iinc (v := v2_2 + 1) C dX1_pupils_29 (j := 2) rfl rfl (Nat.le_of_ble_eq_true rfl) (L' := [(2, _), (0, _), (1, _), (3, _)]) rfl ?_
        refine r_sub [1, 2, 0, 3] rfl ?_
        exact t_X1_pupils_J32 ih C h
set_option maxHeartbeats 4000000 in
set_option maxRecDepth 100000 in
theorem m_X1_pupils {l : Launch} {w : Wp} {v1 : Int32}  {s0 : St} {z : Int32} (h : Bk_pupils v1 s0 = some z) : Cm l yX1_pupils (.code yX1_pupils cX1_pupils 4 (some .int)) 0 WC w [.ref (wa w 3 0), .int v1] s0 (some (.int z)) s0 := by
  refine Cm.of (own := RX1) (by decide +kernel) rfl (Nat.le_of_ble_eq_true rfl) (L := [(0, .ref (wa w 3 0)), (1, .int v1)]) rfl KoC (fun x hl C => ?_)
  subst hl
  unfold Bk_pupils at h
  refine r_iconst (v := 0) C dX1_pupils_0 (by decide) ?_
  refine r_istore_n C dX1_pupils_1 rfl (Nat.le_of_ble_eq_true rfl) (L' := [(2, _), (0, _), (1, _)]) rfl ?_
  refine r_iconst (v := 0) C dX1_pupils_2 (by decide) ?_
  refine r_istore_n C dX1_pupils_3 rfl (Nat.le_of_ble_eq_true rfl) (L' := [(3, _), (2, _), (0, _), (1, _)]) rfl ?_
  refine r_sub [2, 3, 1, 0] rfl ?_
  exact t_X1_pupils_L4 C _ _ _ h
def Bk_lifeFigure (v1 : Int32) (v2 : Int32) (s0 : St) : Option (Int32) :=
  if inb v1 8 = true then if v2 = 0 then (some (s0.1 22 v1.toNatClampNeg 0)) else (if v2 = 1 then (some (s0.1 22 v1.toNatClampNeg 1)) else (if v2 = 2 then (some (s0.1 22 v1.toNatClampNeg 2)) else (if v2 = 3 then (some (s0.1 22 v1.toNatClampNeg 5)) else (Option.bind (Bk_pupils v1 s0) (fun r_6 => some r_6))))) else none
set_option maxHeartbeats 4000000 in
set_option maxRecDepth 100000 in
theorem m_X1_lifeFigure {l : Launch} {w : Wp} {v1 : Int32} {v2 : Int32}  {s0 : St} {z : Int32} (h : Bk_lifeFigure v1 v2 s0 = some z) : Cm l yX1_lifeFigure (.code yX1_lifeFigure cX1_lifeFigure 4 (some .int)) 1 WC w [.ref (wa w 3 0), .int v1, .int v2] s0 (some (.int z)) s0 := by
  refine Cm.of (own := RX1) (by decide +kernel) rfl (Nat.le_of_ble_eq_true rfl) (L := [(0, .ref (wa w 3 0)), (1, .int v1), (2, .int v2)]) rfl KoC (fun x hl C => ?_)
  subst hl
  unfold Bk_lifeFigure at h
  refine r_aload_n C dX1_lifeFigure_0 rfl 0 rfl ?_
  refine gfX1_37 C dX1_lifeFigure_1 ?_
  refine r_iload_n C dX1_lifeFigure_4 rfl 1 rfl ?_
  obtain ⟨g_1, h⟩ := gdE h
  refine la_15 C g_1 dX1_lifeFigure_5 ?_
  refine r_astore_n C dX1_lifeFigure_6 rfl (Nat.le_of_ble_eq_true rfl) (L' := [(3, _), (0, _), (1, _), (2, _)]) rfl ?_
  refine r_iload_n C dX1_lifeFigure_7 rfl 3 rfl ?_
  by_cases c_2 : v2 = 0
  · have h := ip h c_2
    refine r_tabIn (tgt := 40) C dX1_lifeFigure_8 c_2 (by decide) (by decide) rfl (by decide) ?_
    refine r_aload_n C dX1_lifeFigure_40 rfl 0 rfl ?_
    refine gfX1_63 C (inb_lt g_1) dX1_lifeFigure_41 ?_
    cases h
    exact r_iret C dX1_lifeFigure_44
  have h := iq h c_2
  by_cases c_3 : v2 = 1
  · have h := ip h c_3
    refine r_tabIn (tgt := 45) C dX1_lifeFigure_8 c_3 (by decide) (by decide) rfl (by decide) ?_
    refine r_aload_n C dX1_lifeFigure_45 rfl 0 rfl ?_
    refine gfX1_66 C (inb_lt g_1) dX1_lifeFigure_46 ?_
    cases h
    exact r_iret C dX1_lifeFigure_49
  have h := iq h c_3
  by_cases c_4 : v2 = 2
  · have h := ip h c_4
    refine r_tabIn (tgt := 50) C dX1_lifeFigure_8 c_4 (by decide) (by decide) rfl (by decide) ?_
    refine r_aload_n C dX1_lifeFigure_50 rfl 0 rfl ?_
    refine gfX1_72 C (inb_lt g_1) dX1_lifeFigure_51 ?_
    cases h
    exact r_iret C dX1_lifeFigure_54
  have h := iq h c_4
  by_cases c_5 : v2 = 3
  · have h := ip h c_5
    refine r_tabIn (tgt := 55) C dX1_lifeFigure_8 c_5 (by decide) (by decide) rfl (by decide) ?_
    refine r_aload_n C dX1_lifeFigure_55 rfl 0 rfl ?_
    refine gfX1_69 C (inb_lt g_1) dX1_lifeFigure_56 ?_
    cases h
    exact r_iret C dX1_lifeFigure_59
  have h := iq h c_5
  refine r_tabOut (tgt := 60) C dX1_lifeFigure_8 (by have q0 := tq_ne (k := 0) (by decide) c_2; have q1 := tq_ne (k := 1) (by decide) c_3; have q2 := tq_ne (k := 2) (by decide) c_4; have q3 := tq_ne (k := 3) (by decide) c_5; omega) (by decide) ?_
  refine r_aload_n C dX1_lifeFigure_60 rfl 1 rfl ?_
  refine r_iload_n C dX1_lifeFigure_61 rfl 2 rfl ?_
  obtain ⟨r_6, er_6, h⟩ := bdE h
  refine kX1_115 C (m_X1_pupils er_6) (by decide) (Nat.le_of_ble_eq_true rfl) dX1_lifeFigure_62 ?_
  cases h
  exact r_iret C dX1_lifeFigure_65
def Bk_caseTraits (v1 : Int32) (s0 : St) : Option (Int32) :=
  if inb v1 24 = true then if inb (s0.1 26 v1.toNatClampNeg 1) 12 = true then some (s0.1 14 0 ((s0.1 26 v1.toNatClampNeg 1).toNatClampNeg)) else none else none
set_option maxHeartbeats 4000000 in
set_option maxRecDepth 100000 in
theorem m_X1_caseTraits {l : Launch} {w : Wp} {v1 : Int32}  {s0 : St} {z : Int32} (h : Bk_caseTraits v1 s0 = some z) : Cm l yX1_caseTraits (.code yX1_caseTraits cX1_caseTraits 2 (some .int)) 0 WC w [.ref (wa w 3 0), .int v1] s0 (some (.int z)) s0 := by
  refine Cm.of (own := RX1) (by decide +kernel) rfl (Nat.le_of_ble_eq_true rfl) (L := [(0, .ref (wa w 3 0)), (1, .int v1)]) rfl KoC (fun x hl C => ?_)
  subst hl
  unfold Bk_caseTraits at h
  refine r_aload_n C dX1_caseTraits_0 rfl 0 rfl ?_
  refine gfX1_27 C dX1_caseTraits_1 ?_
  refine r_aload_n C dX1_caseTraits_4 rfl 0 rfl ?_
  refine gfX1_46 C dX1_caseTraits_5 ?_
  refine r_iload_n C dX1_caseTraits_8 rfl 1 rfl ?_
  obtain ⟨g_1, h⟩ := gdE h
  refine la_16 C g_1 dX1_caseTraits_9 ?_
  refine gfX1_81 C (inb_lt g_1) dX1_caseTraits_10 ?_
  obtain ⟨g_2, h⟩ := gdE h
  refine ldC_14 C g_2 dX1_caseTraits_13 ?_
  cases h
  exact r_iret C dX1_caseTraits_14
def Bk_strainOf (v1 : Int32) (v2 : Int32) (s0 : St) : Option (Int32) :=
  if inb v1 24 = true then Option.bind (Bk_caseTraits v1 s0) (fun r_2 => Option.bind (Ru_strain v2 r_2 (s0.1 26 v1.toNatClampNeg 3) (s0.1 26 v1.toNatClampNeg 4) s0) (fun r_3 => some r_3)) else none
set_option maxHeartbeats 4000000 in
set_option maxRecDepth 100000 in
theorem m_X1_strainOf {l : Launch} {w : Wp} {v1 : Int32} {v2 : Int32}  {s0 : St} {z : Int32} (h : Bk_strainOf v1 v2 s0 = some z) : Cm l yX1_strainOf (.code yX1_strainOf cX1_strainOf 4 (some .int)) 2 WC w [.ref (wa w 3 0), .int v1, .int v2] s0 (some (.int z)) s0 := by
  refine Cm.of (own := RX1) (by decide +kernel) rfl (Nat.le_of_ble_eq_true rfl) (L := [(0, .ref (wa w 3 0)), (1, .int v1), (2, .int v2)]) rfl KoC (fun x hl C => ?_)
  subst hl
  unfold Bk_strainOf at h
  refine r_aload_n C dX1_strainOf_0 rfl 0 rfl ?_
  refine gfX1_46 C dX1_strainOf_1 ?_
  refine r_iload_n C dX1_strainOf_4 rfl 1 rfl ?_
  obtain ⟨g_1, h⟩ := gdE h
  refine la_16 C g_1 dX1_strainOf_5 ?_
  refine r_astore_n C dX1_strainOf_6 rfl (Nat.le_of_ble_eq_true rfl) (L' := [(3, _), (0, _), (1, _), (2, _)]) rfl ?_
  refine r_aload_n C dX1_strainOf_7 rfl 1 rfl ?_
  refine gfX1_12 C dX1_strainOf_8 ?_
  refine r_iload_n C dX1_strainOf_11 rfl 3 rfl ?_
  refine r_aload_n C dX1_strainOf_12 rfl 1 rfl ?_
  refine r_iload_n C dX1_strainOf_13 rfl 2 rfl ?_
  obtain ⟨r_2, er_2, h⟩ := bdE h
  refine kX1_119 C (m_X1_caseTraits er_2) (by decide) (Nat.le_of_ble_eq_true rfl) dX1_strainOf_14 ?_
  refine r_aload_n C dX1_strainOf_17 rfl 0 rfl ?_
  refine gfX1_87 C (inb_lt g_1) dX1_strainOf_18 ?_
  refine r_aload_n C dX1_strainOf_21 rfl 0 rfl ?_
  refine gfX1_90 C (inb_lt g_1) dX1_strainOf_22 ?_
  obtain ⟨r_3, er_3, h⟩ := bdE h
  refine kX1_122 C (m_X8_strain er_3) (by decide) (Nat.le_of_ble_eq_true rfl) dX1_strainOf_25 ?_
  cases h
  exact r_iret C dX1_strainOf_28
def Mi_learn_J116 (B41 : Int32 → St → Option (St)) (n0_10 : Nat) (v3_11 : Int32)  (s_12 : St) : Option (St) :=
  B41 (v3_11 + 1) s_12
def Mi_learn_L41 (K122 : St → Option (St)) (n0_1 : Nat) : Nat → Int32 → St → Option (St)
  | 0, _, _ => none
  | n + 1, v3_2, s_3 => if 244 ≤ v3_2 then (K122 s_3) else (if inb v3_2 244 = true then if (s_3.1 11 0 v3_2.toNatClampNeg) = (s_3.1 10 0 4) then (if inb (s_3.1 24 n0_1 5) 244 = true then if inb v3_2 244 = true then if inb v3_2 244 = true then Mi_learn_J116 (Mi_learn_L41 K122 n0_1 n) n0_1 v3_2 (sX (sX (sX (sX s_3 25 n0_1 ((s_3.1 24 n0_1 5).toNatClampNeg) v3_2) 24 n0_1 5 (((sX s_3 25 n0_1 ((s_3.1 24 n0_1 5).toNatClampNeg) v3_2).1 24 n0_1 5) + 1)) 24 n0_1 6 (((sX (sX s_3 25 n0_1 ((s_3.1 24 n0_1 5).toNatClampNeg) v3_2) 24 n0_1 5 (((sX s_3 25 n0_1 ((s_3.1 24 n0_1 5).toNatClampNeg) v3_2).1 24 n0_1 5) + 1)).1 24 n0_1 6) ||| ((sX (sX s_3 25 n0_1 ((s_3.1 24 n0_1 5).toNatClampNeg) v3_2) 24 n0_1 5 (((sX s_3 25 n0_1 ((s_3.1 24 n0_1 5).toNatClampNeg) v3_2).1 24 n0_1 5) + 1)).1 8 0 v3_2.toNatClampNeg))) 24 n0_1 7 (((sX (sX (sX s_3 25 n0_1 ((s_3.1 24 n0_1 5).toNatClampNeg) v3_2) 24 n0_1 5 (((sX s_3 25 n0_1 ((s_3.1 24 n0_1 5).toNatClampNeg) v3_2).1 24 n0_1 5) + 1)) 24 n0_1 6 (((sX (sX s_3 25 n0_1 ((s_3.1 24 n0_1 5).toNatClampNeg) v3_2) 24 n0_1 5 (((sX s_3 25 n0_1 ((s_3.1 24 n0_1 5).toNatClampNeg) v3_2).1 24 n0_1 5) + 1)).1 24 n0_1 6) ||| ((sX (sX s_3 25 n0_1 ((s_3.1 24 n0_1 5).toNatClampNeg) v3_2) 24 n0_1 5 (((sX s_3 25 n0_1 ((s_3.1 24 n0_1 5).toNatClampNeg) v3_2).1 24 n0_1 5) + 1)).1 8 0 v3_2.toNatClampNeg))).1 24 n0_1 7) ||| (((sX (sX (sX s_3 25 n0_1 ((s_3.1 24 n0_1 5).toNatClampNeg) v3_2) 24 n0_1 5 (((sX s_3 25 n0_1 ((s_3.1 24 n0_1 5).toNatClampNeg) v3_2).1 24 n0_1 5) + 1)) 24 n0_1 6 (((sX (sX s_3 25 n0_1 ((s_3.1 24 n0_1 5).toNatClampNeg) v3_2) 24 n0_1 5 (((sX s_3 25 n0_1 ((s_3.1 24 n0_1 5).toNatClampNeg) v3_2).1 24 n0_1 5) + 1)).1 24 n0_1 6) ||| ((sX (sX s_3 25 n0_1 ((s_3.1 24 n0_1 5).toNatClampNeg) v3_2) 24 n0_1 5 (((sX s_3 25 n0_1 ((s_3.1 24 n0_1 5).toNatClampNeg) v3_2).1 24 n0_1 5) + 1)).1 8 0 v3_2.toNatClampNeg))).1 8 0 v3_2.toNatClampNeg) ^^^ (-1)))) else none else none else none) else (Mi_learn_J116 (Mi_learn_L41 K122 n0_1 n) n0_1 v3_2 s_3) else none)
def Mi_learn (n : Nat) (s0 : St) : Option (St) :=
  Mi_learn_L41 (fun (s_16 : St) => some (sX s_16 24 n 0 1)) n 1100 0 (sX (sX (sX (sX (sX (sX s0 24 n 1 (s0.1 10 0 5)) 24 n 2 ((sX s0 24 n 1 (s0.1 10 0 5)).1 10 0 6)) 24 n 3 ((sX (sX s0 24 n 1 (s0.1 10 0 5)) 24 n 2 ((sX s0 24 n 1 (s0.1 10 0 5)).1 10 0 6)).1 10 0 7)) 24 n 5 0) 24 n 6 0) 24 n 7 0)
set_option maxHeartbeats 4000000 in
set_option maxRecDepth 100000 in
theorem t_X4_learn_J116 {x : Ctx} {w : Wp} {n0_10 : Nat} {v3_11 : Int32}  {s_12 : St} {z : St} (hn0_10 : n0_10 < 8) {B41 : Int32 → St → Option (St)} (hB41 : ∀ (u3_13 : Int32) (s_14 : St), B41 u3_13 s_14 = some z → V x WC w 4 (QM x WC w none z) s_14 41 [(0, .ref (wa w 24 n0_10)), (1, .ref (wa w 10 0)), (2, .ref (wa w 7 0)), (3, .int u3_13)] []) (C : Cx x WC w cX4_learn 4 RX4 0 none) (h : Mi_learn_J116 B41 n0_10 v3_11 s_12 = some z) : V x WC w 4 (QM x WC w none z) s_12 116 [(0, .ref (wa w 24 n0_10)), (1, .ref (wa w 10 0)), (2, .ref (wa w 7 0)), (3, .int v3_11)] [] := by
  unfold Mi_learn_J116 at h
  refine r_iinc (v := v3_11 + 1) C dX4_learn_116 (j := 3) rfl rfl (Nat.le_of_ble_eq_true rfl) (L' := [(3, _), (0, _), (1, _), (2, _)]) rfl ?_
  refine r_goto (tgt := 41) C dX4_learn_119 (by decide) ?_
  refine r_sub [1, 2, 3, 0] rfl ?_
  exact hB41 _ _ h
set_option maxHeartbeats 4000000 in
set_option maxRecDepth 100000 in
theorem t_X4_learn_L41 {x : Ctx} {w : Wp} {n0_1 : Nat} {z : St} (hn0_1 : n0_1 < 8) {K122 : St → Option (St)} (hK122 : ∀ (s_15 : St), K122 s_15 = some z → V x WC w 4 (QM x WC w none z) s_15 122 [(0, .ref (wa w 24 n0_1))] []) (C : Cx x WC w cX4_learn 4 RX4 0 none) : ∀ (n : Nat) (v3_2 : Int32) (s_3 : St), Mi_learn_L41 K122 n0_1 n v3_2 s_3 = some z → V x WC w 4 (QM x WC w none z) s_3 41 [(0, .ref (wa w 24 n0_1)), (1, .ref (wa w 10 0)), (2, .ref (wa w 7 0)), (3, .int v3_2)] [] := by
  intro n
  induction n with
  | zero => intro v3_2 s_3 h; cases h
  | succ n ih =>
    intro v3_2 s_3 h
    unfold Mi_learn_L41 at h
    refine r_iload_n C dX4_learn_41 rfl 3 rfl ?_
    refine r_sipush (v := 244) C dX4_learn_42 (by decide) ?_
    refine r_icmp_ge (tgt := 122) C dX4_learn_45 (by decide) (fun c_4 => ?_) (fun c_4 => ?_)
    · have h := ip h c_4
      refine r_sub [0] rfl ?_
      exact hK122 _ h
    · have h := iq h c_4
      refine r_aload_n C dX4_learn_48 rfl 1 rfl ?_
      refine gfX4_43 C dX4_learn_49 ?_
      refine r_iload_n C dX4_learn_52 rfl 3 rfl ?_
      obtain ⟨g_5, h⟩ := gdE h
      refine ldC_11 C g_5 dX4_learn_53 ?_
      refine r_aload_n C dX4_learn_54 rfl 1 rfl ?_
      refine gfX4_46 C dX4_learn_55 ?_
      refine r_icmp_eq (tgt := 64) C dX4_learn_58 (by decide) (fun c_6 => ?_) (fun c_6 => ?_)
      · have h := ip h c_6
        refine r_aload_n C dX4_learn_64 rfl 0 rfl ?_
        refine gfX4_25 C hn0_1 dX4_learn_65 ?_
        refine r_aload_n C dX4_learn_68 rfl 0 rfl ?_
        refine gfX4_29 C hn0_1 dX4_learn_69 ?_
        refine r_iload_n C dX4_learn_72 rfl 3 rfl ?_
        obtain ⟨g_7, h⟩ := gdE h
        refine stC_25 C hn0_1 g_7 dX4_learn_73 ?_
        refine r_aload_n C dX4_learn_74 rfl 0 rfl ?_
        refine r_dup C dX4_learn_75 rfl ?_
        refine gfX4_29 C hn0_1 dX4_learn_76 ?_
        refine r_iconst (v := 1) C dX4_learn_79 (by decide) ?_
        refine r_iadd C dX4_learn_80 ?_
        refine pfX4_29 C hn0_1 dX4_learn_81 ?_
        refine r_aload_n C dX4_learn_84 rfl 0 rfl ?_
        refine r_dup C dX4_learn_85 rfl ?_
        refine gfX4_32 C hn0_1 dX4_learn_86 ?_
        refine r_aload_n C dX4_learn_89 rfl 2 rfl ?_
        refine gfX4_49 C dX4_learn_90 ?_
        refine r_iload_n C dX4_learn_93 rfl 3 rfl ?_
        obtain ⟨g_8, h⟩ := gdE h
        refine ldC_8 C g_8 dX4_learn_94 ?_
        refine r_ior C dX4_learn_95 ?_
        refine pfX4_32 C hn0_1 dX4_learn_96 ?_
        refine r_aload_n C dX4_learn_99 rfl 0 rfl ?_
        refine r_dup C dX4_learn_100 rfl ?_
        refine gfX4_35 C hn0_1 dX4_learn_101 ?_
        refine r_aload_n C dX4_learn_104 rfl 2 rfl ?_
        refine gfX4_49 C dX4_learn_105 ?_
        refine r_iload_n C dX4_learn_108 rfl 3 rfl ?_
        obtain ⟨g_9, h⟩ := gdE h
        refine ldC_8 C g_9 dX4_learn_109 ?_
        refine r_iconst (v := (-1)) C dX4_learn_110 (by decide) ?_
        refine r_ixor C dX4_learn_111 ?_
        refine r_ior C dX4_learn_112 ?_
        refine pfX4_35 C hn0_1 dX4_learn_113 ?_
        refine r_sub [0, 1, 2, 3] rfl ?_
        exact t_X4_learn_J116 hn0_1 ih C h
      · have h := iq h c_6
        refine r_goto (tgt := 116) C dX4_learn_61 (by decide) ?_
        refine r_sub [0, 1, 2, 3] rfl ?_
        exact t_X4_learn_J116 hn0_1 ih C h
set_option maxHeartbeats 4000000 in
set_option maxRecDepth 100000 in
theorem m_X4_learn {l : Launch} {w : Wp} {n : Nat} (hn : n < 8) {s0 : St} {z : St} (h : Mi_learn n s0 = some z) : Cm l yX4_learn (.code yX4_learn cX4_learn 4 none) 0 WC w [.ref (wa w 24 n), .ref (wa w 10 0), .ref (wa w 7 0)] s0 none z := by
  refine Cm.of (own := RX4) (by decide +kernel) rfl (Nat.le_of_ble_eq_true rfl) (L := [(0, .ref (wa w 24 n)), (1, .ref (wa w 10 0)), (2, .ref (wa w 7 0))]) rfl KoC (fun x hl C => ?_)
  subst hl
  unfold Mi_learn at h
  refine r_aload_n C dX4_learn_0 rfl 0 rfl ?_
  refine r_aload_n C dX4_learn_1 rfl 1 rfl ?_
  refine gfX4_38 C dX4_learn_2 ?_
  refine pfX4_15 C hn dX4_learn_5 ?_
  refine r_aload_n C dX4_learn_8 rfl 0 rfl ?_
  refine r_aload_n C dX4_learn_9 rfl 1 rfl ?_
  refine gfX4_41 C dX4_learn_10 ?_
  refine pfX4_19 C hn dX4_learn_13 ?_
  refine r_aload_n C dX4_learn_16 rfl 0 rfl ?_
  refine r_aload_n C dX4_learn_17 rfl 1 rfl ?_
  refine gfX4_42 C dX4_learn_18 ?_
  refine pfX4_22 C hn dX4_learn_21 ?_
  refine r_aload_n C dX4_learn_24 rfl 0 rfl ?_
  refine r_iconst (v := 0) C dX4_learn_25 (by decide) ?_
  refine pfX4_29 C hn dX4_learn_26 ?_
  refine r_aload_n C dX4_learn_29 rfl 0 rfl ?_
  refine r_iconst (v := 0) C dX4_learn_30 (by decide) ?_
  refine pfX4_32 C hn dX4_learn_31 ?_
  refine r_aload_n C dX4_learn_34 rfl 0 rfl ?_
  refine r_iconst (v := 0) C dX4_learn_35 (by decide) ?_
  refine pfX4_35 C hn dX4_learn_36 ?_
  refine r_iconst (v := 0) C dX4_learn_39 (by decide) ?_
  refine r_istore_n C dX4_learn_40 rfl (Nat.le_of_ble_eq_true rfl) (L' := [(3, _), (0, _), (1, _), (2, _)]) rfl ?_
  refine r_sub [1, 2, 3, 0] rfl ?_
  refine t_X4_learn_L41 hn (fun s_16 h => ?_) C _ _ _ h
  refine r_aload_n C dX4_learn_122 rfl 0 rfl ?_
  refine r_iconst (v := 1) C dX4_learn_123 (by decide) ?_
  refine pfX4_9 C hn (nb_01 (Or.inr rfl)) (fb_01 (Or.inr rfl)) dX4_learn_124 ?_
  cases h
  exact r_vret C dX4_learn_127
def Bk_settled_J76 (B2 : Int32 → St → Option (St)) (v1_11 : Int32)  (s_12 : St) : Option (St) :=
  B2 (v1_11 + 1) s_12
def Bk_settled_L2   : Nat → Int32 → St → Option (St)
  | 0, _, _ => none
  | n + 1, v1_1, s_2 => if (s_2.1 3 0 5) ≤ v1_1 then (some s_2) else (if inb v1_1 8 = true then if (s_2.1 24 v1_1.toNatClampNeg 0) = 0 then (if inb v1_1 8 = true then Option.bind (Bn_weigh v1_1.toNatClampNeg s_2) (fun r_7 => Option.bind (Bn_takeTwoRules r_7) (fun r_8 => if inb v1_1 8 = true then Option.bind (Mi_learn v1_1.toNatClampNeg r_8) (fun r_10 => Bk_settled_J76 (Bk_settled_L2 n) v1_1 r_10) else none)) else none) else (Bk_settled_J76 (Bk_settled_L2 n) v1_1 s_2) else none)
def Bk_settled  (s0 : St) : Option (St) :=
  Bk_settled_L2 1100 0 s0
set_option maxHeartbeats 4000000 in
set_option maxRecDepth 100000 in
theorem t_X1_settled_J76 {x : Ctx} {w : Wp} {v1_11 : Int32}  {s_12 : St} {z : St}  {B2 : Int32 → St → Option (St)} (hB2 : ∀ (u1_13 : Int32) (s_14 : St), B2 u1_13 s_14 = some z → V x WC w 2 (QM x WC w (some (.ref (wa w 15 0))) z) s_14 2 [(0, .ref (wa w 3 0)), (1, .int u1_13)] []) (C : Cx x WC w cX1_settled 2 RX1 3 (some (.array (.object "QuarrelBook$Master")))) (h : Bk_settled_J76 B2 v1_11 s_12 = some z) : V x WC w 2 (QM x WC w (some (.ref (wa w 15 0))) z) s_12 76 [(0, .ref (wa w 3 0)), (1, .int v1_11)] [] := by
  unfold Bk_settled_J76 at h
  refine r_iinc (v := v1_11 + 1) C dX1_settled_76 (j := 1) rfl rfl (Nat.le_of_ble_eq_true rfl) (L' := [(1, _), (0, _)]) rfl ?_
  refine r_goto (tgt := 2) C dX1_settled_79 (by decide) ?_
  refine r_sub [1, 0] rfl ?_
  exact hB2 _ _ h
set_option maxHeartbeats 4000000 in
set_option maxRecDepth 100000 in
theorem t_X1_settled_L2 {x : Ctx} {w : Wp}  {z : St}    (C : Cx x WC w cX1_settled 2 RX1 3 (some (.array (.object "QuarrelBook$Master")))) : ∀ (n : Nat) (v1_1 : Int32) (s_2 : St), Bk_settled_L2 n v1_1 s_2 = some z → V x WC w 2 (QM x WC w (some (.ref (wa w 15 0))) z) s_2 2 [(0, .ref (wa w 3 0)), (1, .int v1_1)] [] := by
  intro n
  induction n with
  | zero => intro v1_1 s_2 h; cases h
  | succ n ih =>
    intro v1_1 s_2 h
    unfold Bk_settled_L2 at h
    refine r_iload_n C dX1_settled_2 rfl 1 rfl ?_
    refine r_aload_n C dX1_settled_3 rfl 0 rfl ?_
    refine gfX1_41 C dX1_settled_4 ?_
    refine r_icmp_ge (tgt := 82) C dX1_settled_7 (by decide) (fun c_3 => ?_) (fun c_3 => ?_)
    · have h := ip h c_3
      refine r_aload_n C dX1_settled_82 rfl 0 rfl ?_
      refine gfX1_37 C dX1_settled_83 ?_
      cases h
      exact r_aret C (Or.inr ⟨_, rfl⟩) dX1_settled_86
    · have h := iq h c_3
      refine r_aload_n C dX1_settled_10 rfl 0 rfl ?_
      refine gfX1_37 C dX1_settled_11 ?_
      refine r_iload_n C dX1_settled_14 rfl 1 rfl ?_
      obtain ⟨g_4, h⟩ := gdE h
      refine la_15 C g_4 dX1_settled_15 ?_
      refine gfX1_96 C (inb_lt g_4) dX1_settled_16 ?_
      refine gfX1_100 C (inb_lt g_4) dX1_settled_19 ?_
      refine r_if_eq (tgt := 28) C dX1_settled_22 (by decide) (fun c_5 => ?_) (fun c_5 => ?_)
      · have h := ip h c_5
        refine r_aload_n C dX1_settled_28 rfl 0 rfl ?_
        refine gfX1_23 C dX1_settled_29 ?_
        refine r_aload_n C dX1_settled_32 rfl 0 rfl ?_
        refine gfX1_37 C dX1_settled_33 ?_
        refine r_iload_n C dX1_settled_36 rfl 1 rfl ?_
        obtain ⟨g_6, h⟩ := gdE h
        refine la_15 C g_6 dX1_settled_37 ?_
        refine r_aload_n C dX1_settled_38 rfl 0 rfl ?_
        refine gfX1_46 C dX1_settled_39 ?_
        refine r_aload_n C dX1_settled_42 rfl 0 rfl ?_
        refine gfX1_27 C dX1_settled_43 ?_
        obtain ⟨r_7, er_7, h⟩ := bdE h
        refine kX1_126 C (m_X0_weigh (inb_lt g_6) er_7) (by decide) (Nat.le_of_ble_eq_true rfl) dX1_settled_46 ?_
        refine r_aload_n C dX1_settled_49 rfl 0 rfl ?_
        refine gfX1_23 C dX1_settled_50 ?_
        obtain ⟨r_8, er_8, h⟩ := bdE h
        refine kX1_130 C (m_X0_takeTwoRules er_8) (by decide) (Nat.le_of_ble_eq_true rfl) dX1_settled_53 ?_
        refine r_aload_n C dX1_settled_56 rfl 0 rfl ?_
        refine gfX1_37 C dX1_settled_57 ?_
        refine r_iload_n C dX1_settled_60 rfl 1 rfl ?_
        obtain ⟨g_9, h⟩ := gdE h
        refine la_15 C g_9 dX1_settled_61 ?_
        refine gfX1_96 C (inb_lt g_9) dX1_settled_62 ?_
        refine r_aload_n C dX1_settled_65 rfl 0 rfl ?_
        refine gfX1_23 C dX1_settled_66 ?_
        refine r_aload_n C dX1_settled_69 rfl 0 rfl ?_
        refine gfX1_12 C dX1_settled_70 ?_
        obtain ⟨r_10, er_10, h⟩ := bdE h
        refine kX1_133 C (inb_lt g_9) (m_X4_learn (inb_lt g_9) er_10) (by decide) (Nat.le_of_ble_eq_true rfl) dX1_settled_73 ?_
        refine r_sub [0, 1] rfl ?_
        exact t_X1_settled_J76 ih C h
      · have h := iq h c_5
        refine r_goto (tgt := 76) C dX1_settled_25 (by decide) ?_
        refine r_sub [0, 1] rfl ?_
        exact t_X1_settled_J76 ih C h
set_option maxHeartbeats 4000000 in
set_option maxRecDepth 100000 in
theorem m_X1_settled {l : Launch} {w : Wp}   {s0 : St} {z : St} (h : Bk_settled s0 = some z) : Cm l yX1_settled (.code yX1_settled cX1_settled 2 (some (.array (.object "QuarrelBook$Master")))) 3 WC w [.ref (wa w 3 0)] s0 (some (.ref (wa w 15 0))) z := by
  refine Cm.of (own := RX1) (by decide +kernel) rfl (Nat.le_of_ble_eq_true rfl) (L := [(0, .ref (wa w 3 0))]) rfl KoC (fun x hl C => ?_)
  subst hl
  unfold Bk_settled at h
  refine r_iconst (v := 0) C dX1_settled_0 (by decide) ?_
  refine r_istore_n C dX1_settled_1 rfl (Nat.le_of_ble_eq_true rfl) (L' := [(1, _), (0, _)]) rfl ?_
  refine r_sub [1, 0] rfl ?_
  exact t_X1_settled_L2 C _ _ _ h
def Bk_changeYear (v1 : Int32) (s0 : St) : Option (Int32 × St) :=
  if inb v1 8 = true then Option.bind (Bn_weigh v1.toNatClampNeg s0) (fun r_2 => if inb v1 8 = true then Option.bind (Bn_firstChange v1.toNatClampNeg r_2) (fun r_4 => some (r_4.1, r_4.2)) else none) else none
set_option maxHeartbeats 4000000 in
set_option maxRecDepth 100000 in
theorem m_X1_changeYear {l : Launch} {w : Wp} {v1 : Int32}  {s0 : St} {z : Int32 × St} (h : Bk_changeYear v1 s0 = some z) : Cm l yX1_changeYear (.code yX1_changeYear cX1_changeYear 2 (some .int)) 4 WC w [.ref (wa w 3 0), .int v1] s0 (some (.int z.1)) z.2 := by
  refine Cm.of (own := RX1) (by decide +kernel) rfl (Nat.le_of_ble_eq_true rfl) (L := [(0, .ref (wa w 3 0)), (1, .int v1)]) rfl KoC (fun x hl C => ?_)
  subst hl
  unfold Bk_changeYear at h
  refine r_aload_n C dX1_changeYear_0 rfl 0 rfl ?_
  refine gfX1_23 C dX1_changeYear_1 ?_
  refine r_aload_n C dX1_changeYear_4 rfl 0 rfl ?_
  refine gfX1_37 C dX1_changeYear_5 ?_
  refine r_iload_n C dX1_changeYear_8 rfl 1 rfl ?_
  obtain ⟨g_1, h⟩ := gdE h
  refine la_15 C g_1 dX1_changeYear_9 ?_
  refine r_aload_n C dX1_changeYear_10 rfl 0 rfl ?_
  refine gfX1_46 C dX1_changeYear_11 ?_
  refine r_aload_n C dX1_changeYear_14 rfl 0 rfl ?_
  refine gfX1_27 C dX1_changeYear_15 ?_
  obtain ⟨r_2, er_2, h⟩ := bdE h
  refine kX1_126 C (m_X0_weigh (inb_lt g_1) er_2) (by decide) (Nat.le_of_ble_eq_true rfl) dX1_changeYear_18 ?_
  refine r_aload_n C dX1_changeYear_21 rfl 0 rfl ?_
  refine gfX1_23 C dX1_changeYear_22 ?_
  refine r_aload_n C dX1_changeYear_25 rfl 0 rfl ?_
  refine gfX1_37 C dX1_changeYear_26 ?_
  refine r_iload_n C dX1_changeYear_29 rfl 1 rfl ?_
  obtain ⟨g_3, h⟩ := gdE h
  refine la_15 C g_3 dX1_changeYear_30 ?_
  refine r_aload_n C dX1_changeYear_31 rfl 0 rfl ?_
  refine gfX1_46 C dX1_changeYear_32 ?_
  obtain ⟨r_4, er_4, h⟩ := bdE h
  refine kX1_137 C (m_X0_firstChange (inb_lt g_3) er_4) (by decide) (Nat.le_of_ble_eq_true rfl) dX1_changeYear_35 ?_
  cases h
  exact r_iret C dX1_changeYear_38
