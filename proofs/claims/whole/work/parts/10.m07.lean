def M_runs (v1 : Int32) (s0 : St) : Option (Int32 × St) :=
  if (M_isSaying v1 s0) = 0 then (some ((-1), s0)) else (if inb v1 24 = true then if inb v1 24 = true then if inb v1 24 = true then Option.bind (M_settles ((sX s0 20 0 v1.toNatClampNeg 0).1 17 0 v1.toNatClampNeg) (sX s0 20 0 v1.toNatClampNeg 0)) (fun r_5 => if inb v1 24 = true then if inb v1 24 = true then Option.bind (M_settles ((sX r_5 20 0 v1.toNatClampNeg 1).1 17 0 v1.toNatClampNeg) (sX r_5 20 0 v1.toNatClampNeg 1)) (fun r_8 => if inb v1 24 = true then Option.bind (M_ask (if (r_8.1 0 0 27) ≤ (r_5.1 0 0 27) then ((r_5.1 0 0 27) - (r_8.1 0 0 27)) else ((r_8.1 0 0 27) - (r_5.1 0 0 27)) : Int32) (if (r_5.1 0 0 27) = (r_8.1 0 0 27) then 2 else (if (r_8.1 0 0 27) ≤ (r_5.1 0 0 27) then 1 else 0) : Int32) (sX r_8 20 0 v1.toNatClampNeg (s0.1 20 0 v1.toNatClampNeg))) (fun r_15 => some (r_15.1, r_15.2)) else none) else none else none) else none else none else none)
set_option maxHeartbeats 4000000 in
set_option maxRecDepth 100000 in
theorem m_X12_runs {l : Launch} {w : Wp} {v1 : Int32}  {s0 : St} {z : Int32 × St} (h : M_runs v1 s0 = some z) : Cm l yX12_runs (.code yX12_runs cX12_runs 5 (some .int)) 7 WM w [.ref (wa w 0 0), .int v1] s0 (some (.int z.1)) z.2 := by
  refine Cm.of (own := RX12) (by decide +kernel) rfl (Nat.le_of_ble_eq_true rfl) (L := [(0, .ref (wa w 0 0)), (1, .int v1)]) rfl KoM (fun x hl C => ?_)
  subst hl
  unfold M_runs at h
  refine r_aload_n C dX12_runs_0 rfl 0 rfl ?_
  refine r_iload_n C dX12_runs_1 rfl 1 rfl ?_
  refine kX12_157 C (m_X12_isSaying rfl) (by decide) (Nat.le_of_ble_eq_true rfl) dX12_runs_2 ?_
  refine r_if_ne (tgt := 10) C dX12_runs_5 (by decide) (fun c_1 => ?_) (fun c_1 => ?_)
  · have h := iq h c_1
    refine r_aload_n C dX12_runs_10 rfl 0 rfl ?_
    refine gfX12_53 C dX12_runs_11 ?_
    refine r_iload_n C dX12_runs_14 rfl 1 rfl ?_
    obtain ⟨g_2, h⟩ := gdE h
    refine ldM_20 C g_2 dX12_runs_15 ?_
    refine r_istore_n C dX12_runs_16 rfl (Nat.le_of_ble_eq_true rfl) (L' := [(2, _), (0, _), (1, _)]) rfl ?_
    refine r_aload_n C dX12_runs_17 rfl 1 rfl ?_
    refine gfX12_53 C dX12_runs_18 ?_
    refine r_iload_n C dX12_runs_21 rfl 2 rfl ?_
    refine r_iconst (v := 0) C dX12_runs_22 (by decide) ?_
    obtain ⟨g_3, h⟩ := gdE h
    refine stM_20 C g_3 dX12_runs_23 ?_
    refine r_aload_n C dX12_runs_24 rfl 1 rfl ?_
    refine r_aload_n C dX12_runs_25 rfl 1 rfl ?_
    refine gfX12_44 C dX12_runs_26 ?_
    refine r_iload_n C dX12_runs_29 rfl 2 rfl ?_
    obtain ⟨g_4, h⟩ := gdE h
    refine ldM_17 C g_4 dX12_runs_30 ?_
    obtain ⟨r_5, er_5, h⟩ := bdE h
    refine kX12_231 C (m_X12_settles er_5) (by decide) (Nat.le_of_ble_eq_true rfl) dX12_runs_31 ?_
    refine r_aload_n C dX12_runs_34 rfl 1 rfl ?_
    refine gfX12_225 C dX12_runs_35 ?_
    refine r_istore_n C dX12_runs_38 rfl (Nat.le_of_ble_eq_true rfl) (L' := [(3, _), (2, _), (0, _), (1, _)]) rfl ?_
    refine r_aload_n C dX12_runs_39 rfl 2 rfl ?_
    refine gfX12_53 C dX12_runs_40 ?_
    refine r_iload_n C dX12_runs_43 rfl 3 rfl ?_
    refine r_iconst (v := 1) C dX12_runs_44 (by decide) ?_
    obtain ⟨g_6, h⟩ := gdE h
    refine stM_20 C g_6 dX12_runs_45 ?_
    refine r_aload_n C dX12_runs_46 rfl 2 rfl ?_
    refine r_aload_n C dX12_runs_47 rfl 2 rfl ?_
    refine gfX12_44 C dX12_runs_48 ?_
    refine r_iload_n C dX12_runs_51 rfl 3 rfl ?_
    obtain ⟨g_7, h⟩ := gdE h
    refine ldM_17 C g_7 dX12_runs_52 ?_
    obtain ⟨r_8, er_8, h⟩ := bdE h
    refine kX12_231 C (m_X12_settles er_8) (by decide) (Nat.le_of_ble_eq_true rfl) dX12_runs_53 ?_
    refine r_aload_n C dX12_runs_56 rfl 2 rfl ?_
    refine gfX12_225 C dX12_runs_57 ?_
    refine r_istore C dX12_runs_60 (Nat.le_of_ble_eq_true rfl) (L' := [(4, _), (3, _), (2, _), (0, _), (1, _)]) rfl ?_
    refine r_aload_n C dX12_runs_62 rfl 3 rfl ?_
    refine gfX12_53 C dX12_runs_63 ?_
    refine r_iload_n C dX12_runs_66 rfl 4 rfl ?_
    refine r_iload_n C dX12_runs_67 rfl 2 rfl ?_
    obtain ⟨g_9, h⟩ := gdE h
    refine stM_20 C g_9 dX12_runs_68 ?_
    refine r_aload_n C dX12_runs_69 rfl 3 rfl ?_
    refine r_iload_n C dX12_runs_70 rfl 1 rfl ?_
    refine r_iload C dX12_runs_71 0 rfl ?_
    refine r_em (st := [.ref (wa w 0 0)]) 87 ((if (r_8.1 0 0 27) ≤ (r_5.1 0 0 27) then ((r_5.1 0 0 27) - (r_8.1 0 0 27)) else ((r_8.1 0 0 27) - (r_5.1 0 0 27)) : Int32)) (fun hM_11 => ?_) ?_
    · refine r_icmp_ge (tgt := 83) C dX12_runs_73 (by decide) (fun c_10 => ?_) (fun c_10 => ?_)
      · refine r_iload_n C dX12_runs_83 rfl 1 rfl ?_
        refine r_iload C dX12_runs_84 0 rfl ?_
        refine r_isub C dX12_runs_86 ?_
        exact (em_pos c_10 hM_11)
      · refine r_iload C dX12_runs_76 0 rfl ?_
        refine r_iload_n C dX12_runs_78 rfl 1 rfl ?_
        refine r_isub C dX12_runs_79 ?_
        refine r_goto (tgt := 87) C dX12_runs_80 (by decide) ?_
        exact (em_neg c_10 hM_11)
    refine r_iload_n C dX12_runs_87 rfl 1 rfl ?_
    refine r_iload C dX12_runs_88 0 rfl ?_
    refine r_em (st := [.int (if (r_8.1 0 0 27) ≤ (r_5.1 0 0 27) then ((r_5.1 0 0 27) - (r_8.1 0 0 27)) else ((r_8.1 0 0 27) - (r_5.1 0 0 27)) : Int32), .ref (wa w 0 0)]) 108 ((if (r_5.1 0 0 27) = (r_8.1 0 0 27) then 2 else (if (r_8.1 0 0 27) ≤ (r_5.1 0 0 27) then 1 else 0) : Int32)) (fun hM_14 => ?_) ?_
    · refine r_icmp_ne (tgt := 97) C dX12_runs_90 (by decide) (fun c_13 => ?_) (fun c_13 => ?_)
      · refine r_iload_n C dX12_runs_97 rfl 1 rfl ?_
        refine r_iload C dX12_runs_98 0 rfl ?_
        refine r_icmp_ge (tgt := 107) C dX12_runs_100 (by decide) (fun c_12 => ?_) (fun c_12 => ?_)
        · refine r_iconst (v := 1) C dX12_runs_107 (by decide) ?_
          exact (em_pos c_12 (em_neg c_13 hM_14))
        · refine r_iconst (v := 0) C dX12_runs_103 (by decide) ?_
          refine r_goto (tgt := 108) C dX12_runs_104 (by decide) ?_
          exact (em_neg c_12 (em_neg c_13 hM_14))
      · refine r_iconst (v := 2) C dX12_runs_93 (by decide) ?_
        refine r_goto (tgt := 108) C dX12_runs_94 (by decide) ?_
        exact (em_pos c_13 hM_14)
    obtain ⟨r_15, er_15, h⟩ := bdE h
    refine kX12_119 C (m_X12_ask er_15) (by decide) (Nat.le_of_ble_eq_true rfl) dX12_runs_108 ?_
    cases h
    exact r_iret C dX12_runs_111
  · have h := ip h c_1
    refine r_iconst (v := (-1)) C dX12_runs_8 (by decide) ?_
    cases h
    exact r_iret C dX12_runs_9
def M_isMove (v1 : Int32) (v2 : Int32) (v3 : Int32) (s0 : St) : Int32 :=
  if v2 = 0 then 1 else (if v2 = 1 then (if (M_isSaying v3 s0) = 0 then 0 else (if v3 = v1 then 0 else 1) : Int32) else (if v2 = 2 then (M_isTrait v3) else (if v2 = 3 then (M_isMaster v3 s0) else (if v2 = 4 then (M_isTrait v3) else (if v2 = 5 then (M_in v3 0 999) else (if v2 = 6 then 1 else 0))))))
set_option maxHeartbeats 4000000 in
set_option maxRecDepth 100000 in
theorem m_X12_isMove {l : Launch} {w : Wp} {v1 : Int32} {v2 : Int32} {v3 : Int32}  {s0 : St} {z : Int32} (h : M_isMove v1 v2 v3 s0 = z) : Cm l yX12_isMove (.code yX12_isMove cX12_isMove 4 (some .boolean)) 2 WM w [.ref (wa w 0 0), .int v1, .int v2, .int v3] s0 (some (.int z)) s0 := by
  refine Cm.of (own := RX12) (by decide +kernel) rfl (Nat.le_of_ble_eq_true rfl) (L := [(0, .ref (wa w 0 0)), (1, .int v1), (2, .int v2), (3, .int v3)]) rfl KoM (fun x hl C => ?_)
  subst hl
  unfold M_isMove at h
  refine r_iload_n C dX12_isMove_0 rfl 2 rfl ?_
  by_cases c_1 : v2 = 0
  · have h := ip h c_1
    refine r_tabIn (tgt := 44) C dX12_isMove_1 c_1 (by decide) (by decide) rfl (by decide) ?_
    refine r_iconst (v := 1) C dX12_isMove_44 (by decide) ?_
    subst h
    exact r_zret C rfl dX12_isMove_45
  have h := iq h c_1
  by_cases c_2 : v2 = 1
  · have h := ip h c_2
    refine r_tabIn (tgt := 46) C dX12_isMove_1 c_2 (by decide) (by decide) rfl (by decide) ?_
    refine r_aload_n C dX12_isMove_46 rfl 0 rfl ?_
    refine r_iload_n C dX12_isMove_47 rfl 3 rfl ?_
    refine kX12_157 C (m_X12_isSaying rfl) (by decide) (Nat.le_of_ble_eq_true rfl) dX12_isMove_48 ?_
    refine r_em (st := []) 64 ((if (M_isSaying v3 s0) = 0 then 0 else (if v3 = v1 then 0 else 1) : Int32)) (fun hM_5 => ?_) ?_
    · refine r_if_eq (tgt := 63) C dX12_isMove_51 (by decide) (fun c_4 => ?_) (fun c_4 => ?_)
      · refine r_iconst (v := 0) C dX12_isMove_63 (by decide) ?_
        exact (em_pos c_4 hM_5)
      · refine r_iload_n C dX12_isMove_54 rfl 3 rfl ?_
        refine r_iload_n C dX12_isMove_55 rfl 1 rfl ?_
        refine r_icmp_eq (tgt := 63) C dX12_isMove_56 (by decide) (fun c_3 => ?_) (fun c_3 => ?_)
        · refine r_iconst (v := 0) C dX12_isMove_63 (by decide) ?_
          exact (em_pos c_3 (em_neg c_4 hM_5))
        · refine r_iconst (v := 1) C dX12_isMove_59 (by decide) ?_
          refine r_goto (tgt := 64) C dX12_isMove_60 (by decide) ?_
          exact (em_neg c_3 (em_neg c_4 hM_5))
    subst h
    exact r_zret C (nb_ite rfl (nb_ite rfl rfl)) dX12_isMove_64
  have h := iq h c_2
  by_cases c_6 : v2 = 2
  · have h := ip h c_6
    refine r_tabIn (tgt := 65) C dX12_isMove_1 c_6 (by decide) (by decide) rfl (by decide) ?_
    refine r_iload_n C dX12_isMove_65 rfl 3 rfl ?_
    refine kX12_147 C (m_X12_isTrait rfl) (by decide) (Nat.le_of_ble_eq_true rfl) dX12_isMove_66 ?_
    subst h
    exact r_zret C nb_X12_isTrait dX12_isMove_69
  have h := iq h c_6
  by_cases c_7 : v2 = 3
  · have h := ip h c_7
    refine r_tabIn (tgt := 70) C dX12_isMove_1 c_7 (by decide) (by decide) rfl (by decide) ?_
    refine r_aload_n C dX12_isMove_70 rfl 0 rfl ?_
    refine r_iload_n C dX12_isMove_71 rfl 3 rfl ?_
    refine kX12_137 C (m_X12_isMaster rfl) (by decide) (Nat.le_of_ble_eq_true rfl) dX12_isMove_72 ?_
    subst h
    exact r_zret C nb_X12_isMaster dX12_isMove_75
  have h := iq h c_7
  by_cases c_8 : v2 = 4
  · have h := ip h c_8
    refine r_tabIn (tgt := 65) C dX12_isMove_1 c_8 (by decide) (by decide) rfl (by decide) ?_
    refine r_iload_n C dX12_isMove_65 rfl 3 rfl ?_
    refine kX12_147 C (m_X12_isTrait rfl) (by decide) (Nat.le_of_ble_eq_true rfl) dX12_isMove_66 ?_
    subst h
    exact r_zret C nb_X12_isTrait dX12_isMove_69
  have h := iq h c_8
  by_cases c_9 : v2 = 5
  · have h := ip h c_9
    refine r_tabIn (tgt := 76) C dX12_isMove_1 c_9 (by decide) (by decide) rfl (by decide) ?_
    refine r_iload_n C dX12_isMove_76 rfl 3 rfl ?_
    refine r_iconst (v := 0) C dX12_isMove_77 (by decide) ?_
    refine r_sipush (v := 999) C dX12_isMove_78 (by decide) ?_
    refine kX12_97 C (m_X12_in rfl) (by decide) (Nat.le_of_ble_eq_true rfl) dX12_isMove_81 ?_
    subst h
    exact r_zret C nb_X12_in dX12_isMove_84
  have h := iq h c_9
  by_cases c_10 : v2 = 6
  · have h := ip h c_10
    refine r_tabIn (tgt := 44) C dX12_isMove_1 c_10 (by decide) (by decide) rfl (by decide) ?_
    refine r_iconst (v := 1) C dX12_isMove_44 (by decide) ?_
    subst h
    exact r_zret C rfl dX12_isMove_45
  have h := iq h c_10
  refine r_tabOut (tgt := 85) C dX12_isMove_1 (by have q0 := tq_ne (k := 0) (by decide) c_1; have q1 := tq_ne (k := 1) (by decide) c_2; have q2 := tq_ne (k := 2) (by decide) c_6; have q3 := tq_ne (k := 3) (by decide) c_7; have q4 := tq_ne (k := 4) (by decide) c_8; have q5 := tq_ne (k := 5) (by decide) c_9; have q6 := tq_ne (k := 6) (by decide) c_10; omega) (by decide) ?_
  refine r_iconst (v := 0) C dX12_isMove_85 (by decide) ?_
  subst h
  exact r_zret C rfl dX12_isMove_86
theorem nb_X12_isMove {v1 : Int32} {v2 : Int32} {v3 : Int32} {s0 : St} : narrow .boolean (.int (M_isMove v1 v2 v3 s0)) = .int (M_isMove v1 v2 v3 s0) := by
  unfold M_isMove
  exact (nb_ite rfl (nb_ite (nb_ite rfl (nb_ite rfl rfl)) (nb_ite nb_X12_isTrait (nb_ite nb_X12_isMaster (nb_ite nb_X12_isTrait (nb_ite nb_X12_in (nb_ite rfl rfl)))))))
def M_move (v1 : Int32) (v2 : Int32) (v3 : Int32) (s0 : St) : Option (Int32 × St) :=
  if (M_isSaying v1 s0) = 0 then (some ((-1), s0)) else (if (M_isMove v1 v2 v3 s0) = 0 then (some ((-1), s0)) else (if (s0.1 0 0 33) = 40 then (some ((-2), s0)) else (if inb (s0.1 0 0 33) 40 = true then if inb ((sX s0 34 0 ((s0.1 0 0 33).toNatClampNeg) v2).1 0 0 33) 40 = true then if inb ((sX (sX s0 34 0 ((s0.1 0 0 33).toNatClampNeg) v2) 35 0 (((sX s0 34 0 ((s0.1 0 0 33).toNatClampNeg) v2).1 0 0 33).toNatClampNeg) v1).1 0 0 33) 40 = true then some (((sX (sX (sX (sX s0 34 0 ((s0.1 0 0 33).toNatClampNeg) v2) 35 0 (((sX s0 34 0 ((s0.1 0 0 33).toNatClampNeg) v2).1 0 0 33).toNatClampNeg) v1) 36 0 (((sX (sX s0 34 0 ((s0.1 0 0 33).toNatClampNeg) v2) 35 0 (((sX s0 34 0 ((s0.1 0 0 33).toNatClampNeg) v2).1 0 0 33).toNatClampNeg) v1).1 0 0 33).toNatClampNeg) (if v2 = 0 then 0 else (if v2 = 6 then 0 else v3) : Int32)) 0 0 33 (((sX (sX (sX s0 34 0 ((s0.1 0 0 33).toNatClampNeg) v2) 35 0 (((sX s0 34 0 ((s0.1 0 0 33).toNatClampNeg) v2).1 0 0 33).toNatClampNeg) v1) 36 0 (((sX (sX s0 34 0 ((s0.1 0 0 33).toNatClampNeg) v2) 35 0 (((sX s0 34 0 ((s0.1 0 0 33).toNatClampNeg) v2).1 0 0 33).toNatClampNeg) v1).1 0 0 33).toNatClampNeg) (if v2 = 0 then 0 else (if v2 = 6 then 0 else v3) : Int32)).1 0 0 33) + 1)).1 0 0 33) - 1, sX (sX (sX (sX s0 34 0 ((s0.1 0 0 33).toNatClampNeg) v2) 35 0 (((sX s0 34 0 ((s0.1 0 0 33).toNatClampNeg) v2).1 0 0 33).toNatClampNeg) v1) 36 0 (((sX (sX s0 34 0 ((s0.1 0 0 33).toNatClampNeg) v2) 35 0 (((sX s0 34 0 ((s0.1 0 0 33).toNatClampNeg) v2).1 0 0 33).toNatClampNeg) v1).1 0 0 33).toNatClampNeg) (if v2 = 0 then 0 else (if v2 = 6 then 0 else v3) : Int32)) 0 0 33 (((sX (sX (sX s0 34 0 ((s0.1 0 0 33).toNatClampNeg) v2) 35 0 (((sX s0 34 0 ((s0.1 0 0 33).toNatClampNeg) v2).1 0 0 33).toNatClampNeg) v1) 36 0 (((sX (sX s0 34 0 ((s0.1 0 0 33).toNatClampNeg) v2) 35 0 (((sX s0 34 0 ((s0.1 0 0 33).toNatClampNeg) v2).1 0 0 33).toNatClampNeg) v1).1 0 0 33).toNatClampNeg) (if v2 = 0 then 0 else (if v2 = 6 then 0 else v3) : Int32)).1 0 0 33) + 1)) else none else none else none)))
set_option maxHeartbeats 4000000 in
set_option maxRecDepth 100000 in
theorem m_X12_move {l : Launch} {w : Wp} {v1 : Int32} {v2 : Int32} {v3 : Int32}  {s0 : St} {z : Int32 × St} (h : M_move v1 v2 v3 s0 = some z) : Cm l yX12_move (.code yX12_move cX12_move 4 (some .int)) 3 WM w [.ref (wa w 0 0), .int v1, .int v2, .int v3] s0 (some (.int z.1)) z.2 := by
  refine Cm.of (own := RX12) (by decide +kernel) rfl (Nat.le_of_ble_eq_true rfl) (L := [(0, .ref (wa w 0 0)), (1, .int v1), (2, .int v2), (3, .int v3)]) rfl KoM (fun x hl C => ?_)
  subst hl
  unfold M_move at h
  refine r_aload_n C dX12_move_0 rfl 0 rfl ?_
  refine r_iload_n C dX12_move_1 rfl 1 rfl ?_
  refine kX12_157 C (m_X12_isSaying rfl) (by decide) (Nat.le_of_ble_eq_true rfl) dX12_move_2 ?_
  refine r_if_eq (tgt := 18) C dX12_move_5 (by decide) (fun c_1 => ?_) (fun c_1 => ?_)
  · have h := ip h c_1
    refine r_iconst (v := (-1)) C dX12_move_18 (by decide) ?_
    cases h
    exact r_iret C dX12_move_19
  · have h := iq h c_1
    refine r_aload_n C dX12_move_8 rfl 0 rfl ?_
    refine r_iload_n C dX12_move_9 rfl 1 rfl ?_
    refine r_iload_n C dX12_move_10 rfl 2 rfl ?_
    refine r_iload_n C dX12_move_11 rfl 3 rfl ?_
    refine kX12_262 C (m_X12_isMove rfl) (by decide) (Nat.le_of_ble_eq_true rfl) dX12_move_12 ?_
    refine r_if_ne (tgt := 20) C dX12_move_15 (by decide) (fun c_2 => ?_) (fun c_2 => ?_)
    · have h := iq h c_2
      refine r_aload_n C dX12_move_20 rfl 0 rfl ?_
      refine gfX12_265 C dX12_move_21 ?_
      refine r_bipush (v := 40) C dX12_move_24 (by decide) ?_
      refine r_icmp_ne (tgt := 32) C dX12_move_26 (by decide) (fun c_3 => ?_) (fun c_3 => ?_)
      · have h := iq h c_3
        refine r_aload_n C dX12_move_32 rfl 0 rfl ?_
        refine gfX12_75 C dX12_move_33 ?_
        refine r_aload_n C dX12_move_36 rfl 0 rfl ?_
        refine gfX12_265 C dX12_move_37 ?_
        refine r_iload_n C dX12_move_40 rfl 2 rfl ?_
        obtain ⟨g_4, h⟩ := gdE h
        refine stM_34 C g_4 dX12_move_41 ?_
        refine r_aload_n C dX12_move_42 rfl 0 rfl ?_
        refine gfX12_78 C dX12_move_43 ?_
        refine r_aload_n C dX12_move_46 rfl 0 rfl ?_
        refine gfX12_265 C dX12_move_47 ?_
        refine r_iload_n C dX12_move_50 rfl 1 rfl ?_
        obtain ⟨g_5, h⟩ := gdE h
        refine stM_35 C g_5 dX12_move_51 ?_
        refine r_aload_n C dX12_move_52 rfl 0 rfl ?_
        refine gfX12_81 C dX12_move_53 ?_
        refine r_aload_n C dX12_move_56 rfl 0 rfl ?_
        refine gfX12_265 C dX12_move_57 ?_
        refine r_iload_n C dX12_move_60 rfl 2 rfl ?_
        refine r_em (st := [.int ((sX (sX s0 34 0 ((s0.1 0 0 33).toNatClampNeg) v2) 35 0 (((sX s0 34 0 ((s0.1 0 0 33).toNatClampNeg) v2).1 0 0 33).toNatClampNeg) v1).1 0 0 33), .ref (wa w 36 0)]) 75 ((if v2 = 0 then 0 else (if v2 = 6 then 0 else v3) : Int32)) (fun hM_8 => ?_) ?_
        · refine r_if_eq (tgt := 70) C dX12_move_61 (by decide) (fun c_7 => ?_) (fun c_7 => ?_)
          · refine r_iconst (v := 0) C dX12_move_70 (by decide) ?_
            refine r_goto (tgt := 75) C dX12_move_71 (by decide) ?_
            exact (em_pos c_7 hM_8)
          · refine r_iload_n C dX12_move_64 rfl 2 rfl ?_
            refine r_bipush (v := 6) C dX12_move_65 (by decide) ?_
            refine r_icmp_ne (tgt := 74) C dX12_move_67 (by decide) (fun c_6 => ?_) (fun c_6 => ?_)
            · refine r_iload_n C dX12_move_74 rfl 3 rfl ?_
              exact (em_neg c_6 (em_neg c_7 hM_8))
            · refine r_iconst (v := 0) C dX12_move_70 (by decide) ?_
              refine r_goto (tgt := 75) C dX12_move_71 (by decide) ?_
              exact (em_pos c_6 (em_neg c_7 hM_8))
        obtain ⟨g_9, h⟩ := gdE h
        refine stM_36 C g_9 dX12_move_75 ?_
        refine r_aload_n C dX12_move_76 rfl 0 rfl ?_
        refine r_dup C dX12_move_77 rfl ?_
        refine gfX12_265 C dX12_move_78 ?_
        refine r_iconst (v := 1) C dX12_move_81 (by decide) ?_
        refine r_iadd C dX12_move_82 ?_
        refine pfX12_265 C dX12_move_83 ?_
        refine r_aload_n C dX12_move_86 rfl 0 rfl ?_
        refine gfX12_265 C dX12_move_87 ?_
        refine r_iconst (v := 1) C dX12_move_90 (by decide) ?_
        refine r_isub C dX12_move_91 ?_
        cases h
        exact r_iret C dX12_move_92
      · have h := ip h c_3
        refine r_bipush (v := (-2)) C dX12_move_29 (by decide) ?_
        cases h
        exact r_iret C dX12_move_31
    · have h := ip h c_2
      refine r_iconst (v := (-1)) C dX12_move_18 (by decide) ?_
      cases h
      exact r_iret C dX12_move_19
def M_moveTells (v1 : Int32) (v2 : Int32) (s0 : St) : Option (Int32) :=
  if v2 = 0 then (if inb v1 40 = true then some (s0.1 34 0 v1.toNatClampNeg) else none) else (if v2 = 1 then (if inb v1 40 = true then some (s0.1 35 0 v1.toNatClampNeg) else none) else (if inb v1 40 = true then some (s0.1 36 0 v1.toNatClampNeg) else none))
set_option maxHeartbeats 4000000 in
set_option maxRecDepth 100000 in
theorem m_X12_moveTells {l : Launch} {w : Wp} {v1 : Int32} {v2 : Int32}  {s0 : St} {z : Int32} (h : M_moveTells v1 v2 s0 = some z) : Cm l yX12_moveTells (.code yX12_moveTells cX12_moveTells 3 (some .int)) 0 WM w [.ref (wa w 0 0), .int v1, .int v2] s0 (some (.int z)) s0 := by
  refine Cm.of (own := RX12) (by decide +kernel) rfl (Nat.le_of_ble_eq_true rfl) (L := [(0, .ref (wa w 0 0)), (1, .int v1), (2, .int v2)]) rfl KoM (fun x hl C => ?_)
  subst hl
  unfold M_moveTells at h
  refine r_iload_n C dX12_moveTells_0 rfl 2 rfl ?_
  refine r_if_ne (tgt := 13) C dX12_moveTells_1 (by decide) (fun c_1 => ?_) (fun c_1 => ?_)
  · have h := iq h c_1
    refine r_iload_n C dX12_moveTells_13 rfl 2 rfl ?_
    refine r_iconst (v := 1) C dX12_moveTells_14 (by decide) ?_
    refine r_icmp_ne (tgt := 27) C dX12_moveTells_15 (by decide) (fun c_2 => ?_) (fun c_2 => ?_)
    · have h := iq h c_2
      refine r_aload_n C dX12_moveTells_27 rfl 0 rfl ?_
      refine gfX12_81 C dX12_moveTells_28 ?_
      refine r_iload_n C dX12_moveTells_31 rfl 1 rfl ?_
      obtain ⟨g_3, h⟩ := gdE h
      refine ldM_36 C g_3 dX12_moveTells_32 ?_
      cases h
      exact r_iret C dX12_moveTells_33
    · have h := ip h c_2
      refine r_aload_n C dX12_moveTells_18 rfl 0 rfl ?_
      refine gfX12_78 C dX12_moveTells_19 ?_
      refine r_iload_n C dX12_moveTells_22 rfl 1 rfl ?_
      obtain ⟨g_4, h⟩ := gdE h
      refine ldM_35 C g_4 dX12_moveTells_23 ?_
      refine r_goto (tgt := 33) C dX12_moveTells_24 (by decide) ?_
      cases h
      exact r_iret C dX12_moveTells_33
  · have h := ip h c_1
    refine r_aload_n C dX12_moveTells_4 rfl 0 rfl ?_
    refine gfX12_75 C dX12_moveTells_5 ?_
    refine r_iload_n C dX12_moveTells_8 rfl 1 rfl ?_
    obtain ⟨g_5, h⟩ := gdE h
    refine ldM_34 C g_5 dX12_moveTells_9 ?_
    refine r_goto (tgt := 33) C dX12_moveTells_10 (by decide) ?_
    cases h
    exact r_iret C dX12_moveTells_33
def M_moved (v1 : Int32) (v2 : Int32) (s0 : St) : Option (Int32 × St) :=
  if (M_in v1 0 ((s0.1 0 0 33) - 1)) = 0 then (some ((-1), s0)) else (if (M_in v2 0 2) = 0 then (some ((-1), s0)) else (Option.bind (M_moveTells v1 v2 s0) (fun r_3 => Option.bind (M_ask r_3 1 s0) (fun r_4 => some (r_4.1, r_4.2)))))
set_option maxHeartbeats 4000000 in
set_option maxRecDepth 100000 in
theorem m_X12_moved {l : Launch} {w : Wp} {v1 : Int32} {v2 : Int32}  {s0 : St} {z : Int32 × St} (h : M_moved v1 v2 s0 = some z) : Cm l yX12_moved (.code yX12_moved cX12_moved 3 (some .int)) 1 WM w [.ref (wa w 0 0), .int v1, .int v2] s0 (some (.int z.1)) z.2 := by
  refine Cm.of (own := RX12) (by decide +kernel) rfl (Nat.le_of_ble_eq_true rfl) (L := [(0, .ref (wa w 0 0)), (1, .int v1), (2, .int v2)]) rfl KoM (fun x hl C => ?_)
  subst hl
  unfold M_moved at h
  refine r_iload_n C dX12_moved_0 rfl 1 rfl ?_
  refine r_iconst (v := 0) C dX12_moved_1 (by decide) ?_
  refine r_aload_n C dX12_moved_2 rfl 0 rfl ?_
  refine gfX12_265 C dX12_moved_3 ?_
  refine r_iconst (v := 1) C dX12_moved_6 (by decide) ?_
  refine r_isub C dX12_moved_7 ?_
  refine kX12_97 C (m_X12_in rfl) (by decide) (Nat.le_of_ble_eq_true rfl) dX12_moved_8 ?_
  refine r_if_eq (tgt := 37) C dX12_moved_11 (by decide) (fun c_1 => ?_) (fun c_1 => ?_)
  · have h := ip h c_1
    refine r_iconst (v := (-1)) C dX12_moved_37 (by decide) ?_
    cases h
    exact r_iret C dX12_moved_38
  · have h := iq h c_1
    refine r_iload_n C dX12_moved_14 rfl 2 rfl ?_
    refine r_iconst (v := 0) C dX12_moved_15 (by decide) ?_
    refine r_iconst (v := 2) C dX12_moved_16 (by decide) ?_
    refine kX12_97 C (m_X12_in rfl) (by decide) (Nat.le_of_ble_eq_true rfl) dX12_moved_17 ?_
    refine r_if_eq (tgt := 37) C dX12_moved_20 (by decide) (fun c_2 => ?_) (fun c_2 => ?_)
    · have h := ip h c_2
      refine r_iconst (v := (-1)) C dX12_moved_37 (by decide) ?_
      cases h
      exact r_iret C dX12_moved_38
    · have h := iq h c_2
      refine r_aload_n C dX12_moved_23 rfl 0 rfl ?_
      refine r_aload_n C dX12_moved_24 rfl 0 rfl ?_
      refine r_iload_n C dX12_moved_25 rfl 1 rfl ?_
      refine r_iload_n C dX12_moved_26 rfl 2 rfl ?_
      obtain ⟨r_3, er_3, h⟩ := bdE h
      refine kX12_268 C (m_X12_moveTells er_3) (by decide) (Nat.le_of_ble_eq_true rfl) dX12_moved_27 ?_
      refine r_iconst (v := 1) C dX12_moved_30 (by decide) ?_
      obtain ⟨r_4, er_4, h⟩ := bdE h
      refine kX12_119 C (m_X12_ask er_4) (by decide) (Nat.le_of_ble_eq_true rfl) dX12_moved_31 ?_
      refine r_goto (tgt := 38) C dX12_moved_34 (by decide) ?_
      cases h
      exact r_iret C dX12_moved_38
def M_mark_J214 (B170 : Int32 → Int32 → St → Option (Int32 × St)) (v3_30 : Int32) (v4_31 : Int32) (v7_32 : Int32) (t_33 : Int32) (t_34 : Int32) (s_35 : St) : Option (Int32 × St) :=
  B170 (t_34 + t_33) (v7_32 + 1) s_35
def M_mark_L170  (v3_21 : Int32) (v4_22 : Int32) : Nat → Int32 → Int32 → St → Option (Int32 × St)
  | 0, _, _, _ => none
  | n + 1, v6_23, v7_24, s_25 => if (s_25.1 0 0 16) ≤ v7_24 then (some (v6_23, s_25)) else (if inb v7_24 24 = true then if inb v3_21 24 = true then if (s_25.1 17 0 v7_24.toNatClampNeg) = (s_25.1 17 0 v3_21.toNatClampNeg) then (if inb v7_24 24 = true then (M_mark_L170 v3_21 v4_22 n) (v6_23 + (if (s_25.1 19 0 v7_24.toNatClampNeg) < v4_22 then 0 else 1 : Int32)) (v7_24 + 1) s_25 else none) else (M_mark_J214 (M_mark_L170 v3_21 v4_22 n) v3_21 v4_22 v7_24 0 v6_23 s_25) else none else none)
def M_mark (v1 : Int32) (v2 : Int32) (s0 : St) : Option (Int32 × St) :=
  if (M_in v1 0 ((s0.1 0 0 33) - 1)) = 0 then (some ((-1), s0)) else (if (M_in v2 1 6) = 0 then (some ((-1), s0)) else (if inb v1 40 = true then if (s0.1 34 0 v1.toNatClampNeg) = v2 then (if inb v1 40 = true then if inb v1 40 = true then if inb (s0.1 35 0 v1.toNatClampNeg) 24 = true then if inb (s0.1 18 0 ((s0.1 35 0 v1.toNatClampNeg).toNatClampNeg)) 12 = true then if v2 = 1 then (if inb (s0.1 36 0 v1.toNatClampNeg) 24 = true then if inb (s0.1 18 0 ((s0.1 36 0 v1.toNatClampNeg).toNatClampNeg)) 12 = true then Option.bind (M_bits ((s0.1 11 0 ((s0.1 18 0 ((s0.1 35 0 v1.toNatClampNeg).toNatClampNeg)).toNatClampNeg)) ^^^ (s0.1 11 0 ((s0.1 18 0 ((s0.1 36 0 v1.toNatClampNeg).toNatClampNeg)).toNatClampNeg)))) (fun r_12 => some (r_12, s0)) else none else none) else (if v2 = 2 then (some ((if (M_has (s0.1 11 0 ((s0.1 18 0 ((s0.1 35 0 v1.toNatClampNeg).toNatClampNeg)).toNatClampNeg)) (s0.1 36 0 v1.toNatClampNeg)) = 0 then 0 else 1 : Int32), s0)) else (if v2 = 3 then (Option.bind (M_settles (s0.1 36 0 v1.toNatClampNeg) s0) (fun r_17 => Option.bind (M_answer (r_17.1 0 0 28) (s0.1 11 0 ((s0.1 18 0 ((s0.1 35 0 v1.toNatClampNeg).toNatClampNeg)).toNatClampNeg))) (fun r_18 => some (r_18, r_17)))) else (if v2 = 4 then (some ((s0.1 11 0 ((s0.1 18 0 ((s0.1 35 0 v1.toNatClampNeg).toNatClampNeg)).toNatClampNeg)) ^^^ (1 <<< ((s0.1 36 0 v1.toNatClampNeg) &&& 31)), s0)) else (if v2 = 5 then (M_mark_L170 (s0.1 35 0 v1.toNatClampNeg) (s0.1 36 0 v1.toNatClampNeg) 1100 0 0 s0) else (if inb (s0.1 35 0 v1.toNatClampNeg) 24 = true then Option.bind (M_settles (s0.1 17 0 ((s0.1 35 0 v1.toNatClampNeg).toNatClampNeg)) s0) (fun r_43 => Option.bind (M_costOf (s0.1 35 0 v1.toNatClampNeg) (r_43.1 0 0 28) r_43) (fun r_44 => some (r_44, r_43))) else none))))) else none else none else none else none) else (Option.bind (M_meets 3 s0) (fun r_45 => some (r_45.1, r_45.2))) else none))
set_option maxHeartbeats 4000000 in
set_option maxRecDepth 100000 in
theorem t_X12_mark_J214 {x : Ctx} {w : Wp} {v3_30 : Int32} {v4_31 : Int32} {v7_32 : Int32} {t_33 : Int32} {t_34 : Int32} {s_35 : St} {z : Int32 × St}  {B170 : Int32 → Int32 → St → Option (Int32 × St)} (hB170 : ∀ (u6_36 : Int32) (u7_37 : Int32) (s_38 : St), B170 u6_36 u7_37 s_38 = some z → V x WM w 8 (QM x WM w (some (.int z.1)) z.2) s_38 170 [(0, .ref (wa w 0 0)), (3, .int v3_30), (4, .int v4_31), (6, .int u6_36), (7, .int u7_37)] []) (C : Cx x WM w cX12_mark 8 RX12 7 (some .int)) (h : M_mark_J214 B170 v3_30 v4_31 v7_32 t_33 t_34 s_35 = some z) : V x WM w 8 (QM x WM w (some (.int z.1)) z.2) s_35 214 [(0, .ref (wa w 0 0)), (3, .int v3_30), (4, .int v4_31), (7, .int v7_32)] [.int t_33, .int t_34] := by
  unfold M_mark_J214 at h
  refine r_iadd C dX12_mark_214 ?_
  refine r_istore C dX12_mark_215 (Nat.le_of_ble_eq_true rfl) (L' := [(6, _), (0, _), (3, _), (4, _), (7, _)]) rfl ?_
  refine r_iinc (v := v7_32 + 1) C dX12_mark_217 (j := 4) rfl rfl (Nat.le_of_ble_eq_true rfl) (L' := [(7, _), (6, _), (0, _), (3, _), (4, _)]) rfl ?_
  refine r_goto (tgt := 170) C dX12_mark_220 (by decide) ?_
  refine r_sub [2, 3, 4, 1, 0] rfl ?_
  exact hB170 _ _ _ h
set_option maxHeartbeats 4000000 in
set_option maxRecDepth 100000 in
theorem t_X12_mark_L170 {x : Ctx} {w : Wp} {v3_21 : Int32} {v4_22 : Int32} {z : Int32 × St}    (C : Cx x WM w cX12_mark 8 RX12 7 (some .int)) : ∀ (n : Nat) (v6_23 : Int32) (v7_24 : Int32) (s_25 : St), M_mark_L170 v3_21 v4_22 n v6_23 v7_24 s_25 = some z → V x WM w 8 (QM x WM w (some (.int z.1)) z.2) s_25 170 [(0, .ref (wa w 0 0)), (3, .int v3_21), (4, .int v4_22), (6, .int v6_23), (7, .int v7_24)] [] := by
  intro n
  induction n with
  | zero => intro v6_23 v7_24 s_25 h; cases h
  | succ n ih =>
    intro v6_23 v7_24 s_25 h
    unfold M_mark_L170 at h
    refine r_iload C dX12_mark_170 4 rfl ?_
    refine r_aload_n C dX12_mark_172 rfl 0 rfl ?_
    refine gfX12_131 C dX12_mark_173 ?_
    refine r_icmp_ge (tgt := 223) C dX12_mark_176 (by decide) (fun c_26 => ?_) (fun c_26 => ?_)
    · have h := ip h c_26
      refine r_iload C dX12_mark_223 3 rfl ?_
      cases h
      exact r_iret C dX12_mark_225
    · have h := iq h c_26
      refine r_iload C dX12_mark_179 3 rfl ?_
      refine r_aload_n C dX12_mark_181 rfl 0 rfl ?_
      refine gfX12_44 C dX12_mark_182 ?_
      refine r_iload C dX12_mark_185 4 rfl ?_
      obtain ⟨g_27, h⟩ := gdE h
      refine ldM_17 C g_27 dX12_mark_187 ?_
      refine r_aload_n C dX12_mark_188 rfl 0 rfl ?_
      refine gfX12_44 C dX12_mark_189 ?_
      refine r_iload_n C dX12_mark_192 rfl 1 rfl ?_
      obtain ⟨g_28, h⟩ := gdE h
      refine ldM_17 C g_28 dX12_mark_193 ?_
      refine r_icmp_ne (tgt := 213) C dX12_mark_194 (by decide) (fun c_29 => ?_) (fun c_29 => ?_)
      · have h := iq h c_29
        refine r_iconst (v := 0) C dX12_mark_213 (by decide) ?_
        refine r_sub [0, 1, 2, 4] rfl ?_
        exact t_X12_mark_J214 ih C h
      · have h := ip h c_29
        refine r_aload_n C dX12_mark_197 rfl 0 rfl ?_
        refine gfX12_50 C dX12_mark_198 ?_
        refine r_iload C dX12_mark_201 4 rfl ?_
        obtain ⟨g_39, h⟩ := gdE h
        refine ldM_19 C g_39 dX12_mark_203 ?_
        refine r_iload C dX12_mark_204 2 rfl ?_
        refine r_em (st := [.int v6_23]) 214 ((if (s_25.1 19 0 v7_24.toNatClampNeg) < v4_22 then 0 else 1 : Int32)) (fun hM_41 => ?_) ?_
        · refine r_icmp_lt (tgt := 213) C dX12_mark_206 (by decide) (fun c_40 => ?_) (fun c_40 => ?_)
          · refine r_iconst (v := 0) C dX12_mark_213 (by decide) ?_
            exact (em_pos c_40 hM_41)
          · refine r_iconst (v := 1) C dX12_mark_209 (by decide) ?_
            refine r_goto (tgt := 214) C dX12_mark_210 (by decide) ?_
            exact (em_neg c_40 hM_41)
        refine r_iadd C dX12_mark_214 ?_
        refine r_istore C dX12_mark_215 (Nat.le_of_ble_eq_true rfl) (L' := [(6, _), (0, _), (3, _), (4, _), (7, _)]) rfl ?_
        refine r_iinc (v := v7_24 + 1) C dX12_mark_217 (j := 4) rfl rfl (Nat.le_of_ble_eq_true rfl) (L' := [(7, _), (6, _), (0, _), (3, _), (4, _)]) rfl ?_
        refine r_goto (tgt := 170) C dX12_mark_220 (by decide) ?_
        refine r_sub [2, 3, 4, 1, 0] rfl ?_
        exact ih _ _ _ h
set_option maxHeartbeats 4000000 in
set_option maxRecDepth 100000 in
theorem m_X12_mark {l : Launch} {w : Wp} {v1 : Int32} {v2 : Int32}  {s0 : St} {z : Int32 × St} (h : M_mark v1 v2 s0 = some z) : Cm l yX12_mark (.code yX12_mark cX12_mark 8 (some .int)) 7 WM w [.ref (wa w 0 0), .int v1, .int v2] s0 (some (.int z.1)) z.2 := by
  refine Cm.of (own := RX12) (by decide +kernel) rfl (Nat.le_of_ble_eq_true rfl) (L := [(0, .ref (wa w 0 0)), (1, .int v1), (2, .int v2)]) rfl KoM (fun x hl C => ?_)
  subst hl
  unfold M_mark at h
  refine r_iload_n C dX12_mark_0 rfl 1 rfl ?_
  refine r_iconst (v := 0) C dX12_mark_1 (by decide) ?_
  refine r_aload_n C dX12_mark_2 rfl 0 rfl ?_
  refine gfX12_265 C dX12_mark_3 ?_
  refine r_iconst (v := 1) C dX12_mark_6 (by decide) ?_
  refine r_isub C dX12_mark_7 ?_
  refine kX12_97 C (m_X12_in rfl) (by decide) (Nat.le_of_ble_eq_true rfl) dX12_mark_8 ?_
  refine r_if_eq (tgt := 24) C dX12_mark_11 (by decide) (fun c_1 => ?_) (fun c_1 => ?_)
  · have h := ip h c_1
    refine r_iconst (v := (-1)) C dX12_mark_24 (by decide) ?_
    cases h
    exact r_iret C dX12_mark_25
  · have h := iq h c_1
    refine r_iload_n C dX12_mark_14 rfl 2 rfl ?_
    refine r_iconst (v := 1) C dX12_mark_15 (by decide) ?_
    refine r_bipush (v := 6) C dX12_mark_16 (by decide) ?_
    refine kX12_97 C (m_X12_in rfl) (by decide) (Nat.le_of_ble_eq_true rfl) dX12_mark_18 ?_
    refine r_if_ne (tgt := 26) C dX12_mark_21 (by decide) (fun c_2 => ?_) (fun c_2 => ?_)
    · have h := iq h c_2
      refine r_aload_n C dX12_mark_26 rfl 0 rfl ?_
      refine gfX12_75 C dX12_mark_27 ?_
      refine r_iload_n C dX12_mark_30 rfl 1 rfl ?_
      obtain ⟨g_3, h⟩ := gdE h
      refine ldM_34 C g_3 dX12_mark_31 ?_
      refine r_iload_n C dX12_mark_32 rfl 2 rfl ?_
      refine r_icmp_eq (tgt := 42) C dX12_mark_33 (by decide) (fun c_4 => ?_) (fun c_4 => ?_)
      · have h := ip h c_4
        refine r_aload_n C dX12_mark_42 rfl 0 rfl ?_
        refine gfX12_78 C dX12_mark_43 ?_
        refine r_iload_n C dX12_mark_46 rfl 1 rfl ?_
        obtain ⟨g_5, h⟩ := gdE h
        refine ldM_35 C g_5 dX12_mark_47 ?_
        refine r_istore_n C dX12_mark_48 rfl (Nat.le_of_ble_eq_true rfl) (L' := [(3, _), (0, _), (1, _), (2, _)]) rfl ?_
        refine r_aload_n C dX12_mark_49 rfl 1 rfl ?_
        refine gfX12_81 C dX12_mark_50 ?_
        refine r_iload_n C dX12_mark_53 rfl 2 rfl ?_
        obtain ⟨g_6, h⟩ := gdE h
        refine ldM_36 C g_6 dX12_mark_54 ?_
        refine r_istore C dX12_mark_55 (Nat.le_of_ble_eq_true rfl) (L' := [(4, _), (3, _), (0, _), (1, _), (2, _)]) rfl ?_
        refine r_aload_n C dX12_mark_57 rfl 2 rfl ?_
        refine gfX12_32 C dX12_mark_58 ?_
        refine r_aload_n C dX12_mark_61 rfl 2 rfl ?_
        refine gfX12_47 C dX12_mark_62 ?_
        refine r_iload_n C dX12_mark_65 rfl 1 rfl ?_
        obtain ⟨g_7, h⟩ := gdE h
        refine ldM_18 C g_7 dX12_mark_66 ?_
        obtain ⟨g_8, h⟩ := gdE h
        refine ldM_11 C g_8 dX12_mark_67 ?_
        refine r_istore C dX12_mark_68 (Nat.le_of_ble_eq_true rfl) (L' := [(5, _), (4, _), (3, _), (0, _), (1, _), (2, _)]) rfl ?_
        refine r_iconst (v := 0) C dX12_mark_70 (by decide) ?_
        refine r_istore C dX12_mark_71 (Nat.le_of_ble_eq_true rfl) (L' := [(6, _), (5, _), (4, _), (3, _), (0, _), (1, _), (2, _)]) rfl ?_
        refine r_iload_n C dX12_mark_73 rfl 6 rfl ?_
        by_cases c_9 : v2 = 1
        · have h := ip h c_9
          refine r_tabIn (tgt := 108) C dX12_mark_74 c_9 (by decide) (by decide) rfl (by decide) ?_
          refine r_iload C dX12_mark_108 1 rfl ?_
          refine r_aload_n C dX12_mark_110 rfl 4 rfl ?_
          refine gfX12_32 C dX12_mark_111 ?_
          refine r_aload_n C dX12_mark_114 rfl 4 rfl ?_
          refine gfX12_47 C dX12_mark_115 ?_
          refine r_iload C dX12_mark_118 2 rfl ?_
          obtain ⟨g_10, h⟩ := gdE h
          refine ldM_18 C g_10 dX12_mark_120 ?_
          obtain ⟨g_11, h⟩ := gdE h
          refine ldM_11 C g_11 dX12_mark_121 ?_
          refine r_ixor C dX12_mark_122 ?_
          obtain ⟨r_12, er_12, h⟩ := bdE h
          refine kX12_256 C (m_X12_bits er_12) (by decide) (Nat.le_of_ble_eq_true rfl) dX12_mark_123 ?_
          cases h
          exact r_iret C dX12_mark_126
        have h := iq h c_9
        by_cases c_13 : v2 = 2
        · have h := ip h c_13
          refine r_tabIn (tgt := 127) C dX12_mark_74 c_13 (by decide) (by decide) rfl (by decide) ?_
          refine r_iload C dX12_mark_127 1 rfl ?_
          refine r_iload C dX12_mark_129 2 rfl ?_
          refine kX12_187 C (m_X12_has rfl) (by decide) (Nat.le_of_ble_eq_true rfl) dX12_mark_131 ?_
          refine r_em (st := []) 142 ((if (M_has (s0.1 11 0 ((s0.1 18 0 ((s0.1 35 0 v1.toNatClampNeg).toNatClampNeg)).toNatClampNeg)) (s0.1 36 0 v1.toNatClampNeg)) = 0 then 0 else 1 : Int32)) (fun hM_15 => ?_) ?_
          · refine r_if_eq (tgt := 141) C dX12_mark_134 (by decide) (fun c_14 => ?_) (fun c_14 => ?_)
            · refine r_iconst (v := 0) C dX12_mark_141 (by decide) ?_
              exact (em_pos c_14 hM_15)
            · refine r_iconst (v := 1) C dX12_mark_137 (by decide) ?_
              refine r_goto (tgt := 142) C dX12_mark_138 (by decide) ?_
              exact (em_neg c_14 hM_15)
          cases h
          exact r_iret C dX12_mark_142
        have h := iq h c_13
        by_cases c_16 : v2 = 3
        · have h := ip h c_16
          refine r_tabIn (tgt := 143) C dX12_mark_74 c_16 (by decide) (by decide) rfl (by decide) ?_
          refine r_aload_n C dX12_mark_143 rfl 4 rfl ?_
          refine r_iload C dX12_mark_144 2 rfl ?_
          obtain ⟨r_17, er_17, h⟩ := bdE h
          refine kX12_231 C (m_X12_settles er_17) (by decide) (Nat.le_of_ble_eq_true rfl) dX12_mark_146 ?_
          refine r_aload_n C dX12_mark_149 rfl 4 rfl ?_
          refine gfX12_212 C dX12_mark_150 ?_
          refine r_iload C dX12_mark_153 1 rfl ?_
          obtain ⟨r_18, er_18, h⟩ := bdE h
          refine kX12_193 C (m_X12_answer er_18) (by decide) (Nat.le_of_ble_eq_true rfl) dX12_mark_155 ?_
          cases h
          exact r_iret C dX12_mark_158
        have h := iq h c_16
        by_cases c_19 : v2 = 4
        · have h := ip h c_19
          refine r_tabIn (tgt := 159) C dX12_mark_74 c_19 (by decide) (by decide) rfl (by decide) ?_
          refine r_iload C dX12_mark_159 1 rfl ?_
          refine r_iconst (v := 1) C dX12_mark_161 (by decide) ?_
          refine r_iload C dX12_mark_162 2 rfl ?_
          refine r_ishl C dX12_mark_164 ?_
          refine r_ixor C dX12_mark_165 ?_
          cases h
          exact r_iret C dX12_mark_166
        have h := iq h c_19
        by_cases c_20 : v2 = 5
        · have h := ip h c_20
          refine r_tabIn (tgt := 167) C dX12_mark_74 c_20 (by decide) (by decide) rfl (by decide) ?_
          refine r_iconst (v := 0) C dX12_mark_167 (by decide) ?_
          refine r_istore C dX12_mark_168 (Nat.le_of_ble_eq_true rfl) (L' := [(7, _), (6, _), (5, _), (4, _), (3, _), (0, _), (1, _), (2, _)]) rfl ?_
          refine r_sub [5, 4, 3, 1, 0] rfl ?_
          exact t_X12_mark_L170 C _ _ _ _ h
        have h := iq h c_20
        refine r_tabOut (tgt := 226) C dX12_mark_74 (by have q0 := tq_ne (k := 1) (by decide) c_9; have q1 := tq_ne (k := 2) (by decide) c_13; have q2 := tq_ne (k := 3) (by decide) c_16; have q3 := tq_ne (k := 4) (by decide) c_19; have q4 := tq_ne (k := 5) (by decide) c_20; omega) (by decide) ?_
        refine r_aload_n C dX12_mark_226 rfl 4 rfl ?_
        refine r_aload_n C dX12_mark_227 rfl 4 rfl ?_
        refine gfX12_44 C dX12_mark_228 ?_
        refine r_iload_n C dX12_mark_231 rfl 3 rfl ?_
        obtain ⟨g_42, h⟩ := gdE h
        refine ldM_17 C g_42 dX12_mark_232 ?_
        obtain ⟨r_43, er_43, h⟩ := bdE h
        refine kX12_231 C (m_X12_settles er_43) (by decide) (Nat.le_of_ble_eq_true rfl) dX12_mark_233 ?_
        refine r_aload_n C dX12_mark_236 rfl 4 rfl ?_
        refine r_iload_n C dX12_mark_237 rfl 3 rfl ?_
        refine r_aload_n C dX12_mark_238 rfl 4 rfl ?_
        refine gfX12_212 C dX12_mark_239 ?_
        obtain ⟨r_44, er_44, h⟩ := bdE h
        refine kX12_202 C (m_X12_costOf er_44) (by decide) (Nat.le_of_ble_eq_true rfl) dX12_mark_242 ?_
        cases h
        exact r_iret C dX12_mark_245
      · have h := iq h c_4
        refine r_aload_n C dX12_mark_36 rfl 0 rfl ?_
        refine r_iconst (v := 3) C dX12_mark_37 (by decide) ?_
        obtain ⟨r_45, er_45, h⟩ := bdE h
        refine kX12_105 C (m_X12_meets er_45) (by decide) (Nat.le_of_ble_eq_true rfl) dX12_mark_38 ?_
        cases h
        exact r_iret C dX12_mark_41
    · have h := ip h c_2
      refine r_iconst (v := (-1)) C dX12_mark_24 (by decide) ?_
      cases h
      exact r_iret C dX12_mark_25
def M_doesAnswer_J208  (v1_24 : Int32) (v2_25 : Int32) (v3_26 : Int32) (v4_27 : Int32) (v5_28 : Int32)  (s_29 : St) : Option (Int32 × St) :=
  if inb v1_24 40 = true then if (s_29.1 34 0 v1_24.toNatClampNeg) = 5 then (if inb v3_26 24 = true then if inb v2_25 24 = true then if (s_29.1 17 0 v3_26.toNatClampNeg) = (s_29.1 17 0 v2_25.toNatClampNeg) then (if inb v3_26 24 = true then if inb v2_25 24 = true then some ((if (if v4_27 ≤ (s_29.1 19 0 v3_26.toNatClampNeg) then 0 else 1 : Int32) = (if v4_27 ≤ (s_29.1 19 0 v2_25.toNatClampNeg) then 0 else 1 : Int32) then 0 else 1 : Int32), s_29) else none else none) else (some (0, s_29)) else none else none) else (if v5_28 = 0 ∨ v5_28 = 1 then some (v5_28, s_29) else none) else none
def M_doesAnswer_J200 (B146 : Int32 → Int32 → St → Option (Int32 × St)) (v1_55 : Int32) (v2_56 : Int32) (v3_57 : Int32) (v4_58 : Int32) (v6_59 : Int32) (t_60 : Int32) (s_61 : St) : Option (Int32 × St) :=
  B146 t_60 (v6_59 + 1) s_61
def M_doesAnswer_L146 (K208 : Int32 → St → Option (Int32 × St)) (v1_46 : Int32) (v2_47 : Int32) (v3_48 : Int32) (v4_49 : Int32) : Nat → Int32 → Int32 → St → Option (Int32 × St)
  | 0, _, _, _ => none
  | n + 1, v5_50, v6_51, s_52 => if 244 ≤ v6_51 then (K208 v5_50 s_52) else (if v5_50 = 0 then (if inb v6_51 244 = true then if (s_52.1 31 0 v6_51.toNatClampNeg) = 0 then (M_doesAnswer_J200 (M_doesAnswer_L146 K208 v1_46 v2_47 v3_48 v4_49 n) v1_46 v2_47 v3_48 v4_49 v6_51 0 s_52) else (if inb v3_48 24 = true then if inb (s_52.1 18 0 v3_48.toNatClampNeg) 12 = true then Option.bind (M_doesFit v3_48 ((s_52.1 11 0 ((s_52.1 18 0 v3_48.toNatClampNeg).toNatClampNeg)) ^^^ (1 <<< (v4_49 &&& 31))) v6_51 s_52) (fun r_69 => (M_doesAnswer_L146 K208 v1_46 v2_47 v3_48 v4_49 n) (if r_69 = 0 then 0 else 1 : Int32) (v6_51 + 1) s_52) else none else none) else none) else (M_doesAnswer_J200 (M_doesAnswer_L146 K208 v1_46 v2_47 v3_48 v4_49 n) v1_46 v2_47 v3_48 v4_49 v6_51 1 s_52))
def M_doesAnswer_J123  (v1_16 : Int32) (v2_17 : Int32) (v3_18 : Int32) (v4_19 : Int32) (v5_20 : Int32)  (s_21 : St) : Option (Int32 × St) :=
  if inb v1_16 40 = true then if (s_21.1 34 0 v1_16.toNatClampNeg) = 4 then (if inb v2_17 24 = true then Option.bind (M_setCheap (s_21.1 17 0 v2_17.toNatClampNeg) s_21) (fun r_45 => M_doesAnswer_L146 (fun (v5_74 : Int32) (s_75 : St) => M_doesAnswer_J208 v1_16 v2_17 v3_18 v4_19 v5_74 s_75) v1_16 v2_17 v3_18 v4_19 1100 v5_20 0 r_45) else none) else (M_doesAnswer_J208 v1_16 v2_17 v3_18 v4_19 v5_20 s_21) else none
def M_doesAnswer_J73  (v1_8 : Int32) (v2_9 : Int32) (v3_10 : Int32) (v4_11 : Int32) (v5_12 : Int32)  (s_13 : St) : Option (Int32 × St) :=
  if inb v1_8 40 = true then if (s_13.1 34 0 v1_8.toNatClampNeg) = 3 then (Option.bind (M_settles v4_11 s_13) (fun r_76 => if inb v2_9 24 = true then if inb (r_76.1 18 0 v2_9.toNatClampNeg) 12 = true then Option.bind (M_answer (r_76.1 0 0 28) (r_76.1 11 0 ((r_76.1 18 0 v2_9.toNatClampNeg).toNatClampNeg))) (fun r_79 => if inb v2_9 24 = true then M_doesAnswer_J123 v1_8 v2_9 v3_10 v4_11 (if r_79 = (r_76.1 20 0 v2_9.toNatClampNeg) then 1 else 0 : Int32) r_76 else none) else none else none)) else (M_doesAnswer_J123 v1_8 v2_9 v3_10 v4_11 v5_12 s_13) else none
def M_doesAnswer (v1 : Int32) (v2 : Int32) (s0 : St) : Option (Int32 × St) :=
  if inb v1 40 = true then if inb v1 40 = true then if inb v1 40 = true then if inb v1 40 = true then if (s0.1 34 0 v1.toNatClampNeg) = 2 then (if inb (s0.1 35 0 v1.toNatClampNeg) 24 = true then if inb (s0.1 18 0 ((s0.1 35 0 v1.toNatClampNeg).toNatClampNeg)) 12 = true then if inb v2 24 = true then if inb (s0.1 18 0 v2.toNatClampNeg) 12 = true then M_doesAnswer_J73 v1 v2 (s0.1 35 0 v1.toNatClampNeg) (s0.1 36 0 v1.toNatClampNeg) (M_has ((s0.1 11 0 ((s0.1 18 0 ((s0.1 35 0 v1.toNatClampNeg).toNatClampNeg)).toNatClampNeg)) ^^^ (s0.1 11 0 ((s0.1 18 0 v2.toNatClampNeg).toNatClampNeg))) (s0.1 36 0 v1.toNatClampNeg)) s0 else none else none else none else none) else (M_doesAnswer_J73 v1 v2 (s0.1 35 0 v1.toNatClampNeg) (s0.1 36 0 v1.toNatClampNeg) (if (s0.1 34 0 v1.toNatClampNeg) = 6 then 1 else 0 : Int32) s0) else none else none else none else none
set_option maxHeartbeats 4000000 in
set_option maxRecDepth 100000 in
theorem t_X12_doesAnswer_J208 {x : Ctx} {w : Wp} {v1_24 : Int32} {v2_25 : Int32} {v3_26 : Int32} {v4_27 : Int32} {v5_28 : Int32}  {s_29 : St} {z : Int32 × St}    (C : Cx x WM w cX12_doesAnswer 7 RX12 7 (some .boolean)) (h : M_doesAnswer_J208 v1_24 v2_25 v3_26 v4_27 v5_28 s_29 = some z) : V x WM w 7 (QM x WM w (some (.int z.1)) z.2) s_29 208 [(0, .ref (wa w 0 0)), (1, .int v1_24), (2, .int v2_25), (3, .int v3_26), (4, .int v4_27), (5, .int v5_28)] [] := by
  unfold M_doesAnswer_J208 at h
  refine r_aload_n C dX12_doesAnswer_208 rfl 0 rfl ?_
  refine gfX12_75 C dX12_doesAnswer_209 ?_
  refine r_iload_n C dX12_doesAnswer_212 rfl 1 rfl ?_
  obtain ⟨g_30, h⟩ := gdE h
  refine ldM_34 C g_30 dX12_doesAnswer_213 ?_
  refine r_iconst (v := 5) C dX12_doesAnswer_214 (by decide) ?_
  refine r_icmp_ne (tgt := 275) C dX12_doesAnswer_215 (by decide) (fun c_31 => ?_) (fun c_31 => ?_)
  · have h := iq h c_31
    refine r_iload C dX12_doesAnswer_275 5 rfl ?_
    obtain ⟨g_32, h⟩ := gdE h
    cases h
    exact r_zret (v := v5_28) C (nb_01 g_32) dX12_doesAnswer_277
  · have h := ip h c_31
    refine r_aload_n C dX12_doesAnswer_218 rfl 0 rfl ?_
    refine gfX12_44 C dX12_doesAnswer_219 ?_
    refine r_iload_n C dX12_doesAnswer_222 rfl 3 rfl ?_
    obtain ⟨g_33, h⟩ := gdE h
    refine ldM_17 C g_33 dX12_doesAnswer_223 ?_
    refine r_aload_n C dX12_doesAnswer_224 rfl 0 rfl ?_
    refine gfX12_44 C dX12_doesAnswer_225 ?_
    refine r_iload_n C dX12_doesAnswer_228 rfl 2 rfl ?_
    obtain ⟨g_34, h⟩ := gdE h
    refine ldM_17 C g_34 dX12_doesAnswer_229 ?_
    refine r_icmp_ne (tgt := 272) C dX12_doesAnswer_230 (by decide) (fun c_35 => ?_) (fun c_35 => ?_)
    · have h := iq h c_35
      refine r_iconst (v := 0) C dX12_doesAnswer_272 (by decide) ?_
      refine r_istore C dX12_doesAnswer_273 (Nat.le_of_ble_eq_true rfl) (L' := [(5, _), (0, _), (1, _), (2, _), (3, _), (4, _)]) rfl ?_
      refine r_iload C dX12_doesAnswer_275 0 rfl ?_
      cases h
      exact r_zret (v := 0) C rfl dX12_doesAnswer_277
    · have h := ip h c_35
      refine r_aload_n C dX12_doesAnswer_233 rfl 0 rfl ?_
      refine gfX12_50 C dX12_doesAnswer_234 ?_
      refine r_iload_n C dX12_doesAnswer_237 rfl 3 rfl ?_
      obtain ⟨g_36, h⟩ := gdE h
      refine ldM_19 C g_36 dX12_doesAnswer_238 ?_
      refine r_iload C dX12_doesAnswer_239 4 rfl ?_
      refine r_em (st := []) 249 ((if v4_27 ≤ (s_29.1 19 0 v3_26.toNatClampNeg) then 0 else 1 : Int32)) (fun hM_38 => ?_) ?_
      · refine r_icmp_ge (tgt := 248) C dX12_doesAnswer_241 (by decide) (fun c_37 => ?_) (fun c_37 => ?_)
        · refine r_iconst (v := 0) C dX12_doesAnswer_248 (by decide) ?_
          exact (em_pos c_37 hM_38)
        · refine r_iconst (v := 1) C dX12_doesAnswer_244 (by decide) ?_
          refine r_goto (tgt := 249) C dX12_doesAnswer_245 (by decide) ?_
          exact (em_neg c_37 hM_38)
      refine r_aload_n C dX12_doesAnswer_249 rfl 0 rfl ?_
      refine gfX12_50 C dX12_doesAnswer_250 ?_
      refine r_iload_n C dX12_doesAnswer_253 rfl 2 rfl ?_
      obtain ⟨g_39, h⟩ := gdE h
      refine ldM_19 C g_39 dX12_doesAnswer_254 ?_
      refine r_iload C dX12_doesAnswer_255 4 rfl ?_
      refine r_em (st := [.int (if v4_27 ≤ (s_29.1 19 0 v3_26.toNatClampNeg) then 0 else 1 : Int32)]) 265 ((if v4_27 ≤ (s_29.1 19 0 v2_25.toNatClampNeg) then 0 else 1 : Int32)) (fun hM_41 => ?_) ?_
      · refine r_icmp_ge (tgt := 264) C dX12_doesAnswer_257 (by decide) (fun c_40 => ?_) (fun c_40 => ?_)
        · refine r_iconst (v := 0) C dX12_doesAnswer_264 (by decide) ?_
          exact (em_pos c_40 hM_41)
        · refine r_iconst (v := 1) C dX12_doesAnswer_260 (by decide) ?_
          refine r_goto (tgt := 265) C dX12_doesAnswer_261 (by decide) ?_
          exact (em_neg c_40 hM_41)
      refine r_em (st := []) 273 ((if (if v4_27 ≤ (s_29.1 19 0 v3_26.toNatClampNeg) then 0 else 1 : Int32) = (if v4_27 ≤ (s_29.1 19 0 v2_25.toNatClampNeg) then 0 else 1 : Int32) then 0 else 1 : Int32)) (fun hM_43 => ?_) ?_
      · refine r_icmp_eq (tgt := 272) C dX12_doesAnswer_265 (by decide) (fun c_42 => ?_) (fun c_42 => ?_)
        · refine r_iconst (v := 0) C dX12_doesAnswer_272 (by decide) ?_
          exact (em_pos c_42 hM_43)
        · refine r_iconst (v := 1) C dX12_doesAnswer_268 (by decide) ?_
          refine r_goto (tgt := 273) C dX12_doesAnswer_269 (by decide) ?_
          exact (em_neg c_42 hM_43)
      refine r_istore C dX12_doesAnswer_273 (Nat.le_of_ble_eq_true rfl) (L' := [(5, _), (0, _), (1, _), (2, _), (3, _), (4, _)]) rfl ?_
      refine r_iload C dX12_doesAnswer_275 0 rfl ?_
      cases h
      exact r_zret (v := (if (if v4_27 ≤ (s_29.1 19 0 v3_26.toNatClampNeg) then 0 else 1 : Int32) = (if v4_27 ≤ (s_29.1 19 0 v2_25.toNatClampNeg) then 0 else 1 : Int32) then 0 else 1 : Int32)) C (nb_ite rfl rfl) dX12_doesAnswer_277
set_option maxHeartbeats 4000000 in
set_option maxRecDepth 100000 in
theorem t_X12_doesAnswer_J200 {x : Ctx} {w : Wp} {v1_55 : Int32} {v2_56 : Int32} {v3_57 : Int32} {v4_58 : Int32} {v6_59 : Int32} {t_60 : Int32} {s_61 : St} {z : Int32 × St}  {B146 : Int32 → Int32 → St → Option (Int32 × St)} (hB146 : ∀ (u5_62 : Int32) (u6_63 : Int32) (s_64 : St), B146 u5_62 u6_63 s_64 = some z → V x WM w 7 (QM x WM w (some (.int z.1)) z.2) s_64 146 [(0, .ref (wa w 0 0)), (1, .int v1_55), (2, .int v2_56), (3, .int v3_57), (4, .int v4_58), (5, .int u5_62), (6, .int u6_63)] []) (C : Cx x WM w cX12_doesAnswer 7 RX12 7 (some .boolean)) (h : M_doesAnswer_J200 B146 v1_55 v2_56 v3_57 v4_58 v6_59 t_60 s_61 = some z) : V x WM w 7 (QM x WM w (some (.int z.1)) z.2) s_61 200 [(0, .ref (wa w 0 0)), (1, .int v1_55), (2, .int v2_56), (3, .int v3_57), (4, .int v4_58), (6, .int v6_59)] [.int t_60] := by
  unfold M_doesAnswer_J200 at h
  refine r_istore C dX12_doesAnswer_200 (Nat.le_of_ble_eq_true rfl) (L' := [(5, _), (0, _), (1, _), (2, _), (3, _), (4, _), (6, _)]) rfl ?_
  refine r_iinc (v := v6_59 + 1) C dX12_doesAnswer_202 (j := 6) rfl rfl (Nat.le_of_ble_eq_true rfl) (L' := [(6, _), (5, _), (0, _), (1, _), (2, _), (3, _), (4, _)]) rfl ?_
  refine r_goto (tgt := 146) C dX12_doesAnswer_205 (by decide) ?_
  refine r_sub [2, 3, 4, 5, 6, 1, 0] rfl ?_
  exact hB146 _ _ _ h
set_option maxHeartbeats 4000000 in
set_option maxRecDepth 100000 in
theorem t_X12_doesAnswer_L146 {x : Ctx} {w : Wp} {v1_46 : Int32} {v2_47 : Int32} {v3_48 : Int32} {v4_49 : Int32} {z : Int32 × St}  {K208 : Int32 → St → Option (Int32 × St)} (hK208 : ∀ (u5_72 : Int32) (s_73 : St), K208 u5_72 s_73 = some z → V x WM w 7 (QM x WM w (some (.int z.1)) z.2) s_73 208 [(0, .ref (wa w 0 0)), (1, .int v1_46), (2, .int v2_47), (3, .int v3_48), (4, .int v4_49), (5, .int u5_72)] []) (C : Cx x WM w cX12_doesAnswer 7 RX12 7 (some .boolean)) : ∀ (n : Nat) (v5_50 : Int32) (v6_51 : Int32) (s_52 : St), M_doesAnswer_L146 K208 v1_46 v2_47 v3_48 v4_49 n v5_50 v6_51 s_52 = some z → V x WM w 7 (QM x WM w (some (.int z.1)) z.2) s_52 146 [(0, .ref (wa w 0 0)), (1, .int v1_46), (2, .int v2_47), (3, .int v3_48), (4, .int v4_49), (5, .int v5_50), (6, .int v6_51)] [] := by
  intro n
  induction n with
  | zero => intro v5_50 v6_51 s_52 h; cases h
  | succ n ih =>
    intro v5_50 v6_51 s_52 h
    unfold M_doesAnswer_L146 at h
    refine r_iload C dX12_doesAnswer_146 6 rfl ?_
    refine r_sipush (v := 244) C dX12_doesAnswer_148 (by decide) ?_
    refine r_icmp_ge (tgt := 208) C dX12_doesAnswer_151 (by decide) (fun c_53 => ?_) (fun c_53 => ?_)
    · have h := ip h c_53
      refine r_sub [0, 1, 2, 3, 4, 5] rfl ?_
      exact hK208 _ _ h
    · have h := iq h c_53
      refine r_iload C dX12_doesAnswer_154 5 rfl ?_
      refine r_if_ne (tgt := 195) C dX12_doesAnswer_156 (by decide) (fun c_54 => ?_) (fun c_54 => ?_)
      · have h := iq h c_54
        refine r_iconst (v := 1) C dX12_doesAnswer_195 (by decide) ?_
        refine r_goto (tgt := 200) C dX12_doesAnswer_196 (by decide) ?_
        refine r_sub [0, 1, 2, 3, 4, 6] rfl ?_
        exact t_X12_doesAnswer_J200 ih C h
      · have h := ip h c_54
        refine r_aload_n C dX12_doesAnswer_159 rfl 0 rfl ?_
        refine gfX12_68 C dX12_doesAnswer_160 ?_
        refine r_iload C dX12_doesAnswer_163 6 rfl ?_
        obtain ⟨g_65, h⟩ := gdE h
        refine ldM_31 C g_65 dX12_doesAnswer_165 ?_
        refine r_if_eq (tgt := 199) C dX12_doesAnswer_166 (by decide) (fun c_66 => ?_) (fun c_66 => ?_)
        · have h := ip h c_66
          refine r_iconst (v := 0) C dX12_doesAnswer_199 (by decide) ?_
          refine r_sub [0, 1, 2, 3, 4, 6] rfl ?_
          exact t_X12_doesAnswer_J200 ih C h
        · have h := iq h c_66
          refine r_aload_n C dX12_doesAnswer_169 rfl 0 rfl ?_
          refine r_iload_n C dX12_doesAnswer_170 rfl 3 rfl ?_
          refine r_aload_n C dX12_doesAnswer_171 rfl 0 rfl ?_
          refine gfX12_32 C dX12_doesAnswer_172 ?_
          refine r_aload_n C dX12_doesAnswer_175 rfl 0 rfl ?_
          refine gfX12_47 C dX12_doesAnswer_176 ?_
          refine r_iload_n C dX12_doesAnswer_179 rfl 3 rfl ?_
          obtain ⟨g_67, h⟩ := gdE h
          refine ldM_18 C g_67 dX12_doesAnswer_180 ?_
          obtain ⟨g_68, h⟩ := gdE h
          refine ldM_11 C g_68 dX12_doesAnswer_181 ?_
          refine r_iconst (v := 1) C dX12_doesAnswer_182 (by decide) ?_
          refine r_iload C dX12_doesAnswer_183 4 rfl ?_
          refine r_ishl C dX12_doesAnswer_185 ?_
          refine r_ixor C dX12_doesAnswer_186 ?_
          refine r_iload C dX12_doesAnswer_187 6 rfl ?_
          obtain ⟨r_69, er_69, h⟩ := bdE h
          refine kX12_196 C (m_X12_doesFit er_69) (by decide) (Nat.le_of_ble_eq_true rfl) dX12_doesAnswer_189 ?_
          refine r_em (st := []) 200 ((if r_69 = 0 then 0 else 1 : Int32)) (fun hM_71 => ?_) ?_
          · refine r_if_eq (tgt := 199) C dX12_doesAnswer_192 (by decide) (fun c_70 => ?_) (fun c_70 => ?_)
            · refine r_iconst (v := 0) C dX12_doesAnswer_199 (by decide) ?_
              exact (em_pos c_70 hM_71)
            · refine r_iconst (v := 1) C dX12_doesAnswer_195 (by decide) ?_
              refine r_goto (tgt := 200) C dX12_doesAnswer_196 (by decide) ?_
              exact (em_neg c_70 hM_71)
          refine r_istore C dX12_doesAnswer_200 (Nat.le_of_ble_eq_true rfl) (L' := [(5, _), (0, _), (1, _), (2, _), (3, _), (4, _), (6, _)]) rfl ?_
          refine r_iinc (v := v6_51 + 1) C dX12_doesAnswer_202 (j := 6) rfl rfl (Nat.le_of_ble_eq_true rfl) (L' := [(6, _), (5, _), (0, _), (1, _), (2, _), (3, _), (4, _)]) rfl ?_
          refine r_goto (tgt := 146) C dX12_doesAnswer_205 (by decide) ?_
          refine r_sub [2, 3, 4, 5, 6, 1, 0] rfl ?_
          exact ih _ _ _ h
set_option maxHeartbeats 4000000 in
set_option maxRecDepth 100000 in
theorem t_X12_doesAnswer_J123 {x : Ctx} {w : Wp} {v1_16 : Int32} {v2_17 : Int32} {v3_18 : Int32} {v4_19 : Int32} {v5_20 : Int32}  {s_21 : St} {z : Int32 × St}    (C : Cx x WM w cX12_doesAnswer 7 RX12 7 (some .boolean)) (h : M_doesAnswer_J123 v1_16 v2_17 v3_18 v4_19 v5_20 s_21 = some z) : V x WM w 7 (QM x WM w (some (.int z.1)) z.2) s_21 123 [(0, .ref (wa w 0 0)), (1, .int v1_16), (2, .int v2_17), (3, .int v3_18), (4, .int v4_19), (5, .int v5_20)] [] := by
  unfold M_doesAnswer_J123 at h
  refine r_aload_n C dX12_doesAnswer_123 rfl 0 rfl ?_
  refine gfX12_75 C dX12_doesAnswer_124 ?_
  refine r_iload_n C dX12_doesAnswer_127 rfl 1 rfl ?_
  obtain ⟨g_22, h⟩ := gdE h
  refine ldM_34 C g_22 dX12_doesAnswer_128 ?_
  refine r_iconst (v := 4) C dX12_doesAnswer_129 (by decide) ?_
  refine r_icmp_ne (tgt := 208) C dX12_doesAnswer_130 (by decide) (fun c_23 => ?_) (fun c_23 => ?_)
  · have h := iq h c_23
    refine r_sub [0, 1, 2, 3, 4, 5] rfl ?_
    exact t_X12_doesAnswer_J208 C h
  · have h := ip h c_23
    refine r_aload_n C dX12_doesAnswer_133 rfl 0 rfl ?_
    refine r_aload_n C dX12_doesAnswer_134 rfl 0 rfl ?_
    refine gfX12_44 C dX12_doesAnswer_135 ?_
    refine r_iload_n C dX12_doesAnswer_138 rfl 2 rfl ?_
    obtain ⟨g_44, h⟩ := gdE h
    refine ldM_17 C g_44 dX12_doesAnswer_139 ?_
    obtain ⟨r_45, er_45, h⟩ := bdE h
    refine kX12_234 C (m_X12_setCheap er_45) (by decide) (Nat.le_of_ble_eq_true rfl) dX12_doesAnswer_140 ?_
    refine r_iconst (v := 0) C dX12_doesAnswer_143 (by decide) ?_
    refine r_istore C dX12_doesAnswer_144 (Nat.le_of_ble_eq_true rfl) (L' := [(6, _), (0, _), (1, _), (2, _), (3, _), (4, _), (5, _)]) rfl ?_
    refine r_sub [1, 2, 3, 4, 5, 6, 0] rfl ?_
    refine t_X12_doesAnswer_L146 (fun v5_74 s_75 h => ?_) C _ _ _ _ h
    refine r_sub [0, 1, 2, 3, 4, 5] rfl ?_
    exact t_X12_doesAnswer_J208 C h
set_option maxHeartbeats 4000000 in
set_option maxRecDepth 100000 in
theorem t_X12_doesAnswer_J73 {x : Ctx} {w : Wp} {v1_8 : Int32} {v2_9 : Int32} {v3_10 : Int32} {v4_11 : Int32} {v5_12 : Int32}  {s_13 : St} {z : Int32 × St}    (C : Cx x WM w cX12_doesAnswer 7 RX12 7 (some .boolean)) (h : M_doesAnswer_J73 v1_8 v2_9 v3_10 v4_11 v5_12 s_13 = some z) : V x WM w 7 (QM x WM w (some (.int z.1)) z.2) s_13 73 [(0, .ref (wa w 0 0)), (1, .int v1_8), (2, .int v2_9), (3, .int v3_10), (4, .int v4_11), (5, .int v5_12)] [] := by
  unfold M_doesAnswer_J73 at h
  refine r_aload_n C dX12_doesAnswer_73 rfl 0 rfl ?_
  refine gfX12_75 C dX12_doesAnswer_74 ?_
  refine r_iload_n C dX12_doesAnswer_77 rfl 1 rfl ?_
  obtain ⟨g_14, h⟩ := gdE h
  refine ldM_34 C g_14 dX12_doesAnswer_78 ?_
  refine r_iconst (v := 3) C dX12_doesAnswer_79 (by decide) ?_
  refine r_icmp_ne (tgt := 123) C dX12_doesAnswer_80 (by decide) (fun c_15 => ?_) (fun c_15 => ?_)
  · have h := iq h c_15
    refine r_sub [0, 1, 2, 3, 4, 5] rfl ?_
    exact t_X12_doesAnswer_J123 C h
  · have h := ip h c_15
    refine r_aload_n C dX12_doesAnswer_83 rfl 0 rfl ?_
    refine r_iload C dX12_doesAnswer_84 4 rfl ?_
    obtain ⟨r_76, er_76, h⟩ := bdE h
    refine kX12_231 C (m_X12_settles er_76) (by decide) (Nat.le_of_ble_eq_true rfl) dX12_doesAnswer_86 ?_
    refine r_aload_n C dX12_doesAnswer_89 rfl 0 rfl ?_
    refine gfX12_212 C dX12_doesAnswer_90 ?_
    refine r_aload_n C dX12_doesAnswer_93 rfl 0 rfl ?_
    refine gfX12_32 C dX12_doesAnswer_94 ?_
    refine r_aload_n C dX12_doesAnswer_97 rfl 0 rfl ?_
    refine gfX12_47 C dX12_doesAnswer_98 ?_
    refine r_iload_n C dX12_doesAnswer_101 rfl 2 rfl ?_
    obtain ⟨g_77, h⟩ := gdE h
    refine ldM_18 C g_77 dX12_doesAnswer_102 ?_
    obtain ⟨g_78, h⟩ := gdE h
    refine ldM_11 C g_78 dX12_doesAnswer_103 ?_
    obtain ⟨r_79, er_79, h⟩ := bdE h
    refine kX12_193 C (m_X12_answer er_79) (by decide) (Nat.le_of_ble_eq_true rfl) dX12_doesAnswer_104 ?_
    refine r_aload_n C dX12_doesAnswer_107 rfl 0 rfl ?_
    refine gfX12_53 C dX12_doesAnswer_108 ?_
    refine r_iload_n C dX12_doesAnswer_111 rfl 2 rfl ?_
    obtain ⟨g_80, h⟩ := gdE h
    refine ldM_20 C g_80 dX12_doesAnswer_112 ?_
    refine r_em (st := []) 121 ((if r_79 = (r_76.1 20 0 v2_9.toNatClampNeg) then 1 else 0 : Int32)) (fun hM_82 => ?_) ?_
    · refine r_icmp_ne (tgt := 120) C dX12_doesAnswer_113 (by decide) (fun c_81 => ?_) (fun c_81 => ?_)
      · refine r_iconst (v := 0) C dX12_doesAnswer_120 (by decide) ?_
        exact (em_neg c_81 hM_82)
      · refine r_iconst (v := 1) C dX12_doesAnswer_116 (by decide) ?_
        refine r_goto (tgt := 121) C dX12_doesAnswer_117 (by decide) ?_
        exact (em_pos c_81 hM_82)
    refine r_istore C dX12_doesAnswer_121 (Nat.le_of_ble_eq_true rfl) (L' := [(5, _), (0, _), (1, _), (2, _), (3, _), (4, _)]) rfl ?_
    refine r_sub [1, 2, 3, 4, 5, 0] rfl ?_
    exact t_X12_doesAnswer_J123 C h
set_option maxHeartbeats 4000000 in
set_option maxRecDepth 100000 in
theorem m_X12_doesAnswer {l : Launch} {w : Wp} {v1 : Int32} {v2 : Int32}  {s0 : St} {z : Int32 × St} (h : M_doesAnswer v1 v2 s0 = some z) : Cm l yX12_doesAnswer (.code yX12_doesAnswer cX12_doesAnswer 7 (some .boolean)) 7 WM w [.ref (wa w 0 0), .int v1, .int v2] s0 (some (.int z.1)) z.2 := by
  refine Cm.of (own := RX12) (by decide +kernel) rfl (Nat.le_of_ble_eq_true rfl) (L := [(0, .ref (wa w 0 0)), (1, .int v1), (2, .int v2)]) rfl KoM (fun x hl C => ?_)
  subst hl
  unfold M_doesAnswer at h
  refine r_aload_n C dX12_doesAnswer_0 rfl 0 rfl ?_
  refine gfX12_78 C dX12_doesAnswer_1 ?_
  refine r_iload_n C dX12_doesAnswer_4 rfl 1 rfl ?_
  obtain ⟨g_1, h⟩ := gdE h
  refine ldM_35 C g_1 dX12_doesAnswer_5 ?_
  refine r_istore_n C dX12_doesAnswer_6 rfl (Nat.le_of_ble_eq_true rfl) (L' := [(3, _), (0, _), (1, _), (2, _)]) rfl ?_
  refine r_aload_n C dX12_doesAnswer_7 rfl 1 rfl ?_
  refine gfX12_81 C dX12_doesAnswer_8 ?_
  refine r_iload_n C dX12_doesAnswer_11 rfl 2 rfl ?_
  obtain ⟨g_2, h⟩ := gdE h
  refine ldM_36 C g_2 dX12_doesAnswer_12 ?_
  refine r_istore C dX12_doesAnswer_13 (Nat.le_of_ble_eq_true rfl) (L' := [(4, _), (3, _), (0, _), (1, _), (2, _)]) rfl ?_
  refine r_aload_n C dX12_doesAnswer_15 rfl 2 rfl ?_
  refine gfX12_75 C dX12_doesAnswer_16 ?_
  refine r_iload_n C dX12_doesAnswer_19 rfl 3 rfl ?_
  obtain ⟨g_3, h⟩ := gdE h
  refine ldM_34 C g_3 dX12_doesAnswer_20 ?_
  refine r_bipush (v := 6) C dX12_doesAnswer_21 (by decide) ?_
  refine r_em (st := []) 31 ((if (s0.1 34 0 v1.toNatClampNeg) = 6 then 1 else 0 : Int32)) (fun hM_5 => ?_) ?_
  · refine r_icmp_ne (tgt := 30) C dX12_doesAnswer_23 (by decide) (fun c_4 => ?_) (fun c_4 => ?_)
    · refine r_iconst (v := 0) C dX12_doesAnswer_30 (by decide) ?_
      exact (em_neg c_4 hM_5)
    · refine r_iconst (v := 1) C dX12_doesAnswer_26 (by decide) ?_
      refine r_goto (tgt := 31) C dX12_doesAnswer_27 (by decide) ?_
      exact (em_pos c_4 hM_5)
  refine r_istore C dX12_doesAnswer_31 (Nat.le_of_ble_eq_true rfl) (L' := [(5, _), (4, _), (3, _), (0, _), (1, _), (2, _)]) rfl ?_
  refine r_aload_n C dX12_doesAnswer_33 rfl 3 rfl ?_
  refine gfX12_75 C dX12_doesAnswer_34 ?_
  refine r_iload_n C dX12_doesAnswer_37 rfl 4 rfl ?_
  obtain ⟨g_6, h⟩ := gdE h
  refine ldM_34 C g_6 dX12_doesAnswer_38 ?_
  refine r_iconst (v := 2) C dX12_doesAnswer_39 (by decide) ?_
  refine r_icmp_ne (tgt := 73) C dX12_doesAnswer_40 (by decide) (fun c_7 => ?_) (fun c_7 => ?_)
  · have h := iq h c_7
    refine r_sub [3, 4, 5, 2, 1, 0] rfl ?_
    exact t_X12_doesAnswer_J73 C h
  · have h := ip h c_7
    refine r_aload_n C dX12_doesAnswer_43 rfl 3 rfl ?_
    refine gfX12_32 C dX12_doesAnswer_44 ?_
    refine r_aload_n C dX12_doesAnswer_47 rfl 3 rfl ?_
    refine gfX12_47 C dX12_doesAnswer_48 ?_
    refine r_iload_n C dX12_doesAnswer_51 rfl 2 rfl ?_
    obtain ⟨g_83, h⟩ := gdE h
    refine ldM_18 C g_83 dX12_doesAnswer_52 ?_
    obtain ⟨g_84, h⟩ := gdE h
    refine ldM_11 C g_84 dX12_doesAnswer_53 ?_
    refine r_aload_n C dX12_doesAnswer_54 rfl 3 rfl ?_
    refine gfX12_32 C dX12_doesAnswer_55 ?_
    refine r_aload_n C dX12_doesAnswer_58 rfl 3 rfl ?_
    refine gfX12_47 C dX12_doesAnswer_59 ?_
    refine r_iload_n C dX12_doesAnswer_62 rfl 5 rfl ?_
    obtain ⟨g_85, h⟩ := gdE h
    refine ldM_18 C g_85 dX12_doesAnswer_63 ?_
    obtain ⟨g_86, h⟩ := gdE h
    refine ldM_11 C g_86 dX12_doesAnswer_64 ?_
    refine r_ixor C dX12_doesAnswer_65 ?_
    refine r_iload C dX12_doesAnswer_66 1 rfl ?_
    refine kX12_187 C (m_X12_has rfl) (by decide) (Nat.le_of_ble_eq_true rfl) dX12_doesAnswer_68 ?_
    refine r_istore C dX12_doesAnswer_71 (Nat.le_of_ble_eq_true rfl) (L' := [(5, _), (4, _), (3, _), (0, _), (1, _), (2, _)]) rfl ?_
    refine r_sub [3, 4, 5, 2, 1, 0] rfl ?_
    exact t_X12_doesAnswer_J73 C h
