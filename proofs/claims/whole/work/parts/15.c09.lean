def Q_follow  (s0 : St) : Option (Int32 × St) :=
  Option.bind (Bk_settled s0) (fun r_1 => Option.bind (Pg_readThrough r_1) (fun r_2 => Option.bind (Q_tell (r_2.1 4 0 3) (r_2.1 4 0 2) r_2) (fun r_3 => some (r_3.1, r_3.2))))
set_option maxHeartbeats 4000000 in
set_option maxRecDepth 100000 in
theorem m_X11_follow {l : Launch} {w : Wp}   {s0 : St} {z : Int32 × St} (h : Q_follow s0 = some z) : Cm l yX11_follow (.code yX11_follow cX11_follow 1 (some .int)) 5 WC w [.ref (wa w 0 0)] s0 (some (.int z.1)) z.2 := by
  refine Cm.of (own := RX11) (by decide +kernel) rfl (Nat.le_of_ble_eq_true rfl) (L := [(0, .ref (wa w 0 0))]) rfl KoC (fun x hl C => ?_)
  subst hl
  unfold Q_follow at h
  refine r_aload_n C dX11_follow_0 rfl 0 rfl ?_
  refine gfX11_33 C dX11_follow_1 ?_
  refine r_aload_n C dX11_follow_4 rfl 0 rfl ?_
  refine gfX11_24 C dX11_follow_5 ?_
  obtain ⟨r_1, er_1, h⟩ := bdE h
  refine kX11_188 C (m_X1_settled er_1) (by decide) (Nat.le_of_ble_eq_true rfl) dX11_follow_8 ?_
  obtain ⟨r_2, er_2, h⟩ := bdE h
  refine kX11_312 C (m_X6_readThrough er_2) (by decide) (Nat.le_of_ble_eq_true rfl) dX11_follow_11 ?_
  refine r_aload_n C dX11_follow_14 rfl 0 rfl ?_
  refine r_aload_n C dX11_follow_15 rfl 0 rfl ?_
  refine gfX11_33 C dX11_follow_16 ?_
  refine gfX11_316 C dX11_follow_19 ?_
  refine r_aload_n C dX11_follow_22 rfl 0 rfl ?_
  refine gfX11_33 C dX11_follow_23 ?_
  refine gfX11_319 C dX11_follow_26 ?_
  obtain ⟨r_3, er_3, h⟩ := bdE h
  refine kX11_82 C (m_X11_tell er_3) (by decide) (Nat.le_of_ble_eq_true rfl) dX11_follow_29 ?_
  cases h
  exact r_iret C dX11_follow_32
def Q_law (v1 : Int32) (v2 : Int32) (s0 : St) : Option (Int32 × St) :=
  if (Q_within v1 3) = 0 then (some ((-1), s0)) else (if (Q_within v2 32) = 0 then (some ((-1), s0)) else (Option.bind (Bk_settled s0) (fun r_3 => Option.bind (Ct_ruling v1 v2 r_3) (fun r_4 => if r_4.1 = (-9) then (some ((-9), r_4.2)) else (Option.bind (Q_tell (r_4.2.1 5 0 0) r_4.1 r_4.2) (fun r_6 => some (r_6.1, r_6.2)))))))
set_option maxHeartbeats 4000000 in
set_option maxRecDepth 100000 in
theorem m_X11_law {l : Launch} {w : Wp} {v1 : Int32} {v2 : Int32}  {s0 : St} {z : Int32 × St} (h : Q_law v1 v2 s0 = some z) : Cm l yX11_law (.code yX11_law cX11_law 4 (some .int)) 4 WC w [.ref (wa w 0 0), .int v1, .int v2] s0 (some (.int z.1)) z.2 := by
  refine Cm.of (own := RX11) (by decide +kernel) rfl (Nat.le_of_ble_eq_true rfl) (L := [(0, .ref (wa w 0 0)), (1, .int v1), (2, .int v2)]) rfl KoC (fun x hl C => ?_)
  subst hl
  unfold Q_law at h
  refine r_iload_n C dX11_law_0 rfl 1 rfl ?_
  refine r_iconst (v := 3) C dX11_law_1 (by decide) ?_
  refine kX11_64 C (m_X11_within rfl) (by decide) (Nat.le_of_ble_eq_true rfl) dX11_law_2 ?_
  refine r_if_eq (tgt := 17) C dX11_law_5 (by decide) (fun c_1 => ?_) (fun c_1 => ?_)
  · have h := ip h c_1
    refine r_iconst (v := (-1)) C dX11_law_17 (by decide) ?_
    cases h
    exact r_iret C dX11_law_18
  · have h := iq h c_1
    refine r_iload_n C dX11_law_8 rfl 2 rfl ?_
    refine r_bipush (v := 32) C dX11_law_9 (by decide) ?_
    refine kX11_64 C (m_X11_within rfl) (by decide) (Nat.le_of_ble_eq_true rfl) dX11_law_11 ?_
    refine r_if_ne (tgt := 19) C dX11_law_14 (by decide) (fun c_2 => ?_) (fun c_2 => ?_)
    · have h := iq h c_2
      refine r_aload_n C dX11_law_19 rfl 0 rfl ?_
      refine gfX11_40 C dX11_law_20 ?_
      refine r_iload_n C dX11_law_23 rfl 1 rfl ?_
      refine r_iload_n C dX11_law_24 rfl 2 rfl ?_
      refine r_aload_n C dX11_law_25 rfl 0 rfl ?_
      refine gfX11_24 C dX11_law_26 ?_
      obtain ⟨r_3, er_3, h⟩ := bdE h
      refine kX11_188 C (m_X1_settled er_3) (by decide) (Nat.le_of_ble_eq_true rfl) dX11_law_29 ?_
      obtain ⟨r_4, er_4, h⟩ := bdE h
      refine kX11_322 C (m_X2_ruling er_4) (by decide) (Nat.le_of_ble_eq_true rfl) dX11_law_32 ?_
      refine r_istore_n C dX11_law_35 rfl (Nat.le_of_ble_eq_true rfl) (L' := [(3, _), (0, _), (1, _), (2, _)]) rfl ?_
      refine r_iload_n C dX11_law_36 rfl 0 rfl ?_
      refine r_bipush (v := (-9)) C dX11_law_37 (by decide) ?_
      refine r_icmp_ne (tgt := 47) C dX11_law_39 (by decide) (fun c_5 => ?_) (fun c_5 => ?_)
      · have h := iq h c_5
        refine r_aload_n C dX11_law_47 rfl 1 rfl ?_
        refine r_aload_n C dX11_law_48 rfl 1 rfl ?_
        refine gfX11_40 C dX11_law_49 ?_
        refine gfX11_326 C dX11_law_52 ?_
        refine r_iload_n C dX11_law_55 rfl 0 rfl ?_
        obtain ⟨r_6, er_6, h⟩ := bdE h
        refine kX11_82 C (m_X11_tell er_6) (by decide) (Nat.le_of_ble_eq_true rfl) dX11_law_56 ?_
        cases h
        exact r_iret C dX11_law_59
      · have h := ip h c_5
        refine r_bipush (v := (-9)) C dX11_law_42 (by decide) ?_
        refine r_goto (tgt := 59) C dX11_law_44 (by decide) ?_
        cases h
        exact r_iret C dX11_law_59
    · have h := ip h c_2
      refine r_iconst (v := (-1)) C dX11_law_17 (by decide) ?_
      cases h
      exact r_iret C dX11_law_18
def Q_lawsPart_J67 (B32 : Int32 → Int32 → St → Option (Int32 × St)) (v1_13 : Int32) (v2_14 : Int32) (v4_15 : Int32) (v5_16 : Int32)  (s_17 : St) : Option (Int32 × St) :=
  B32 v4_15 (v5_16 + 1) s_17
def Q_lawsPart_L32  (v1_4 : Int32) (v2_5 : Int32) : Nat → Int32 → Int32 → St → Option (Int32 × St)
  | 0, _, _, _ => none
  | n + 1, v4_6, v5_7, s_8 => if 32 ≤ v5_7 then (some (v4_6, s_8)) else (Option.bind (Ct_ruling v1_4 v5_7 s_8) (fun r_10 => Option.bind (Ct_ruling v2_5 v5_7 r_10.2) (fun r_11 => if r_10.1 = r_11.1 then (Q_lawsPart_J67 (Q_lawsPart_L32 v1_4 v2_5 n) v1_4 v2_5 v4_6 v5_7 r_11.2) else (Q_lawsPart_J67 (Q_lawsPart_L32 v1_4 v2_5 n) v1_4 v2_5 (v4_6 + 1) v5_7 r_11.2))))
def Q_lawsPart (v1 : Int32) (v2 : Int32) (s0 : St) : Option (Int32 × St) :=
  if (Q_within v1 3) = 0 then (some ((-1), s0)) else (if (Q_within v2 3) = 0 then (some ((-1), s0)) else (Option.bind (Bk_settled s0) (fun r_3 => Q_lawsPart_L32 v1 v2 1100 0 0 r_3)))
set_option maxHeartbeats 4000000 in
set_option maxRecDepth 100000 in
theorem t_X11_lawsPart_J67 {x : Ctx} {w : Wp} {v1_13 : Int32} {v2_14 : Int32} {v4_15 : Int32} {v5_16 : Int32}  {s_17 : St} {z : Int32 × St}  {B32 : Int32 → Int32 → St → Option (Int32 × St)} (hB32 : ∀ (u4_18 : Int32) (u5_19 : Int32) (s_20 : St), B32 u4_18 u5_19 s_20 = some z → V x WC w 6 (QM x WC w (some (.int z.1)) z.2) s_20 32 [(0, .ref (wa w 0 0)), (1, .int v1_13), (2, .int v2_14), (3, .ref (wa w 15 0)), (4, .int u4_18), (5, .int u5_19)] []) (C : Cx x WC w cX11_lawsPart 6 RX11 4 (some .int)) (h : Q_lawsPart_J67 B32 v1_13 v2_14 v4_15 v5_16 s_17 = some z) : V x WC w 6 (QM x WC w (some (.int z.1)) z.2) s_17 67 [(0, .ref (wa w 0 0)), (1, .int v1_13), (2, .int v2_14), (3, .ref (wa w 15 0)), (4, .int v4_15), (5, .int v5_16)] [] := by
  unfold Q_lawsPart_J67 at h
  refine r_iinc (v := v5_16 + 1) C dX11_lawsPart_67 (j := 5) rfl rfl (Nat.le_of_ble_eq_true rfl) (L' := [(5, _), (0, _), (1, _), (2, _), (3, _), (4, _)]) rfl ?_
  refine r_goto (tgt := 32) C dX11_lawsPart_70 (by decide) ?_
  refine r_sub [1, 2, 3, 4, 5, 0] rfl ?_
  exact hB32 _ _ _ h
set_option maxHeartbeats 4000000 in
set_option maxRecDepth 100000 in
theorem t_X11_lawsPart_L32 {x : Ctx} {w : Wp} {v1_4 : Int32} {v2_5 : Int32} {z : Int32 × St}    (C : Cx x WC w cX11_lawsPart 6 RX11 4 (some .int)) : ∀ (n : Nat) (v4_6 : Int32) (v5_7 : Int32) (s_8 : St), Q_lawsPart_L32 v1_4 v2_5 n v4_6 v5_7 s_8 = some z → V x WC w 6 (QM x WC w (some (.int z.1)) z.2) s_8 32 [(0, .ref (wa w 0 0)), (1, .int v1_4), (2, .int v2_5), (3, .ref (wa w 15 0)), (4, .int v4_6), (5, .int v5_7)] [] := by
  intro n
  induction n with
  | zero => intro v4_6 v5_7 s_8 h; cases h
  | succ n ih =>
    intro v4_6 v5_7 s_8 h
    unfold Q_lawsPart_L32 at h
    refine r_iload C dX11_lawsPart_32 5 rfl ?_
    refine r_bipush (v := 32) C dX11_lawsPart_34 (by decide) ?_
    refine r_icmp_ge (tgt := 73) C dX11_lawsPart_36 (by decide) (fun c_9 => ?_) (fun c_9 => ?_)
    · have h := ip h c_9
      refine r_iload C dX11_lawsPart_73 4 rfl ?_
      cases h
      exact r_iret C dX11_lawsPart_75
    · have h := iq h c_9
      refine r_aload_n C dX11_lawsPart_39 rfl 0 rfl ?_
      refine gfX11_40 C dX11_lawsPart_40 ?_
      refine r_iload_n C dX11_lawsPart_43 rfl 1 rfl ?_
      refine r_iload C dX11_lawsPart_44 5 rfl ?_
      refine r_aload_n C dX11_lawsPart_46 rfl 3 rfl ?_
      obtain ⟨r_10, er_10, h⟩ := bdE h
      refine kX11_322 C (m_X2_ruling er_10) (by decide) (Nat.le_of_ble_eq_true rfl) dX11_lawsPart_47 ?_
      refine r_aload_n C dX11_lawsPart_50 rfl 0 rfl ?_
      refine gfX11_40 C dX11_lawsPart_51 ?_
      refine r_iload_n C dX11_lawsPart_54 rfl 2 rfl ?_
      refine r_iload C dX11_lawsPart_55 5 rfl ?_
      refine r_aload_n C dX11_lawsPart_57 rfl 3 rfl ?_
      obtain ⟨r_11, er_11, h⟩ := bdE h
      refine kX11_322 C (m_X2_ruling er_11) (by decide) (Nat.le_of_ble_eq_true rfl) dX11_lawsPart_58 ?_
      refine r_icmp_eq (tgt := 67) C dX11_lawsPart_61 (by decide) (fun c_12 => ?_) (fun c_12 => ?_)
      · have h := ip h c_12
        refine r_sub [0, 1, 2, 3, 4, 5] rfl ?_
        exact t_X11_lawsPart_J67 ih C h
      · have h := iq h c_12
        refine r_iinc (v := v4_6 + 1) C dX11_lawsPart_64 (j := 4) rfl rfl (Nat.le_of_ble_eq_true rfl) (L' := [(4, _), (0, _), (1, _), (2, _), (3, _), (5, _)]) rfl ?_
        refine r_sub [1, 2, 3, 4, 0, 5] rfl ?_
        exact t_X11_lawsPart_J67 ih C h
set_option maxHeartbeats 4000000 in
set_option maxRecDepth 100000 in
theorem m_X11_lawsPart {l : Launch} {w : Wp} {v1 : Int32} {v2 : Int32}  {s0 : St} {z : Int32 × St} (h : Q_lawsPart v1 v2 s0 = some z) : Cm l yX11_lawsPart (.code yX11_lawsPart cX11_lawsPart 6 (some .int)) 4 WC w [.ref (wa w 0 0), .int v1, .int v2] s0 (some (.int z.1)) z.2 := by
  refine Cm.of (own := RX11) (by decide +kernel) rfl (Nat.le_of_ble_eq_true rfl) (L := [(0, .ref (wa w 0 0)), (1, .int v1), (2, .int v2)]) rfl KoC (fun x hl C => ?_)
  subst hl
  unfold Q_lawsPart at h
  refine r_iload_n C dX11_lawsPart_0 rfl 1 rfl ?_
  refine r_iconst (v := 3) C dX11_lawsPart_1 (by decide) ?_
  refine kX11_64 C (m_X11_within rfl) (by decide) (Nat.le_of_ble_eq_true rfl) dX11_lawsPart_2 ?_
  refine r_if_eq (tgt := 16) C dX11_lawsPart_5 (by decide) (fun c_1 => ?_) (fun c_1 => ?_)
  · have h := ip h c_1
    refine r_iconst (v := (-1)) C dX11_lawsPart_16 (by decide) ?_
    cases h
    exact r_iret C dX11_lawsPart_17
  · have h := iq h c_1
    refine r_iload_n C dX11_lawsPart_8 rfl 2 rfl ?_
    refine r_iconst (v := 3) C dX11_lawsPart_9 (by decide) ?_
    refine kX11_64 C (m_X11_within rfl) (by decide) (Nat.le_of_ble_eq_true rfl) dX11_lawsPart_10 ?_
    refine r_if_ne (tgt := 18) C dX11_lawsPart_13 (by decide) (fun c_2 => ?_) (fun c_2 => ?_)
    · have h := iq h c_2
      refine r_aload_n C dX11_lawsPart_18 rfl 0 rfl ?_
      refine gfX11_24 C dX11_lawsPart_19 ?_
      obtain ⟨r_3, er_3, h⟩ := bdE h
      refine kX11_188 C (m_X1_settled er_3) (by decide) (Nat.le_of_ble_eq_true rfl) dX11_lawsPart_22 ?_
      refine r_astore_n C dX11_lawsPart_25 rfl (Nat.le_of_ble_eq_true rfl) (L' := [(3, _), (0, _), (1, _), (2, _)]) rfl ?_
      refine r_iconst (v := 0) C dX11_lawsPart_26 (by decide) ?_
      refine r_istore C dX11_lawsPart_27 (Nat.le_of_ble_eq_true rfl) (L' := [(4, _), (3, _), (0, _), (1, _), (2, _)]) rfl ?_
      refine r_iconst (v := 0) C dX11_lawsPart_29 (by decide) ?_
      refine r_istore C dX11_lawsPart_30 (Nat.le_of_ble_eq_true rfl) (L' := [(5, _), (4, _), (3, _), (0, _), (1, _), (2, _)]) rfl ?_
      refine r_sub [3, 4, 5, 2, 1, 0] rfl ?_
      exact t_X11_lawsPart_L32 C _ _ _ _ h
    · have h := ip h c_2
      refine r_iconst (v := (-1)) C dX11_lawsPart_16 (by decide) ?_
      cases h
      exact r_iret C dX11_lawsPart_17
def Q_fresh (v1 : Int32) (v2 : Int32) (s0 : St) : Option (Int32 × St) :=
  if (Bk_hasMaster v1 s0) = 0 then (some ((-1), s0)) else (if (Q_within v2 32) = 0 then (some ((-1), s0)) else (Option.bind (Bk_settled s0) (fun r_3 => if inb v1 8 = true then some (Mi_wouldSay v1.toNatClampNeg v2 r_3, r_3) else none)))
set_option maxHeartbeats 4000000 in
set_option maxRecDepth 100000 in
theorem m_X11_fresh {l : Launch} {w : Wp} {v1 : Int32} {v2 : Int32}  {s0 : St} {z : Int32 × St} (h : Q_fresh v1 v2 s0 = some z) : Cm l yX11_fresh (.code yX11_fresh cX11_fresh 3 (some .int)) 4 WC w [.ref (wa w 0 0), .int v1, .int v2] s0 (some (.int z.1)) z.2 := by
  refine Cm.of (own := RX11) (by decide +kernel) rfl (Nat.le_of_ble_eq_true rfl) (L := [(0, .ref (wa w 0 0)), (1, .int v1), (2, .int v2)]) rfl KoC (fun x hl C => ?_)
  subst hl
  unfold Q_fresh at h
  refine r_aload_n C dX11_fresh_0 rfl 0 rfl ?_
  refine gfX11_24 C dX11_fresh_1 ?_
  refine r_iload_n C dX11_fresh_4 rfl 1 rfl ?_
  refine kX11_111 C (m_X1_hasMaster rfl) (by decide) (Nat.le_of_ble_eq_true rfl) dX11_fresh_5 ?_
  refine r_if_eq (tgt := 20) C dX11_fresh_8 (by decide) (fun c_1 => ?_) (fun c_1 => ?_)
  · have h := ip h c_1
    refine r_iconst (v := (-1)) C dX11_fresh_20 (by decide) ?_
    cases h
    exact r_iret C dX11_fresh_21
  · have h := iq h c_1
    refine r_iload_n C dX11_fresh_11 rfl 2 rfl ?_
    refine r_bipush (v := 32) C dX11_fresh_12 (by decide) ?_
    refine kX11_64 C (m_X11_within rfl) (by decide) (Nat.le_of_ble_eq_true rfl) dX11_fresh_14 ?_
    refine r_if_ne (tgt := 22) C dX11_fresh_17 (by decide) (fun c_2 => ?_) (fun c_2 => ?_)
    · have h := iq h c_2
      refine r_aload_n C dX11_fresh_22 rfl 0 rfl ?_
      refine gfX11_24 C dX11_fresh_23 ?_
      obtain ⟨r_3, er_3, h⟩ := bdE h
      refine kX11_188 C (m_X1_settled er_3) (by decide) (Nat.le_of_ble_eq_true rfl) dX11_fresh_26 ?_
      refine r_iload_n C dX11_fresh_29 rfl 1 rfl ?_
      obtain ⟨g_4, h⟩ := gdE h
      refine la_15 C g_4 dX11_fresh_30 ?_
      refine gfX11_192 C (inb_lt g_4) dX11_fresh_31 ?_
      refine r_iload_n C dX11_fresh_34 rfl 2 rfl ?_
      refine kX11_329 C (inb_lt g_4) (m_X4_wouldSay (inb_lt g_4) rfl) (by decide) (Nat.le_of_ble_eq_true rfl) dX11_fresh_35 ?_
      cases h
      exact r_iret C dX11_fresh_38
    · have h := ip h c_2
      refine r_iconst (v := (-1)) C dX11_fresh_20 (by decide) ?_
      cases h
      exact r_iret C dX11_fresh_21
def Q_next_J59 (B28 : Int32 → Int32 → Int32 → St → Option (Int32 × St)) (v2_10 : Int32) (v3_11 : Int32) (v4_12 : Int32)  (s_13 : St) : Option (Int32 × St) :=
  B28 v2_10 v3_11 (v4_12 + 1) s_13
def Q_next_L28 (K65 : Int32 → Int32 → St → Option (Int32 × St))  : Nat → Int32 → Int32 → Int32 → St → Option (Int32 × St)
  | 0, _, _, _, _ => none
  | n + 1, v2_3, v3_4, v4_5, s_6 => if 32 ≤ v4_5 then (K65 v2_3 v3_4 s_6) else (Option.bind (Bk_manyUnsure v4_5 s_6) (fun r_8 => if r_8 ≤ v3_4 then (Q_next_J59 (Q_next_L28 K65 n) v2_3 v3_4 v4_5 s_6) else (Q_next_J59 (Q_next_L28 K65 n) v4_5 r_8 v4_5 s_6)))
def Q_next  (s0 : St) : Option (Int32 × St) :=
  if (s0.1 3 0 7) = 0 then (some ((-9), s0)) else (Option.bind (Bk_settled s0) (fun r_2 => Q_next_L28 (fun (v2_21 : Int32) (v3_22 : Int32) (s_23 : St) => Option.bind (Q_tell v3_22 v2_21 s_23) (fun r_24 => some (r_24.1, r_24.2))) 1100 0 (-1) 0 r_2))
set_option maxHeartbeats 4000000 in
set_option maxRecDepth 100000 in
theorem t_X11_next_J59 {x : Ctx} {w : Wp} {v2_10 : Int32} {v3_11 : Int32} {v4_12 : Int32}  {s_13 : St} {z : Int32 × St}  {B28 : Int32 → Int32 → Int32 → St → Option (Int32 × St)} (hB28 : ∀ (u2_14 : Int32) (u3_15 : Int32) (u4_16 : Int32) (s_17 : St), B28 u2_14 u3_15 u4_16 s_17 = some z → V x WC w 6 (QM x WC w (some (.int z.1)) z.2) s_17 28 [(0, .ref (wa w 0 0)), (1, .ref (wa w 15 0)), (2, .int u2_14), (3, .int u3_15), (4, .int u4_16)] []) (C : Cx x WC w cX11_next 6 RX11 4 (some .int)) (h : Q_next_J59 B28 v2_10 v3_11 v4_12 s_13 = some z) : V x WC w 6 (QM x WC w (some (.int z.1)) z.2) s_13 59 [(0, .ref (wa w 0 0)), (1, .ref (wa w 15 0)), (2, .int v2_10), (3, .int v3_11), (4, .int v4_12)] [] := by
  unfold Q_next_J59 at h
  refine r_iinc (v := v4_12 + 1) C dX11_next_59 (j := 4) rfl rfl (Nat.le_of_ble_eq_true rfl) (L' := [(4, _), (0, _), (1, _), (2, _), (3, _)]) rfl ?_
  refine r_goto (tgt := 28) C dX11_next_62 (by decide) ?_
  refine r_sub [1, 2, 3, 4, 0] rfl ?_
  exact hB28 _ _ _ _ h
set_option maxHeartbeats 4000000 in
set_option maxRecDepth 100000 in
theorem t_X11_next_L28 {x : Ctx} {w : Wp}  {z : Int32 × St}  {K65 : Int32 → Int32 → St → Option (Int32 × St)} (hK65 : ∀ (u2_18 : Int32) (u3_19 : Int32) (s_20 : St), K65 u2_18 u3_19 s_20 = some z → V x WC w 6 (QM x WC w (some (.int z.1)) z.2) s_20 65 [(0, .ref (wa w 0 0)), (2, .int u2_18), (3, .int u3_19)] []) (C : Cx x WC w cX11_next 6 RX11 4 (some .int)) : ∀ (n : Nat) (v2_3 : Int32) (v3_4 : Int32) (v4_5 : Int32) (s_6 : St), Q_next_L28 K65 n v2_3 v3_4 v4_5 s_6 = some z → V x WC w 6 (QM x WC w (some (.int z.1)) z.2) s_6 28 [(0, .ref (wa w 0 0)), (1, .ref (wa w 15 0)), (2, .int v2_3), (3, .int v3_4), (4, .int v4_5)] [] := by
  intro n
  induction n with
  | zero => intro v2_3 v3_4 v4_5 s_6 h; cases h
  | succ n ih =>
    intro v2_3 v3_4 v4_5 s_6 h
    unfold Q_next_L28 at h
    refine r_iload C dX11_next_28 4 rfl ?_
    refine r_bipush (v := 32) C dX11_next_30 (by decide) ?_
    refine r_icmp_ge (tgt := 65) C dX11_next_32 (by decide) (fun c_7 => ?_) (fun c_7 => ?_)
    · have h := ip h c_7
      refine r_sub [0, 2, 3] rfl ?_
      exact hK65 _ _ _ h
    · have h := iq h c_7
      refine r_aload_n C dX11_next_35 rfl 0 rfl ?_
      refine gfX11_24 C dX11_next_36 ?_
      refine r_iload C dX11_next_39 4 rfl ?_
      refine r_aload_n C dX11_next_41 rfl 1 rfl ?_
      obtain ⟨r_8, er_8, h⟩ := bdE h
      refine kX11_332 C (m_X1_manyUnsure er_8) (by decide) (Nat.le_of_ble_eq_true rfl) dX11_next_42 ?_
      refine r_istore C dX11_next_45 (Nat.le_of_ble_eq_true rfl) (L' := [(5, _), (0, _), (1, _), (2, _), (3, _), (4, _)]) rfl ?_
      refine r_iload C dX11_next_47 0 rfl ?_
      refine r_iload_n C dX11_next_49 rfl 4 rfl ?_
      refine r_icmp_le (tgt := 59) C dX11_next_50 (by decide) (fun c_9 => ?_) (fun c_9 => ?_)
      · have h := ip h c_9
        refine r_sub [1, 2, 3, 4, 5] rfl ?_
        exact t_X11_next_J59 ih C h
      · have h := iq h c_9
        refine r_iload C dX11_next_53 0 rfl ?_
        refine r_istore_n C dX11_next_55 rfl (Nat.le_of_ble_eq_true rfl) (L' := [(3, _), (5, _), (0, _), (1, _), (2, _), (4, _)]) rfl ?_
        refine r_iload C dX11_next_56 5 rfl ?_
        refine r_istore_n C dX11_next_58 rfl (Nat.le_of_ble_eq_true rfl) (L' := [(2, _), (3, _), (5, _), (0, _), (1, _), (4, _)]) rfl ?_
        refine r_sub [3, 4, 0, 1, 5] rfl ?_
        exact t_X11_next_J59 ih C h
set_option maxHeartbeats 4000000 in
set_option maxRecDepth 100000 in
theorem m_X11_next {l : Launch} {w : Wp}   {s0 : St} {z : Int32 × St} (h : Q_next s0 = some z) : Cm l yX11_next (.code yX11_next cX11_next 6 (some .int)) 4 WC w [.ref (wa w 0 0)] s0 (some (.int z.1)) z.2 := by
  refine Cm.of (own := RX11) (by decide +kernel) rfl (Nat.le_of_ble_eq_true rfl) (L := [(0, .ref (wa w 0 0))]) rfl KoC (fun x hl C => ?_)
  subst hl
  unfold Q_next at h
  refine r_aload_n C dX11_next_0 rfl 0 rfl ?_
  refine gfX11_24 C dX11_next_1 ?_
  refine gfX11_221 C dX11_next_4 ?_
  refine r_if_ne (tgt := 13) C dX11_next_7 (by decide) (fun c_1 => ?_) (fun c_1 => ?_)
  · have h := iq h c_1
    refine r_aload_n C dX11_next_13 rfl 0 rfl ?_
    refine gfX11_24 C dX11_next_14 ?_
    obtain ⟨r_2, er_2, h⟩ := bdE h
    refine kX11_188 C (m_X1_settled er_2) (by decide) (Nat.le_of_ble_eq_true rfl) dX11_next_17 ?_
    refine r_astore_n C dX11_next_20 rfl (Nat.le_of_ble_eq_true rfl) (L' := [(1, _), (0, _)]) rfl ?_
    refine r_iconst (v := 0) C dX11_next_21 (by decide) ?_
    refine r_istore_n C dX11_next_22 rfl (Nat.le_of_ble_eq_true rfl) (L' := [(2, _), (1, _), (0, _)]) rfl ?_
    refine r_iconst (v := (-1)) C dX11_next_23 (by decide) ?_
    refine r_istore_n C dX11_next_24 rfl (Nat.le_of_ble_eq_true rfl) (L' := [(3, _), (2, _), (1, _), (0, _)]) rfl ?_
    refine r_iconst (v := 0) C dX11_next_25 (by decide) ?_
    refine r_istore C dX11_next_26 (Nat.le_of_ble_eq_true rfl) (L' := [(4, _), (3, _), (2, _), (1, _), (0, _)]) rfl ?_
    refine r_sub [4, 3, 2, 1, 0] rfl ?_
    refine t_X11_next_L28 (fun v2_21 v3_22 s_23 h => ?_) C _ _ _ _ _ h
    refine r_aload_n C dX11_next_65 rfl 0 rfl ?_
    refine r_iload_n C dX11_next_66 rfl 2 rfl ?_
    refine r_iload_n C dX11_next_67 rfl 1 rfl ?_
    obtain ⟨r_24, er_24, h⟩ := bdE h
    refine kX11_82 C (m_X11_tell er_24) (by decide) (Nat.le_of_ble_eq_true rfl) dX11_next_68 ?_
    cases h
    exact r_iret C dX11_next_71
  · have h := ip h c_1
    refine r_bipush (v := (-9)) C dX11_next_10 (by decide) ?_
    cases h
    exact r_iret C dX11_next_12
def Q_asked  (s0 : St) : Int32 :=
  s0.1 0 0 7
set_option maxHeartbeats 4000000 in
set_option maxRecDepth 100000 in
theorem m_X11_asked {l : Launch} {w : Wp}   {s0 : St} {z : Int32} (h : Q_asked s0 = z) : Cm l yX11_asked (.code yX11_asked cX11_asked 1 (some .int)) 0 WC w [.ref (wa w 0 0)] s0 (some (.int z)) s0 := by
  refine Cm.of (own := RX11) (by decide +kernel) rfl (Nat.le_of_ble_eq_true rfl) (L := [(0, .ref (wa w 0 0))]) rfl KoC (fun x hl C => ?_)
  subst hl
  unfold Q_asked at h
  refine r_aload_n C dX11_asked_0 rfl 0 rfl ?_
  refine gfX11_52 C dX11_asked_1 ?_
  subst h
  exact r_iret C dX11_asked_4
def Q_upper  (s0 : St) : Int64 :=
  s0.2 8
set_option maxHeartbeats 4000000 in
set_option maxRecDepth 100000 in
theorem m_X11_upper {l : Launch} {w : Wp}   {s0 : St} {z : Int64} (h : Q_upper s0 = z) : Cm l yX11_upper (.code yX11_upper cX11_upper 1 (some .long)) 0 WC w [.ref (wa w 0 0)] s0 (some (.long z)) s0 := by
  refine Cm.of (own := RX11) (by decide +kernel) rfl (Nat.le_of_ble_eq_true rfl) (L := [(0, .ref (wa w 0 0))]) rfl KoC (fun x hl C => ?_)
  subst hl
  unfold Q_upper at h
  refine r_aload_n C dX11_upper_0 rfl 0 rfl ?_
  refine gfX11_55 C dX11_upper_1 ?_
  subst h
  exact r_lret C dX11_upper_4
def Q_lower  (s0 : St) : Int64 :=
  s0.2 9
set_option maxHeartbeats 4000000 in
set_option maxRecDepth 100000 in
theorem m_X11_lower {l : Launch} {w : Wp}   {s0 : St} {z : Int64} (h : Q_lower s0 = z) : Cm l yX11_lower (.code yX11_lower cX11_lower 1 (some .long)) 0 WC w [.ref (wa w 0 0)] s0 (some (.long z)) s0 := by
  refine Cm.of (own := RX11) (by decide +kernel) rfl (Nat.le_of_ble_eq_true rfl) (L := [(0, .ref (wa w 0 0))]) rfl KoC (fun x hl C => ?_)
  subst hl
  unfold Q_lower at h
  refine r_aload_n C dX11_lower_0 rfl 0 rfl ?_
  refine gfX11_59 C dX11_lower_1 ?_
  subst h
  exact r_lret C dX11_lower_4
def Q_rowsThere_J26 (B4 : Int32 → Int32 → Option (Int32)) (v1_6 : Int32) (v2_7 : Int32)  (s0 : St) : Option (Int32) :=
  B4 v1_6 (v2_7 + 1)
def Q_rowsThere_L4   (s0 : St) : Nat → Int32 → Int32 → Option (Int32)
  | 0, _, _ => none
  | n + 1, v1_1, v2_2 => if 6 ≤ v2_2 then (some v1_1) else (if inb v2_2 6 = true then if (s0.1 18 v2_2.toNatClampNeg 1) = (-1) then (Q_rowsThere_J26 (Q_rowsThere_L4 s0 n) v1_1 v2_2 s0) else (Q_rowsThere_J26 (Q_rowsThere_L4 s0 n) (v1_1 + 1) v2_2 s0) else none)
def Q_rowsThere  (s0 : St) : Option (Int32) :=
  Q_rowsThere_L4 s0 1100 0 0
set_option maxHeartbeats 4000000 in
set_option maxRecDepth 100000 in
theorem t_X11_rowsThere_J26 {x : Ctx} {w : Wp} {v1_6 : Int32} {v2_7 : Int32}  {s0 : St} {z : Int32}  {B4 : Int32 → Int32 → Option (Int32)} (hB4 : ∀ (u1_8 : Int32) (u2_9 : Int32), B4 u1_8 u2_9 = some z → V x WC w 3 (QM x WC w (some (.int z)) s0) s0 4 [(0, .ref (wa w 0 0)), (1, .int u1_8), (2, .int u2_9)] []) (C : Cx x WC w cX11_rowsThere 3 RX11 0 (some .int)) (h : Q_rowsThere_J26 B4 v1_6 v2_7 s0 = some z) : V x WC w 3 (QM x WC w (some (.int z)) s0) s0 26 [(0, .ref (wa w 0 0)), (1, .int v1_6), (2, .int v2_7)] [] := by
  unfold Q_rowsThere_J26 at h
  refine r_iinc (v := v2_7 + 1) C dX11_rowsThere_26 (j := 2) rfl rfl (Nat.le_of_ble_eq_true rfl) (L' := [(2, _), (0, _), (1, _)]) rfl ?_
  refine r_goto (tgt := 4) C dX11_rowsThere_29 (by decide) ?_
  refine r_sub [1, 2, 0] rfl ?_
  exact hB4 _ _ h
set_option maxHeartbeats 4000000 in
set_option maxRecDepth 100000 in
theorem t_X11_rowsThere_L4 {x : Ctx} {w : Wp}  {s0 : St} {z : Int32}    (C : Cx x WC w cX11_rowsThere 3 RX11 0 (some .int)) : ∀ (n : Nat) (v1_1 : Int32) (v2_2 : Int32), Q_rowsThere_L4 s0 n v1_1 v2_2 = some z → V x WC w 3 (QM x WC w (some (.int z)) s0) s0 4 [(0, .ref (wa w 0 0)), (1, .int v1_1), (2, .int v2_2)] [] := by
  intro n
  induction n with
  | zero => intro v1_1 v2_2 h; cases h
  | succ n ih =>
    intro v1_1 v2_2 h
    unfold Q_rowsThere_L4 at h
    refine r_iload_n C dX11_rowsThere_4 rfl 2 rfl ?_
    refine r_bipush (v := 6) C dX11_rowsThere_5 (by decide) ?_
    refine r_icmp_ge (tgt := 32) C dX11_rowsThere_7 (by decide) (fun c_3 => ?_) (fun c_3 => ?_)
    · have h := ip h c_3
      refine r_iload_n C dX11_rowsThere_32 rfl 1 rfl ?_
      cases h
      exact r_iret C dX11_rowsThere_33
    · have h := iq h c_3
      refine r_aload_n C dX11_rowsThere_10 rfl 0 rfl ?_
      refine gfX11_11 C dX11_rowsThere_11 ?_
      refine r_iload_n C dX11_rowsThere_14 rfl 2 rfl ?_
      obtain ⟨g_4, h⟩ := gdE h
      refine la_1 C g_4 dX11_rowsThere_15 ?_
      refine gfX11_76 C (inb_lt g_4) dX11_rowsThere_16 ?_
      refine r_iconst (v := (-1)) C dX11_rowsThere_19 (by decide) ?_
      refine r_icmp_eq (tgt := 26) C dX11_rowsThere_20 (by decide) (fun c_5 => ?_) (fun c_5 => ?_)
      · have h := ip h c_5
        refine r_sub [0, 1, 2] rfl ?_
        exact t_X11_rowsThere_J26 ih C h
      · have h := iq h c_5
        refine r_iinc (v := v1_1 + 1) C dX11_rowsThere_23 (j := 1) rfl rfl (Nat.le_of_ble_eq_true rfl) (L' := [(1, _), (0, _), (2, _)]) rfl ?_
        refine r_sub [1, 0, 2] rfl ?_
        exact t_X11_rowsThere_J26 ih C h
set_option maxHeartbeats 4000000 in
set_option maxRecDepth 100000 in
theorem m_X11_rowsThere {l : Launch} {w : Wp}   {s0 : St} {z : Int32} (h : Q_rowsThere s0 = some z) : Cm l yX11_rowsThere (.code yX11_rowsThere cX11_rowsThere 3 (some .int)) 0 WC w [.ref (wa w 0 0)] s0 (some (.int z)) s0 := by
  refine Cm.of (own := RX11) (by decide +kernel) rfl (Nat.le_of_ble_eq_true rfl) (L := [(0, .ref (wa w 0 0))]) rfl KoC (fun x hl C => ?_)
  subst hl
  unfold Q_rowsThere at h
  refine r_iconst (v := 0) C dX11_rowsThere_0 (by decide) ?_
  refine r_istore_n C dX11_rowsThere_1 rfl (Nat.le_of_ble_eq_true rfl) (L' := [(1, _), (0, _)]) rfl ?_
  refine r_iconst (v := 0) C dX11_rowsThere_2 (by decide) ?_
  refine r_istore_n C dX11_rowsThere_3 rfl (Nat.le_of_ble_eq_true rfl) (L' := [(2, _), (1, _), (0, _)]) rfl ?_
  refine r_sub [2, 1, 0] rfl ?_
  exact t_X11_rowsThere_L4 C _ _ _ h
def Q_textsThere_J25 (B4 : Int32 → Int32 → Option (Int32)) (v1_6 : Int32) (v2_7 : Int32)  (s0 : St) : Option (Int32) :=
  B4 v1_6 (v2_7 + 1)
def Q_textsThere_L4   (s0 : St) : Nat → Int32 → Int32 → Option (Int32)
  | 0, _, _ => none
  | n + 1, v1_1, v2_2 => if 4 ≤ v2_2 then (some v1_1) else (if inb v2_2 4 = true then if (s0.1 20 v2_2.toNatClampNeg 1) = (-1) then (Q_textsThere_J25 (Q_textsThere_L4 s0 n) v1_1 v2_2 s0) else (Q_textsThere_J25 (Q_textsThere_L4 s0 n) (v1_1 + 1) v2_2 s0) else none)
def Q_textsThere  (s0 : St) : Option (Int32) :=
  Q_textsThere_L4 s0 1100 0 0
set_option maxHeartbeats 4000000 in
set_option maxRecDepth 100000 in
theorem t_X11_textsThere_J25 {x : Ctx} {w : Wp} {v1_6 : Int32} {v2_7 : Int32}  {s0 : St} {z : Int32}  {B4 : Int32 → Int32 → Option (Int32)} (hB4 : ∀ (u1_8 : Int32) (u2_9 : Int32), B4 u1_8 u2_9 = some z → V x WC w 3 (QM x WC w (some (.int z)) s0) s0 4 [(0, .ref (wa w 0 0)), (1, .int u1_8), (2, .int u2_9)] []) (C : Cx x WC w cX11_textsThere 3 RX11 0 (some .int)) (h : Q_textsThere_J25 B4 v1_6 v2_7 s0 = some z) : V x WC w 3 (QM x WC w (some (.int z)) s0) s0 25 [(0, .ref (wa w 0 0)), (1, .int v1_6), (2, .int v2_7)] [] := by
  unfold Q_textsThere_J25 at h
  refine r_iinc (v := v2_7 + 1) C dX11_textsThere_25 (j := 2) rfl rfl (Nat.le_of_ble_eq_true rfl) (L' := [(2, _), (0, _), (1, _)]) rfl ?_
  refine r_goto (tgt := 4) C dX11_textsThere_28 (by decide) ?_
  refine r_sub [1, 2, 0] rfl ?_
  exact hB4 _ _ h
set_option maxHeartbeats 4000000 in
set_option maxRecDepth 100000 in
theorem t_X11_textsThere_L4 {x : Ctx} {w : Wp}  {s0 : St} {z : Int32}    (C : Cx x WC w cX11_textsThere 3 RX11 0 (some .int)) : ∀ (n : Nat) (v1_1 : Int32) (v2_2 : Int32), Q_textsThere_L4 s0 n v1_1 v2_2 = some z → V x WC w 3 (QM x WC w (some (.int z)) s0) s0 4 [(0, .ref (wa w 0 0)), (1, .int v1_1), (2, .int v2_2)] [] := by
  intro n
  induction n with
  | zero => intro v1_1 v2_2 h; cases h
  | succ n ih =>
    intro v1_1 v2_2 h
    unfold Q_textsThere_L4 at h
    refine r_iload_n C dX11_textsThere_4 rfl 2 rfl ?_
    refine r_iconst (v := 4) C dX11_textsThere_5 (by decide) ?_
    refine r_icmp_ge (tgt := 31) C dX11_textsThere_6 (by decide) (fun c_3 => ?_) (fun c_3 => ?_)
    · have h := ip h c_3
      refine r_iload_n C dX11_textsThere_31 rfl 1 rfl ?_
      cases h
      exact r_iret C dX11_textsThere_32
    · have h := iq h c_3
      refine r_aload_n C dX11_textsThere_9 rfl 0 rfl ?_
      refine gfX11_17 C dX11_textsThere_10 ?_
      refine r_iload_n C dX11_textsThere_13 rfl 2 rfl ?_
      obtain ⟨g_4, h⟩ := gdE h
      refine la_2 C g_4 dX11_textsThere_14 ?_
      refine gfX11_100 C (inb_lt g_4) dX11_textsThere_15 ?_
      refine r_iconst (v := (-1)) C dX11_textsThere_18 (by decide) ?_
      refine r_icmp_eq (tgt := 25) C dX11_textsThere_19 (by decide) (fun c_5 => ?_) (fun c_5 => ?_)
      · have h := ip h c_5
        refine r_sub [0, 1, 2] rfl ?_
        exact t_X11_textsThere_J25 ih C h
      · have h := iq h c_5
        refine r_iinc (v := v1_1 + 1) C dX11_textsThere_22 (j := 1) rfl rfl (Nat.le_of_ble_eq_true rfl) (L' := [(1, _), (0, _), (2, _)]) rfl ?_
        refine r_sub [1, 0, 2] rfl ?_
        exact t_X11_textsThere_J25 ih C h
set_option maxHeartbeats 4000000 in
set_option maxRecDepth 100000 in
theorem m_X11_textsThere {l : Launch} {w : Wp}   {s0 : St} {z : Int32} (h : Q_textsThere s0 = some z) : Cm l yX11_textsThere (.code yX11_textsThere cX11_textsThere 3 (some .int)) 0 WC w [.ref (wa w 0 0)] s0 (some (.int z)) s0 := by
  refine Cm.of (own := RX11) (by decide +kernel) rfl (Nat.le_of_ble_eq_true rfl) (L := [(0, .ref (wa w 0 0))]) rfl KoC (fun x hl C => ?_)
  subst hl
  unfold Q_textsThere at h
  refine r_iconst (v := 0) C dX11_textsThere_0 (by decide) ?_
  refine r_istore_n C dX11_textsThere_1 rfl (Nat.le_of_ble_eq_true rfl) (L' := [(1, _), (0, _)]) rfl ?_
  refine r_iconst (v := 0) C dX11_textsThere_2 (by decide) ?_
  refine r_istore_n C dX11_textsThere_3 rfl (Nat.le_of_ble_eq_true rfl) (L' := [(2, _), (1, _), (0, _)]) rfl ?_
  refine r_sub [2, 1, 0] rfl ?_
  exact t_X11_textsThere_L4 C _ _ _ h
def Q_amount (v1 : Int32) (s0 : St) : Option (Int32) :=
  if v1 = 0 then (some (s0.1 3 0 3)) else (if v1 = 1 then (some (s0.1 3 0 5)) else (if v1 = 2 then (some (s0.1 3 0 7)) else (if v1 = 3 then (some (s0.1 4 0 1)) else (if v1 = 4 then (Option.bind (Pg_objections s0) (fun r_6 => some r_6)) else (if v1 = 5 then (Option.bind (Q_rowsThere s0) (fun r_8 => some r_8)) else (Option.bind (Q_textsThere s0) (fun r_9 => some r_9)))))))
set_option maxHeartbeats 4000000 in
set_option maxRecDepth 100000 in
theorem m_X11_amount {l : Launch} {w : Wp} {v1 : Int32}  {s0 : St} {z : Int32} (h : Q_amount v1 s0 = some z) : Cm l yX11_amount (.code yX11_amount cX11_amount 2 (some .int)) 1 WC w [.ref (wa w 0 0), .int v1] s0 (some (.int z)) s0 := by
  refine Cm.of (own := RX11) (by decide +kernel) rfl (Nat.le_of_ble_eq_true rfl) (L := [(0, .ref (wa w 0 0)), (1, .int v1)]) rfl KoC (fun x hl C => ?_)
  subst hl
  unfold Q_amount at h
  refine r_iload_n C dX11_amount_0 rfl 1 rfl ?_
  by_cases c_1 : v1 = 0
  · have h := ip h c_1
    refine r_tabIn (tgt := 40) C dX11_amount_1 c_1 (by decide) (by decide) rfl (by decide) ?_
    refine r_aload_n C dX11_amount_40 rfl 0 rfl ?_
    refine gfX11_24 C dX11_amount_41 ?_
    refine gfX11_105 C dX11_amount_44 ?_
    cases h
    exact r_iret C dX11_amount_47
  have h := iq h c_1
  by_cases c_2 : v1 = 1
  · have h := ip h c_2
    refine r_tabIn (tgt := 48) C dX11_amount_1 c_2 (by decide) (by decide) rfl (by decide) ?_
    refine r_aload_n C dX11_amount_48 rfl 0 rfl ?_
    refine gfX11_24 C dX11_amount_49 ?_
    refine gfX11_115 C dX11_amount_52 ?_
    cases h
    exact r_iret C dX11_amount_55
  have h := iq h c_2
  by_cases c_3 : v1 = 2
  · have h := ip h c_3
    refine r_tabIn (tgt := 56) C dX11_amount_1 c_3 (by decide) (by decide) rfl (by decide) ?_
    refine r_aload_n C dX11_amount_56 rfl 0 rfl ?_
    refine gfX11_24 C dX11_amount_57 ?_
    refine gfX11_221 C dX11_amount_60 ?_
    cases h
    exact r_iret C dX11_amount_63
  have h := iq h c_3
  by_cases c_4 : v1 = 3
  · have h := ip h c_4
    refine r_tabIn (tgt := 64) C dX11_amount_1 c_4 (by decide) (by decide) rfl (by decide) ?_
    refine r_aload_n C dX11_amount_64 rfl 0 rfl ?_
    refine gfX11_33 C dX11_amount_65 ?_
    refine gfX11_292 C dX11_amount_68 ?_
    cases h
    exact r_iret C dX11_amount_71
  have h := iq h c_4
  by_cases c_5 : v1 = 4
  · have h := ip h c_5
    refine r_tabIn (tgt := 72) C dX11_amount_1 c_5 (by decide) (by decide) rfl (by decide) ?_
    refine r_aload_n C dX11_amount_72 rfl 0 rfl ?_
    refine gfX11_33 C dX11_amount_73 ?_
    obtain ⟨r_6, er_6, h⟩ := bdE h
    refine kX11_349 C (m_X6_objections er_6) (by decide) (Nat.le_of_ble_eq_true rfl) dX11_amount_76 ?_
    cases h
    exact r_iret C dX11_amount_79
  have h := iq h c_5
  by_cases c_7 : v1 = 5
  · have h := ip h c_7
    refine r_tabIn (tgt := 80) C dX11_amount_1 c_7 (by decide) (by decide) rfl (by decide) ?_
    refine r_aload_n C dX11_amount_80 rfl 0 rfl ?_
    obtain ⟨r_8, er_8, h⟩ := bdE h
    refine kX11_352 C (m_X11_rowsThere er_8) (by decide) (Nat.le_of_ble_eq_true rfl) dX11_amount_81 ?_
    cases h
    exact r_iret C dX11_amount_84
  have h := iq h c_7
  refine r_tabOut (tgt := 85) C dX11_amount_1 (by have q0 := tq_ne (k := 0) (by decide) c_1; have q1 := tq_ne (k := 1) (by decide) c_2; have q2 := tq_ne (k := 2) (by decide) c_3; have q3 := tq_ne (k := 3) (by decide) c_4; have q4 := tq_ne (k := 4) (by decide) c_5; have q5 := tq_ne (k := 5) (by decide) c_7; omega) (by decide) ?_
  refine r_aload_n C dX11_amount_85 rfl 0 rfl ?_
  obtain ⟨r_9, er_9, h⟩ := bdE h
  refine kX11_355 C (m_X11_textsThere er_9) (by decide) (Nat.le_of_ble_eq_true rfl) dX11_amount_86 ?_
  cases h
  exact r_iret C dX11_amount_89
def Q_count (v1 : Int32) (s0 : St) : Option (Int32) :=
  if (Q_within v1 7) = 0 then (some (-1)) else (Option.bind (Q_amount v1 s0) (fun r_2 => some r_2))
set_option maxHeartbeats 4000000 in
set_option maxRecDepth 100000 in
theorem m_X11_count {l : Launch} {w : Wp} {v1 : Int32}  {s0 : St} {z : Int32} (h : Q_count v1 s0 = some z) : Cm l yX11_count (.code yX11_count cX11_count 2 (some .int)) 2 WC w [.ref (wa w 0 0), .int v1] s0 (some (.int z)) s0 := by
  refine Cm.of (own := RX11) (by decide +kernel) rfl (Nat.le_of_ble_eq_true rfl) (L := [(0, .ref (wa w 0 0)), (1, .int v1)]) rfl KoC (fun x hl C => ?_)
  subst hl
  unfold Q_count at h
  refine r_iload_n C dX11_count_0 rfl 1 rfl ?_
  refine r_bipush (v := 7) C dX11_count_1 (by decide) ?_
  refine kX11_64 C (m_X11_within rfl) (by decide) (Nat.le_of_ble_eq_true rfl) dX11_count_3 ?_
  refine r_if_eq (tgt := 17) C dX11_count_6 (by decide) (fun c_1 => ?_) (fun c_1 => ?_)
  · have h := ip h c_1
    refine r_iconst (v := (-1)) C dX11_count_17 (by decide) ?_
    cases h
    exact r_iret C dX11_count_18
  · have h := iq h c_1
    refine r_aload_n C dX11_count_9 rfl 0 rfl ?_
    refine r_iload_n C dX11_count_10 rfl 1 rfl ?_
    obtain ⟨r_2, er_2, h⟩ := bdE h
    refine kX11_335 C (m_X11_amount er_2) (by decide) (Nat.le_of_ble_eq_true rfl) dX11_count_11 ?_
    refine r_goto (tgt := 18) C dX11_count_14 (by decide) ?_
    cases h
    exact r_iret C dX11_count_18
def Q_finding  (s0 : St) : Int32 :=
  s0.1 0 0 6
set_option maxHeartbeats 4000000 in
set_option maxRecDepth 100000 in
theorem m_X11_finding {l : Launch} {w : Wp}   {s0 : St} {z : Int32} (h : Q_finding s0 = z) : Cm l yX11_finding (.code yX11_finding cX11_finding 1 (some .int)) 0 WC w [.ref (wa w 0 0)] s0 (some (.int z)) s0 := by
  refine Cm.of (own := RX11) (by decide +kernel) rfl (Nat.le_of_ble_eq_true rfl) (L := [(0, .ref (wa w 0 0))]) rfl KoC (fun x hl C => ?_)
  subst hl
  unfold Q_finding at h
  refine r_aload_n C dX11_finding_0 rfl 0 rfl ?_
  refine gfX11_48 C dX11_finding_1 ?_
  subst h
  exact r_iret C dX11_finding_4
def Q_findings (v1 : Int32) (s0 : St) : Option (Int32) :=
  if v1 < 1 then (some (-1)) else (if 5 < v1 then (some (-1)) else (if inb v1 6 = true then some (s0.1 6 0 v1.toNatClampNeg) else none))
set_option maxHeartbeats 4000000 in
set_option maxRecDepth 100000 in
theorem m_X11_findings {l : Launch} {w : Wp} {v1 : Int32}  {s0 : St} {z : Int32} (h : Q_findings v1 s0 = some z) : Cm l yX11_findings (.code yX11_findings cX11_findings 2 (some .int)) 0 WC w [.ref (wa w 0 0), .int v1] s0 (some (.int z)) s0 := by
  refine Cm.of (own := RX11) (by decide +kernel) rfl (Nat.le_of_ble_eq_true rfl) (L := [(0, .ref (wa w 0 0)), (1, .int v1)]) rfl KoC (fun x hl C => ?_)
  subst hl
  unfold Q_findings at h
  refine r_iload_n C dX11_findings_0 rfl 1 rfl ?_
  refine r_iconst (v := 1) C dX11_findings_1 (by decide) ?_
  refine r_icmp_lt (tgt := 19) C dX11_findings_2 (by decide) (fun c_1 => ?_) (fun c_1 => ?_)
  · have h := ip h c_1
    refine r_iconst (v := (-1)) C dX11_findings_19 (by decide) ?_
    cases h
    exact r_iret C dX11_findings_20
  · have h := iq h c_1
    refine r_iload_n C dX11_findings_5 rfl 1 rfl ?_
    refine r_iconst (v := 5) C dX11_findings_6 (by decide) ?_
    refine r_icmp_gt (tgt := 19) C dX11_findings_7 (by decide) (fun c_2 => ?_) (fun c_2 => ?_)
    · have h := ip h c_2
      refine r_iconst (v := (-1)) C dX11_findings_19 (by decide) ?_
      cases h
      exact r_iret C dX11_findings_20
    · have h := iq h c_2
      refine r_aload_n C dX11_findings_10 rfl 0 rfl ?_
      refine gfX11_44 C dX11_findings_11 ?_
      refine r_iload_n C dX11_findings_14 rfl 1 rfl ?_
      obtain ⟨g_3, h⟩ := gdE h
      refine ldC_6 C g_3 dX11_findings_15 ?_
      refine r_goto (tgt := 20) C dX11_findings_16 (by decide) ?_
      cases h
      exact r_iret C dX11_findings_20
def Q_digest_L6 (K31 : Int64 → Option (Int64))  (s0 : St) : Nat → Int64 → Int32 → Option (Int64)
  | 0, _, _ => none
  | n + 1, v1_1, v3_2 => if 7 ≤ v3_2 then (K31 v1_1) else (Option.bind (Q_amount v3_2 s0) (fun r_4 => (Q_digest_L6 K31 s0 n) ((31 * v1_1) + r_4.toInt64) (v3_2 + 1)))
def Q_digest_L51 (K74 : Int64 → Option (Int64))  (s0 : St) : Nat → Int64 → Int32 → Option (Int64)
  | 0, _, _ => none
  | n + 1, v1_9, v3_10 => if 6 ≤ v3_10 then (K74 v1_9) else (if inb v3_10 6 = true then Option.bind (Rw_digestFrom v3_10.toNatClampNeg v1_9 s0) (fun r_13 => (Q_digest_L51 K74 s0 n) r_13 (v3_10 + 1)) else none)
def Q_digest_L76   (s0 : St) : Nat → Int64 → Int32 → Option (Int64)
  | 0, _, _ => none
  | n + 1, v1_16, v3_17 => if 4 ≤ v3_17 then (some v1_16) else (if inb v3_17 4 = true then Option.bind (Tx_digestFrom v3_17.toNatClampNeg v1_16 s0) (fun r_20 => (Q_digest_L76 s0 n) r_20 (v3_17 + 1)) else none)
def Q_digest  (s0 : St) : Option (Int64) :=
  Q_digest_L6 (fun (v1_6 : Int64) => Option.bind (Bk_digestFrom v1_6 s0) (fun r_7 => Option.bind (Pg_digestFrom r_7 s0) (fun r_8 => Q_digest_L51 (fun (v1_15 : Int64) => Q_digest_L76 s0 1100 v1_15 0) s0 1100 r_8 0))) s0 1100 17 0
set_option maxHeartbeats 4000000 in
set_option maxRecDepth 100000 in
theorem t_X11_digest_L6 {x : Ctx} {w : Wp}  {s0 : St} {z : Int64}  {K31 : Int64 → Option (Int64)} (hK31 : ∀ (u1_5 : Int64), K31 u1_5 = some z → V x WC w 4 (QM x WC w (some (.long z)) s0) s0 31 [(0, .ref (wa w 0 0)), (1, .long u1_5)] []) (C : Cx x WC w cX11_digest 4 RX11 3 (some .long)) : ∀ (n : Nat) (v1_1 : Int64) (v3_2 : Int32), Q_digest_L6 K31 s0 n v1_1 v3_2 = some z → V x WC w 4 (QM x WC w (some (.long z)) s0) s0 6 [(0, .ref (wa w 0 0)), (1, .long v1_1), (3, .int v3_2)] [] := by
  intro n
  induction n with
  | zero => intro v1_1 v3_2 h; cases h
  | succ n ih =>
    intro v1_1 v3_2 h
    unfold Q_digest_L6 at h
    refine r_iload_n C dX11_digest_6 rfl 2 rfl ?_
    refine r_bipush (v := 7) C dX11_digest_7 (by decide) ?_
    refine r_icmp_ge (tgt := 31) C dX11_digest_9 (by decide) (fun c_3 => ?_) (fun c_3 => ?_)
    · have h := ip h c_3
      refine r_sub [0, 1] rfl ?_
      exact hK31 _ h
    · have h := iq h c_3
      refine r_ldc2 C dX11_digest_12 q_940 ?_
      refine r_lload_n C dX11_digest_15 rfl 1 rfl ?_
      refine r_lmul C dX11_digest_16 ?_
      refine r_aload_n C dX11_digest_17 rfl 0 rfl ?_
      refine r_iload_n C dX11_digest_18 rfl 2 rfl ?_
      obtain ⟨r_4, er_4, h⟩ := bdE h
      refine kX11_335 C (m_X11_amount er_4) (by decide) (Nat.le_of_ble_eq_true rfl) dX11_digest_19 ?_
      refine r_i2l C dX11_digest_22 ?_
      refine r_ladd C dX11_digest_23 ?_
      refine r_lstore_n C dX11_digest_24 rfl (Nat.le_of_ble_eq_true rfl) (L' := [(1, _), (0, _), (3, _)]) rfl ?_
      refine r_iinc (v := v3_2 + 1) C dX11_digest_25 (j := 2) rfl rfl (Nat.le_of_ble_eq_true rfl) (L' := [(3, _), (1, _), (0, _)]) rfl ?_
      refine r_goto (tgt := 6) C dX11_digest_28 (by decide) ?_
      refine r_sub [2, 1, 0] rfl ?_
      exact ih _ _ h
set_option maxHeartbeats 4000000 in
set_option maxRecDepth 100000 in
theorem t_X11_digest_L51 {x : Ctx} {w : Wp}  {s0 : St} {z : Int64}  {K74 : Int64 → Option (Int64)} (hK74 : ∀ (u1_14 : Int64), K74 u1_14 = some z → V x WC w 4 (QM x WC w (some (.long z)) s0) s0 74 [(0, .ref (wa w 0 0)), (1, .long u1_14)] []) (C : Cx x WC w cX11_digest 4 RX11 3 (some .long)) : ∀ (n : Nat) (v1_9 : Int64) (v3_10 : Int32), Q_digest_L51 K74 s0 n v1_9 v3_10 = some z → V x WC w 4 (QM x WC w (some (.long z)) s0) s0 51 [(0, .ref (wa w 0 0)), (1, .long v1_9), (3, .int v3_10)] [] := by
  intro n
  induction n with
  | zero => intro v1_9 v3_10 h; cases h
  | succ n ih =>
    intro v1_9 v3_10 h
    unfold Q_digest_L51 at h
    refine r_iload_n C dX11_digest_51 rfl 2 rfl ?_
    refine r_bipush (v := 6) C dX11_digest_52 (by decide) ?_
    refine r_icmp_ge (tgt := 74) C dX11_digest_54 (by decide) (fun c_11 => ?_) (fun c_11 => ?_)
    · have h := ip h c_11
      refine r_sub [0, 1] rfl ?_
      exact hK74 _ h
    · have h := iq h c_11
      refine r_aload_n C dX11_digest_57 rfl 0 rfl ?_
      refine gfX11_11 C dX11_digest_58 ?_
      refine r_iload_n C dX11_digest_61 rfl 2 rfl ?_
      obtain ⟨g_12, h⟩ := gdE h
      refine la_1 C g_12 dX11_digest_62 ?_
      refine r_lload_n C dX11_digest_63 rfl 1 rfl ?_
      obtain ⟨r_13, er_13, h⟩ := bdE h
      refine kX11_347 C (inb_lt g_12) (m_X7_digestFrom (inb_lt g_12) er_13) (by decide) (Nat.le_of_ble_eq_true rfl) dX11_digest_64 ?_
      refine r_lstore_n C dX11_digest_67 rfl (Nat.le_of_ble_eq_true rfl) (L' := [(1, _), (0, _), (3, _)]) rfl ?_
      refine r_iinc (v := v3_10 + 1) C dX11_digest_68 (j := 2) rfl rfl (Nat.le_of_ble_eq_true rfl) (L' := [(3, _), (1, _), (0, _)]) rfl ?_
      refine r_goto (tgt := 51) C dX11_digest_71 (by decide) ?_
      refine r_sub [2, 1, 0] rfl ?_
      exact ih _ _ h
set_option maxHeartbeats 4000000 in
set_option maxRecDepth 100000 in
theorem t_X11_digest_L76 {x : Ctx} {w : Wp}  {s0 : St} {z : Int64}    (C : Cx x WC w cX11_digest 4 RX11 3 (some .long)) : ∀ (n : Nat) (v1_16 : Int64) (v3_17 : Int32), Q_digest_L76 s0 n v1_16 v3_17 = some z → V x WC w 4 (QM x WC w (some (.long z)) s0) s0 76 [(0, .ref (wa w 0 0)), (1, .long v1_16), (3, .int v3_17)] [] := by
  intro n
  induction n with
  | zero => intro v1_16 v3_17 h; cases h
  | succ n ih =>
    intro v1_16 v3_17 h
    unfold Q_digest_L76 at h
    refine r_iload_n C dX11_digest_76 rfl 2 rfl ?_
    refine r_iconst (v := 4) C dX11_digest_77 (by decide) ?_
    refine r_icmp_ge (tgt := 98) C dX11_digest_78 (by decide) (fun c_18 => ?_) (fun c_18 => ?_)
    · have h := ip h c_18
      refine r_lload_n C dX11_digest_98 rfl 1 rfl ?_
      cases h
      exact r_lret C dX11_digest_99
    · have h := iq h c_18
      refine r_aload_n C dX11_digest_81 rfl 0 rfl ?_
      refine gfX11_17 C dX11_digest_82 ?_
      refine r_iload_n C dX11_digest_85 rfl 2 rfl ?_
      obtain ⟨g_19, h⟩ := gdE h
      refine la_2 C g_19 dX11_digest_86 ?_
      refine r_lload_n C dX11_digest_87 rfl 1 rfl ?_
      obtain ⟨r_20, er_20, h⟩ := bdE h
      refine kX11_348 C (inb_lt g_19) (m_X10_digestFrom (inb_lt g_19) er_20) (by decide) (Nat.le_of_ble_eq_true rfl) dX11_digest_88 ?_
      refine r_lstore_n C dX11_digest_91 rfl (Nat.le_of_ble_eq_true rfl) (L' := [(1, _), (0, _), (3, _)]) rfl ?_
      refine r_iinc (v := v3_17 + 1) C dX11_digest_92 (j := 2) rfl rfl (Nat.le_of_ble_eq_true rfl) (L' := [(3, _), (1, _), (0, _)]) rfl ?_
      refine r_goto (tgt := 76) C dX11_digest_95 (by decide) ?_
      refine r_sub [2, 1, 0] rfl ?_
      exact ih _ _ h
set_option maxHeartbeats 4000000 in
set_option maxRecDepth 100000 in
theorem m_X11_digest {l : Launch} {w : Wp}   {s0 : St} {z : Int64} (h : Q_digest s0 = some z) : Cm l yX11_digest (.code yX11_digest cX11_digest 4 (some .long)) 3 WC w [.ref (wa w 0 0)] s0 (some (.long z)) s0 := by
  refine Cm.of (own := RX11) (by decide +kernel) rfl (Nat.le_of_ble_eq_true rfl) (L := [(0, .ref (wa w 0 0))]) rfl KoC (fun x hl C => ?_)
  subst hl
  unfold Q_digest at h
  refine r_ldc2 C dX11_digest_0 q_939 ?_
  refine r_lstore_n C dX11_digest_3 rfl (Nat.le_of_ble_eq_true rfl) (L' := [(1, _), (0, _)]) rfl ?_
  refine r_iconst (v := 0) C dX11_digest_4 (by decide) ?_
  refine r_istore_n C dX11_digest_5 rfl (Nat.le_of_ble_eq_true rfl) (L' := [(3, _), (1, _), (0, _)]) rfl ?_
  refine r_sub [2, 1, 0] rfl ?_
  refine t_X11_digest_L6 (fun v1_6 h => ?_) C _ _ _ h
  refine r_aload_n C dX11_digest_31 rfl 0 rfl ?_
  refine gfX11_24 C dX11_digest_32 ?_
  refine r_lload_n C dX11_digest_35 rfl 1 rfl ?_
  obtain ⟨r_7, er_7, h⟩ := bdE h
  refine kX11_342 C (m_X1_digestFrom er_7) (by decide) (Nat.le_of_ble_eq_true rfl) dX11_digest_36 ?_
  refine r_lstore_n C dX11_digest_39 rfl (Nat.le_of_ble_eq_true rfl) (L' := [(1, _), (0, _)]) rfl ?_
  refine r_aload_n C dX11_digest_40 rfl 1 rfl ?_
  refine gfX11_33 C dX11_digest_41 ?_
  refine r_lload_n C dX11_digest_44 rfl 0 rfl ?_
  obtain ⟨r_8, er_8, h⟩ := bdE h
  refine kX11_346 C (m_X6_digestFrom er_8) (by decide) (Nat.le_of_ble_eq_true rfl) dX11_digest_45 ?_
  refine r_lstore_n C dX11_digest_48 rfl (Nat.le_of_ble_eq_true rfl) (L' := [(1, _), (0, _)]) rfl ?_
  refine r_iconst (v := 0) C dX11_digest_49 (by decide) ?_
  refine r_istore_n C dX11_digest_50 rfl (Nat.le_of_ble_eq_true rfl) (L' := [(3, _), (1, _), (0, _)]) rfl ?_
  refine r_sub [2, 1, 0] rfl ?_
  refine t_X11_digest_L51 (fun v1_15 h => ?_) C _ _ _ h
  refine r_iconst (v := 0) C dX11_digest_74 (by decide) ?_
  refine r_istore_n C dX11_digest_75 rfl (Nat.le_of_ble_eq_true rfl) (L' := [(3, _), (0, _), (1, _)]) rfl ?_
  refine r_sub [1, 2, 0] rfl ?_
  exact t_X11_digest_L76 C _ _ _ h
