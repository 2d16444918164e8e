set_option maxRecDepth 100000 in
theorem q_41 : (Jvm.Cond.methodLink "QuarrelBook$Rules" (3 : Nat) ({ cls := "java/lang/Object", name := "<init>", desc := "()V" } : Jvm.MethodName)) ∈ lw_good := lw_mem 41 (by decide +kernel) rfl
/-! Rules.<init>: behind its two rows the loops write them -/
def clR (g : Gc) : Cl := fun d _ kd n y _ => if (kd = 8 ∧ n = 0) ∨ (kd = 9 ∧ n = 0) then .inl (d 0, 244, .inl y) else g kd n
abbrev WR (ks : List (Nat × Nat)) (g : Gc) : Wk := (ks, clR g)
def HR (ks : List (Nat × Nat)) (g : Gc) (w : Wp) : Prop := (7, 0) ∈ ks ∧ (8, 0) ∈ ks ∧ (9, 0) ∈ ks ∧ g 7 0 = .inr (8, [.ref (wa w 8 0), .ref (wa w 9 0)])
section
variable {x : Ctx} {w : Wp} {cc : ByteArray} {nL lv : Nat} {own : String} {ret : Option FieldType} {Q : State → Prop} {σ : St} {pc : Nat} {L : List (Nat × Value)} {st : List Value} {ks : List (Nat × Nat)} {g : Gc} {k : Wk}
theorem gfR_9 (hR : HR ks g w) (C : Cx x (WR ks g) w cc nL RX8 lv ret) (hd : decode cc pc = .ok (.getfield 9, 3)) (h : V x (WR ks g) w nL Q σ (pc + 3) L (.ref (wa w 8 0) :: st)) : V x (WR ks g) w nL Q σ pc L (.ref (wa w 7 0) :: st) := r_get C hR.1 (show clR g (wd w) (wa w) 7 0 (σ.1 7 0) σ.2 = _ from hR.2.2.2) rfl iwX8 0 (by decide) q_46 rfl rfl hd h
theorem gfR_15 (hR : HR ks g w) (C : Cx x (WR ks g) w cc nL RX8 lv ret) (hd : decode cc pc = .ok (.getfield 15, 3)) (h : V x (WR ks g) w nL Q σ (pc + 3) L (.ref (wa w 9 0) :: st)) : V x (WR ks g) w nL Q σ pc L (.ref (wa w 7 0) :: st) := r_get C hR.1 (show clR g (wd w) (wa w) 7 0 (σ.1 7 0) σ.2 = _ from hR.2.2.2) rfl iwX8 1 (by decide) q_48 rfl rfl hd h
theorem ldR_8 (hR : HR ks g w) (C : Cx x (WR ks g) w cc nL own lv ret) {i : Int32} (hi : inb i 244 = true) (hd : decode cc pc = .ok (.iaload, 1)) (h : V x (WR ks g) w nL Q σ (pc + 1) L (.int (σ.1 8 0 i.toNatClampNeg) :: st)) : V x (WR ks g) w nL Q σ pc L (.int i :: .ref (wa w 8 0) :: st) := r_iald C hR.2.1 rfl hi hd h
theorem ldR_9 (hR : HR ks g w) (C : Cx x (WR ks g) w cc nL own lv ret) {i : Int32} (hi : inb i 244 = true) (hd : decode cc pc = .ok (.iaload, 1)) (h : V x (WR ks g) w nL Q σ (pc + 1) L (.int (σ.1 9 0 i.toNatClampNeg) :: st)) : V x (WR ks g) w nL Q σ pc L (.int i :: .ref (wa w 9 0) :: st) := r_iald C hR.2.2.1 rfl hi hd h
theorem stR_8 (hR : HR ks g w) (C : Cx x (WR ks g) w cc nL own lv ret) {i v : Int32} (hi : inb i 244 = true) (hd : decode cc pc = .ok (.iastore, 1)) (h : V x (WR ks g) w nL Q (sX σ 8 0 i.toNatClampNeg v) (pc + 1) L st) : V x (WR ks g) w nL Q σ pc L (.int v :: .int i :: .ref (wa w 8 0) :: st) := r_iast C hR.2.1 (fun _ => rfl) hi hd h
theorem stR_9 (hR : HR ks g w) (C : Cx x (WR ks g) w cc nL own lv ret) {i v : Int32} (hi : inb i 244 = true) (hd : decode cc pc = .ok (.iastore, 1)) (h : V x (WR ks g) w nL Q (sX σ 9 0 i.toNatClampNeg v) (pc + 1) L st) : V x (WR ks g) w nL Q σ pc L (.int v :: .int i :: .ref (wa w 9 0) :: st) := r_iast C hR.2.2.1 (fun _ => rfl) hi hd h
theorem r_getsP (hKB : KnB w (xS x)) (C : Cx x k w cc nL RX8 lv ret) (hd : decode cc pc = .ok (.getstatic 18, 3)) (h : ∀ t : Nat, va_T .int t 5 (fun j => .int (pw3 j)) (wA w) (xS x) (xS x).heap → V x k w nL Q σ (pc + 3) L (.ref t :: st)) : V x k w nL Q σ pc L st := by
  obtain ⟨hx, hb, hml, hown, hts, hlo, hr, hR, hK, hD, hko⟩ := C
  obtain ⟨-, -, -, -, t, h5, h6⟩ := hK
  intro H locs ls hP hS hl
  exact va_getsN hx hb h5 hS hown (va_Nw.use rfl hKB.2.1) (fun _ z => z) hd (h t h6 H locs ls hP hS hl)
theorem r_getsS (hKB : KnB w (xS x)) (C : Cx x k w cc nL RX8 lv ret) (hd : decode cc pc = .ok (.getstatic 21, 3)) (h : ∀ t : Nat, va_T .int t 5 (fun j => .int (sw5 j)) (wA w) (xS x) (xS x).heap → V x k w nL Q σ (pc + 3) L (.ref t :: st)) : V x k w nL Q σ pc L st := by
  obtain ⟨hx, hb, hml, hown, hts, hlo, hr, hR, hK, hD, hko⟩ := C
  obtain ⟨-, -, h2, -, -, -, -, -, -, t, h5, h6⟩ := hKB
  intro H locs ls hP hS hl
  exact va_getsN hx hb h5 hS hown (va_Nw.use rfl h2) (fun _ z => z) hd (h t h6 H locs ls hP hS hl)
theorem r_ldS5 (C : Cx x k w cc nL own lv ret) {t : Nat} (hT : va_T .int t 5 (fun j => .int (sw5 j)) (wA w) (xS x) (xS x).heap) {i : Int32} (hi : inb i 5 = true) (hd : decode cc pc = .ok (.iaload, 1)) (h : V x k w nL Q σ (pc + 1) L (.int (sw5 i.toNatClampNeg) :: st)) : V x k w nL Q σ pc L (.int i :: .ref t :: st) := by
  obtain ⟨hx, hb, hml, hown, hts, hlo, hr, hR, hK, hD, hko⟩ := C
  intro H locs ls hP hS hl
  exact va_ti hx hb hT hS (inb_vp hi) rfl hd (h H locs ls hP hS hl)
end

def Ru_init_J103 (B40 : Int32 → St → Option (St)) (v1_26 : Int32) (v2_27 : Int32)  (s_28 : St) : Option (St) :=
  B40 (v2_27 + 1) s_28
def Ru_init_J89 (B40 : Int32 → St → Option (St)) (v1_17 : Int32) (v2_18 : Int32) (t_19 : Int32) (t_20 : Int32) (t_21 : Int32) (s_22 : St) : Option (St) :=
  if inb t_21 244 = true then if inb v1_17 244 = true then if inb v1_17 244 = true then Ru_init_J103 B40 v1_17 v2_18 (sX (sX s_22 8 0 t_21.toNatClampNeg (t_20 &&& t_19)) 9 0 v1_17.toNatClampNeg (((sX s_22 8 0 t_21.toNatClampNeg (t_20 &&& t_19)).1 9 0 v1_17.toNatClampNeg) ||| (1 <<< (v2_18 &&& 31)))) else none else none else none
def Ru_init_L40 (K109 : St → Option (St)) (v1_5 : Int32) : Nat → Int32 → St → Option (St)
  | 0, _, _ => none
  | n + 1, v2_6, s_7 => if 5 ≤ v2_6 then (K109 s_7) else (if inb v2_6 5 = true then if ¬ (pw3 v2_6.toNatClampNeg) = 0 then if ((v1_5 / (pw3 v2_6.toNatClampNeg)) - (v1_5 / (pw3 v2_6.toNatClampNeg)) / 3 * 3) = 0 then (Ru_init_J103 (Ru_init_L40 K109 v1_5 n) v1_5 v2_6 s_7) else (if inb v1_5 244 = true then if ((v1_5 / (pw3 v2_6.toNatClampNeg)) - (v1_5 / (pw3 v2_6.toNatClampNeg)) / 3 * 3) = 1 then (if inb v2_6 5 = true then Ru_init_J89 (Ru_init_L40 K109 v1_5 n) v1_5 v2_6 (sw5 v2_6.toNatClampNeg) (s_7.1 8 0 v1_5.toNatClampNeg) v1_5 s_7 else none) else (if inb v2_6 5 = true then Ru_init_J89 (Ru_init_L40 K109 v1_5 n) v1_5 v2_6 ((sw5 v2_6.toNatClampNeg) ^^^ (-1)) (s_7.1 8 0 v1_5.toNatClampNeg) v1_5 s_7 else none) else none) else none else none)
def Ru_init_L24   : Nat → Int32 → St → Option (St)
  | 0, _, _ => none
  | n + 1, v1_1, s_2 => if 243 ≤ v1_1 then (some s_2) else (if inb v1_1 244 = true then Ru_init_L40 (fun (s_36 : St) => (Ru_init_L24 n) (v1_1 + 1) s_36) v1_1 1100 0 (sX s_2 8 0 v1_1.toNatClampNeg (-1)) else none)
def Ru_init (s0 : St) : Option (St) :=
  Ru_init_L24 1100 0 s0
set_option maxHeartbeats 4000000 in
set_option maxRecDepth 100000 in
theorem t_X8_init_J103 {x : Ctx} {w : Wp} {ks : List (Nat × Nat)} {g : Gc} (hR : HR ks g w) (hKB : KnB w (xS x)) {v1_26 : Int32} {v2_27 : Int32}  {s_28 : St} {z : St}  {B40 : Int32 → St → Option (St)} (hB40 : ∀ (u2_29 : Int32) (s_30 : St), B40 u2_29 s_30 = some z → V x (WR ks g) w 4 (QM x (WR ks g) w none z) s_30 40 [(0, .ref (wa w 7 0)), (1, .int v1_26), (2, .int u2_29)] []) (C : Cx x (WR ks g) w cX8_init 4 RX8 1 none) (h : Ru_init_J103 B40 v1_26 v2_27 s_28 = some z) : V x (WR ks g) w 4 (QM x (WR ks g) w none z) s_28 103 [(0, .ref (wa w 7 0)), (1, .int v1_26), (2, .int v2_27)] [] := by
  unfold Ru_init_J103 at h
  refine r_iinc (v := v2_27 + 1) C dX8_init_103 (j := 2) rfl rfl (Nat.le_of_ble_eq_true rfl) (L' := [(2, _), (0, _), (1, _)]) rfl ?_
  refine r_goto (tgt := 40) C dX8_init_106 (by decide) ?_
  refine r_sub [1, 2, 0] rfl ?_
  exact hB40 _ _ h
set_option maxHeartbeats 4000000 in
set_option maxRecDepth 100000 in
theorem t_X8_init_J89 {x : Ctx} {w : Wp} {ks : List (Nat × Nat)} {g : Gc} (hR : HR ks g w) (hKB : KnB w (xS x)) {v1_17 : Int32} {v2_18 : Int32} {t_19 : Int32} {t_20 : Int32} {t_21 : Int32} {s_22 : St} {z : St}  {B40 : Int32 → St → Option (St)} (hB40 : ∀ (u2_31 : Int32) (s_32 : St), B40 u2_31 s_32 = some z → V x (WR ks g) w 4 (QM x (WR ks g) w none z) s_32 40 [(0, .ref (wa w 7 0)), (1, .int v1_17), (2, .int u2_31)] []) (C : Cx x (WR ks g) w cX8_init 4 RX8 1 none) (h : Ru_init_J89 B40 v1_17 v2_18 t_19 t_20 t_21 s_22 = some z) : V x (WR ks g) w 4 (QM x (WR ks g) w none z) s_22 89 [(0, .ref (wa w 7 0)), (1, .int v1_17), (2, .int v2_18)] [.int t_19, .int t_20, .int t_21, .ref (wa w 8 0)] := by
  unfold Ru_init_J89 at h
  refine r_iand C dX8_init_89 ?_
  obtain ⟨g_23, h⟩ := gdE h
  refine stR_8 hR C g_23 dX8_init_90 ?_
  refine r_aload_n C dX8_init_91 rfl 0 rfl ?_
  refine gfR_15 hR C dX8_init_92 ?_
  refine r_iload_n C dX8_init_95 rfl 1 rfl ?_
  refine r_dup2 C dX8_init_96 rfl rfl ?_
  obtain ⟨g_24, h⟩ := gdE h
  refine ldR_9 hR C g_24 dX8_init_97 ?_
  refine r_iconst (v := 1) C dX8_init_98 (by decide) ?_
  refine r_iload_n C dX8_init_99 rfl 2 rfl ?_
  refine r_ishl C dX8_init_100 ?_
  refine r_ior C dX8_init_101 ?_
  obtain ⟨g_25, h⟩ := gdE h
  refine stR_9 hR C g_25 dX8_init_102 ?_
  refine r_sub [0, 1, 2] rfl ?_
  exact t_X8_init_J103 hR hKB hB40 C h
set_option maxHeartbeats 4000000 in
set_option maxRecDepth 100000 in
theorem t_X8_init_L40 {x : Ctx} {w : Wp} {ks : List (Nat × Nat)} {g : Gc} (hR : HR ks g w) (hKB : KnB w (xS x)) {v1_5 : Int32} {z : St}  {K109 : St → Option (St)} (hK109 : ∀ (s_35 : St), K109 s_35 = some z → V x (WR ks g) w 4 (QM x (WR ks g) w none z) s_35 109 [(0, .ref (wa w 7 0)), (1, .int v1_5)] []) (C : Cx x (WR ks g) w cX8_init 4 RX8 1 none) : ∀ (n : Nat) (v2_6 : Int32) (s_7 : St), Ru_init_L40 K109 v1_5 n v2_6 s_7 = some z → V x (WR ks g) w 4 (QM x (WR ks g) w none z) s_7 40 [(0, .ref (wa w 7 0)), (1, .int v1_5), (2, .int v2_6)] [] := by
  intro n
  induction n with
  | zero => intro v2_6 s_7 h; cases h
  | succ n ih =>
    intro v2_6 s_7 h
    unfold Ru_init_L40 at h
    refine r_iload_n C dX8_init_40 rfl 2 rfl ?_
    refine r_iconst (v := 5) C dX8_init_41 (by decide) ?_
    refine r_icmp_ge (tgt := 109) C dX8_init_42 (by decide) (fun c_8 => ?_) (fun c_8 => ?_)
    · have h := ip h c_8
      refine r_sub [0, 1] rfl ?_
      exact hK109 _ h
    · have h := iq h c_8
      refine r_iload_n C dX8_init_45 rfl 1 rfl ?_
      refine r_getsP hKB C dX8_init_46 (fun t3_9 ht3_9 => ?_)
      refine r_iload_n C dX8_init_49 rfl 2 rfl ?_
      obtain ⟨g_10, h⟩ := gdE h
      refine r_ldP3 C ht3_9 g_10 dX8_init_50 ?_
      obtain ⟨g_11, h⟩ := gdE h
      refine r_idiv C dX8_init_51 g_11 ?_
      refine r_iconst (v := 3) C dX8_init_52 (by decide) ?_
      refine r_irem C dX8_init_53 (by decide) ?_
      refine r_istore_n C dX8_init_54 rfl (Nat.le_of_ble_eq_true rfl) (L' := [(3, _), (0, _), (1, _), (2, _)]) rfl ?_
      refine r_iload_n C dX8_init_55 rfl 0 rfl ?_
      refine r_if_ne (tgt := 62) C dX8_init_56 (by decide) (fun c_12 => ?_) (fun c_12 => ?_)
      · have h := iq h c_12
        refine r_aload_n C dX8_init_62 rfl 1 rfl ?_
        refine gfR_9 hR C dX8_init_63 ?_
        refine r_iload_n C dX8_init_66 rfl 2 rfl ?_
        refine r_dup2 C dX8_init_67 rfl rfl ?_
        obtain ⟨g_13, h⟩ := gdE h
        refine ldR_8 hR C g_13 dX8_init_68 ?_
        refine r_iload_n C dX8_init_69 rfl 0 rfl ?_
        refine r_iconst (v := 1) C dX8_init_70 (by decide) ?_
        refine r_icmp_ne (tgt := 82) C dX8_init_71 (by decide) (fun c_14 => ?_) (fun c_14 => ?_)
        · have h := iq h c_14
          refine r_getsS hKB C dX8_init_82 (fun t3_15 ht3_15 => ?_)
          refine r_iload_n C dX8_init_85 rfl 3 rfl ?_
          obtain ⟨g_16, h⟩ := gdE h
          refine r_ldS5 C ht3_15 g_16 dX8_init_86 ?_
          refine r_iconst (v := (-1)) C dX8_init_87 (by decide) ?_
          refine r_ixor C dX8_init_88 ?_
          refine r_sub [1, 2, 3] rfl ?_
          exact t_X8_init_J89 hR hKB ih C h
        · have h := ip h c_14
          refine r_getsS hKB C dX8_init_74 (fun t3_33 ht3_33 => ?_)
          refine r_iload_n C dX8_init_77 rfl 3 rfl ?_
          obtain ⟨g_34, h⟩ := gdE h
          refine r_ldS5 C ht3_33 g_34 dX8_init_78 ?_
          refine r_goto (tgt := 89) C dX8_init_79 (by decide) ?_
          refine r_sub [1, 2, 3] rfl ?_
          exact t_X8_init_J89 hR hKB ih C h
      · have h := ip h c_12
        refine r_goto (tgt := 103) C dX8_init_59 (by decide) ?_
        refine r_sub [1, 2, 3] rfl ?_
        exact t_X8_init_J103 hR hKB ih C h
set_option maxHeartbeats 4000000 in
set_option maxRecDepth 100000 in
theorem t_X8_init_L24 {x : Ctx} {w : Wp} {ks : List (Nat × Nat)} {g : Gc} (hR : HR ks g w) (hKB : KnB w (xS x))  {z : St}    (C : Cx x (WR ks g) w cX8_init 4 RX8 1 none) : ∀ (n : Nat) (v1_1 : Int32) (s_2 : St), Ru_init_L24 n v1_1 s_2 = some z → V x (WR ks g) w 4 (QM x (WR ks g) w none z) s_2 24 [(0, .ref (wa w 7 0)), (1, .int v1_1)] [] := by
  intro n
  induction n with
  | zero => intro v1_1 s_2 h; cases h
  | succ n ih =>
    intro v1_1 s_2 h
    unfold Ru_init_L24 at h
    refine r_iload_n C dX8_init_24 rfl 1 rfl ?_
    refine r_sipush (v := 243) C dX8_init_25 (by decide) ?_
    refine r_icmp_ge (tgt := 115) C dX8_init_28 (by decide) (fun c_3 => ?_) (fun c_3 => ?_)
    · have h := ip h c_3
      cases h
      exact r_vret C dX8_init_115
    · have h := iq h c_3
      refine r_aload_n C dX8_init_31 rfl 0 rfl ?_
      refine gfR_9 hR C dX8_init_32 ?_
      refine r_iload_n C dX8_init_35 rfl 1 rfl ?_
      refine r_iconst (v := (-1)) C dX8_init_36 (by decide) ?_
      obtain ⟨g_4, h⟩ := gdE h
      refine stR_8 hR C g_4 dX8_init_37 ?_
      refine r_iconst (v := 0) C dX8_init_38 (by decide) ?_
      refine r_istore_n C dX8_init_39 rfl (Nat.le_of_ble_eq_true rfl) (L' := [(2, _), (0, _), (1, _)]) rfl ?_
      refine r_sub [1, 2, 0] rfl ?_
      refine t_X8_init_L40 hR hKB (fun s_36 h => ?_) C _ _ _ h
      refine r_iinc (v := v1_1 + 1) C dX8_init_109 (j := 1) rfl rfl (Nat.le_of_ble_eq_true rfl) (L' := [(1, _), (0, _)]) rfl ?_
      refine r_goto (tgt := 24) C dX8_init_112 (by decide) ?_
      refine r_sub [1, 0] rfl ?_
      exact ih _ _ h
set_option maxHeartbeats 4000000 in
set_option maxRecDepth 100000 in
theorem v_X8_init {x : Ctx} {w : Wp} {ks : List (Nat × Nat)} {g : Gc} (hR : HR ks g w) (hKB : KnB w (xS x)) {s0 : St} {z : St} (C : Cx x (WR ks g) w cX8_init 4 RX8 1 none) (h : Ru_init s0 = some z) : V x (WR ks g) w 4 (QM x (WR ks g) w none z) s0 22 [(0, .ref (wa w 7 0))] [] := by
  unfold Ru_init at h
  refine r_iconst (v := 0) C dX8_init_22 (by decide) ?_
  refine r_istore_n C dX8_init_23 rfl (Nat.le_of_ble_eq_true rfl) (L' := [(1, _), (0, _)]) rfl ?_
  refine r_sub [1, 0] rfl ?_
  exact t_X8_init_L24 hR hKB C _ _ _ h
theorem inb_nI {i N : Nat} (h : i < N) (hN : N < 2147483648) : inb (nI i) N = true := by
  have h0 : ¬ nI i < 0 := nI_pos (by omega)
  have hc : (nI i).toNatClampNeg = i := nI_clamp (by omega)
  simp only [inb, hc, Bool.and_eq_true, decide_eq_true_eq]
  exact ⟨h0, h⟩
def stepR (s : St) (i t : Nat) : St := if figT i t = 0 then s else sX (sX s 8 0 i (if figT i t = 1 then s.1 8 0 i &&& sw5 t else s.1 8 0 i &&& (sw5 t ^^^ (-1)))) 9 0 i (s.1 9 0 i ||| (1 <<< (nI t &&& 31)))
theorem figT_nI {i t : Nat} (hi : i < 243) (ht : t < 5) : nI i / pw3 t - nI i / pw3 t / 3 * 3 = nI (figT i t) := by
  have hp : ∀ t, t < 5 → pw3 t = nI (3 ^ t) := by decide
  have hb : ∀ t, t < 5 → 0 < 3 ^ t ∧ 3 ^ t < 2 ^ 31 := by decide
  have h1 : i / 3 ^ t ≤ i := Nat.div_le_self _ _
  rw [hp t ht, pk_div (by omega) (hb t ht).1 (hb t ht).2]
  exact pk_rem (d := 3) (by omega) (by decide) (by decide)
theorem Ru_in_step (K : St → Option St) {i t : Nat} (n : Nat) (hi : i < 243) (ht : t < 5) (s : St) : Ru_init_L40 K (nI i) (n + 1) (nI t) s = Ru_init_L40 K (nI i) n (nI (t + 1)) (stepR s i t) := by
  have h1 : ¬ (5 : Int32) ≤ nI t := nI_ge (b := 5) ht (by decide)
  have h2 : inb (nI t) 5 = true := inb_nI ht (by decide)
  have h3 : (nI t).toNatClampNeg = t := nI_clamp (by omega)
  have h4 : ¬ pw3 t = 0 := by
    have : ∀ t, t < 5 → ¬ pw3 t = 0 := by decide
    exact this t ht
  have h5 := figT_nI hi ht
  have h6 : inb (nI i) 244 = true := inb_nI (by omega) (by decide)
  have h7 : (nI i).toNatClampNeg = i := nI_clamp (by omega)
  have h8 : figT i t < 3 := Nat.mod_lt _ (by decide)
  have e0 : (nI (figT i t) = 0) ↔ figT i t = 0 := nI_eq (b := 0) (by omega) (by decide)
  have e1 : (nI (figT i t) = 1) ↔ figT i t = 1 := nI_eq (b := 1) (by omega) (by decide)
  have e9 : ∀ v : Int32, (sX s 8 0 i v).1 9 0 i = s.1 9 0 i := fun v => by rw [sX_at]; simp
  have e10 : nI t + 1 = nI (t + 1) := nI_1 t
  rw [Ru_init_L40]
  simp only [h1, h2, h3, h4, h5, h6, h7, if_true, if_false, e0, e1, Ru_init_J103, Ru_init_J89, not_false_eq_true, e9, e10]
  unfold stepR
  by_cases f0 : figT i t = 0
  · simp only [f0, if_true]
  · by_cases f1 : figT i t = 1
    · simp only [f1, if_true, if_false]
      rfl
    · simp only [f0, f1, if_false]
theorem Ru_in (K : St → Option St) {i : Nat} (n : Nat) (hi : i < 243) (s : St) : Ru_init_L40 K (nI i) (n + 6) 0 s = K (stepR (stepR (stepR (stepR (stepR s i 0) i 1) i 2) i 3) i 4) := by
  have e0 : (0 : Int32) = nI 0 := rfl
  rw [e0, Ru_in_step K (n + 5) hi (by decide), Ru_in_step K (n + 4) hi (by decide), Ru_in_step K (n + 3) hi (by decide), Ru_in_step K (n + 2) hi (by decide), Ru_in_step K (n + 1) hi (by decide)]
  rw [Ru_init_L40]
  rw [if_pos (show (5 : Int32) ≤ nI (4 + 1) from by decide)]
theorem stepR_8 {s : St} {i t : Nat} (h : s.1 8 0 i = owS i t) : (stepR s i t).1 8 0 i = owS i (t + 1) := by
  unfold stepR
  rw [owS]
  by_cases f0 : figT i t = 0
  · simp [f0, h]
  · by_cases f1 : figT i t = 1
    · simp [f1, sX_at, h]
    · simp [f0, f1, sX_at, h]
theorem stepR_9 {s : St} {i t : Nat} (h : s.1 9 0 i = lkS i t) : (stepR s i t).1 9 0 i = lkS i (t + 1) := by
  unfold stepR
  rw [lkS]
  by_cases f0 : figT i t = 0
  · simp [f0, h]
  · simp [f0, sX_at, h]
theorem stepR_o {s : St} {i t j k : Nat} (h : j ≠ i) : (stepR s i t).1 k 0 j = s.1 k 0 j := by
  unfold stepR
  by_cases f0 : figT i t = 0
  · simp [f0]
  · simp [f0, sX_at, h]
theorem Ru_out : ∀ (r i n : Nat) (s : St), i + r = 243 → r < n → (∀ j, s.1 8 0 j = if j < i then owT j else 0) → (∀ j, s.1 9 0 j = if j < i then lkT j else 0) → ∃ z, Ru_init_L24 n (nI i) s = some z ∧ (∀ j, z.1 8 0 j = owT j) ∧ (∀ j, z.1 9 0 j = lkT j) := by
  intro r
  induction r with
  | zero =>
    intro i n s hi hn h8 h9
    obtain ⟨n, rfl⟩ : ∃ k, n = k + 1 := ⟨n - 1, by omega⟩
    have e : i = 243 := by omega
    subst e
    refine ⟨s, ?_, fun j => ?_, fun j => ?_⟩
    · rw [Ru_init_L24, if_pos (show (243 : Int32) ≤ nI 243 from by decide)]
    · rw [h8]; unfold owT; by_cases hj : j < 243 <;> simp [hj]
    · rw [h9]; unfold lkT; by_cases hj : j < 243 <;> simp [hj]
  | succ r ih =>
    intro i n s hi hn h8 h9
    obtain ⟨n, rfl⟩ : ∃ k, n = k + 1 := ⟨n - 1, by omega⟩
    rw [Ru_init_L24, if_neg (show ¬ (243 : Int32) ≤ nI i from nI_ge (b := 243) (by omega) (by decide)), if_pos (inb_nI (by omega) (by decide))]
    rw [show (nI i).toNatClampNeg = i from nI_clamp (by omega), show (1100 : Nat) = 1094 + 6 from rfl, Ru_in _ _ (by omega), nI_1]
    refine ih (i + 1) n _ (by omega) (by omega) (fun j => ?_) (fun j => ?_)
    · by_cases hj : j = i
      · subst hj
        rw [stepR_8 (stepR_8 (stepR_8 (stepR_8 (stepR_8 (by rw [sX_at]; simp [owS]))))), if_pos (by omega)]
        unfold owT
        rw [if_pos (by omega)]
      · rw [stepR_o hj, stepR_o hj, stepR_o hj, stepR_o hj, stepR_o hj, sX_at, if_neg (by omega), h8]
        by_cases h : j < i
        · rw [if_pos h, if_pos (by omega)]
        · rw [if_neg h, if_neg (by omega)]
    · by_cases hj : j = i
      · subst hj
        rw [stepR_9 (stepR_9 (stepR_9 (stepR_9 (stepR_9 (by rw [sX_at, if_neg (by omega), h9, if_neg (by omega)]; rfl))))), if_pos (by omega)]
        unfold lkT
        rw [if_pos (by omega)]
      · rw [stepR_o hj, stepR_o hj, stepR_o hj, stepR_o hj, stepR_o hj, sX_at, if_neg (by omega), h9]
        by_cases h : j < i
        · rw [if_pos h, if_pos (by omega)]
        · rw [if_neg h, if_neg (by omega)]
theorem Ru_all (s : St) (h8 : ∀ j, s.1 8 0 j = 0) (h9 : ∀ j, s.1 9 0 j = 0) : ∃ z, Ru_init s = some z ∧ z.1 8 0 = owT ∧ z.1 9 0 = lkT := by
  obtain ⟨z, h1, h2, h3⟩ := Ru_out 243 0 1100 s rfl (by decide) (fun j => by simp [h8]) (fun j => by simp [h9])
  exact ⟨z, h1, funext h2, funext h3⟩
/-- from the world of a walk to a world that is being built -/
theorem V_toB {x : Ctx} {k : Wk} {w : Wp} {nL c m pc : Nat} {σ z : St} {L : List (Nat × Value)} {st : List Value} {ks : List (Nat × Nat)} {g g' : Gc} (e1 : wl k w σ = wlG ks w g) (e2 : wl k w z = wlG ks w g') (h : V (xP x, xL x, xE x, xR x, xS x, xM x, xA x, xB x, xT x, xC x, c, m) k w nL (QM (xP x, xL x, xE x, xR x, xS x, xM x, xA x, xB x, xT x, xC x, c, m) k w none z) σ pc L st) : VB x w nL (QB x w ks g' c m) ks g c m pc L st := by
  intro H locs ls hP hD hS hl T hT X
  obtain ⟨t, a1, o, b1, b2, ⟨b3, b4, b5⟩, b6⟩ := h H locs ls (by rw [e1]; exact hP) hS hl T hT X
  exact ⟨t, a1, o, b1, b2, ⟨b3, by rw [← e2]; exact b4, wlG_D hD, b5⟩, b6⟩
theorem VB_go {x : Ctx} {w : Wp} {nL c m pc : Nat} {Q : State → Prop} {L : List (Nat × Value)} {st : List Value} {ks : List (Nat × Nat)} {g : Gc} (h : VB x w nL Q ks g c m pc L st) : ∀ (H : Heap) (locs : List Loc) (ls : Array Slot), va_P (wD w) vwCl (wlG ks w g) H → va_D (wA w) (wlG ks w g) → va_S (wA w) (xS x).heap H locs → lv_has ls nL L → Wb x H locs c m Q (F0 (xM x) pc ls st) := h
theorem CxB.toCx {x : Ctx} {w : Wp} {cc : ByteArray} {nL lv mc ms z c m : Nat} {own : String} {k : Wk} (C : CxB x w cc nL own lv mc ms z) (hc : c ≤ mc) (hm : m ≤ ms) (hD : ∀ σ, va_D (wA w) (wl k w σ)) (hko : Ko k) : Cx (xP x, xL x, xE x, xR x, xS x, xM x, xA x, xB x, xT x, xC x, c, m) k w cc nL own lv none := by
  obtain ⟨hx, hb, hml, hown, hts, hlo, hr, hR, hK, hA, hin2, hz0⟩ := C
  exact ⟨hx, hb, hml, hown, hts, hlo, hr, ⟨hR.1, hR.2.1, by show c ≤ (xR x).cells; rw [hR.2.2.1]; exact hc, by show m ≤ (xR x).slots; rw [hR.2.2.2]; exact hm⟩, hK.1, hD, hko⟩
theorem clR_wl {ks : List (Nat × Nat)} {w : Wp} {g g' : Gc} {σ : St} (h8 : g' 8 0 = .inl (wd w 0, 244, .inl (σ.1 8 0))) (h9 : g' 9 0 = .inl (wd w 0, 244, .inl (σ.1 9 0))) (ho : ∀ a b, ¬ (a = 8 ∧ b = 0) → ¬ (a = 9 ∧ b = 0) → g a b = g' a b) : wl (WR ks g) w σ = wlG ks w g' := by
  unfold wl wlG
  apply List.map_congr_left
  intro q _
  refine Prod.ext rfl ?_
  show clR g (wd w) (wa w) q.1 q.2 (σ.1 q.1 q.2) σ.2 = g' q.1 q.2
  unfold clR
  by_cases a1 : q.1 = 8 ∧ q.2 = 0
  · rw [if_pos (Or.inl a1), a1.1, a1.2, h8]
  · by_cases a2 : q.1 = 9 ∧ q.2 = 0
    · rw [if_pos (Or.inr a2), a2.1, a2.2, h9]
    · rw [if_neg (by rintro (h | h); exact a1 h; exact a2 h), ho _ _ a1 a2]
set_option maxHeartbeats 400000 in
set_option maxRecDepth 100000 in
theorem mb_X8_init {l : Launch} {w : Wp} {b : Nat} {ks : List (Nat × Nat)} {g : Gc} (hw : wa w = adC b) (hm0 : (7, 0) ∈ ks) (he0 : g 7 0 = .inr (8, [.null, .null])) : CmB l yX8_init (.code yX8_init cX8_init 4 none) 1 2 488 w [.ref (wa w 7 0)] ks g (b + offC 8 0) (ks ++ [(8, 0)] ++ [(9, 0)]) (gO g w [(7, 0), (8, 0), (9, 0)]) := by
  refine CmB.of (own := RX8) (by decide +kernel) rfl rfl (Nat.le_of_ble_eq_true rfl) (L := [(0, .ref (wa w 7 0))]) rfl (fun x hl C => ?_)
  subst hl
  refine b_aload_n C dX8_init_0 rfl 0 rfl ?_
  refine b_obj C q_41 q_24 q_25 (by decide) dX8_init_1 ?_
  refine b_aload_n C dX8_init_4 rfl 0 rfl ?_
  refine b_sipush (v := 244) C dX8_init_5 (by decide) ?_
  refine b_newa (atype := .int) (t0 := 0) (N := 244) C 8 0 q_54 rfl (fun _ _ h => h) (fun _ => rfl) (by decide) (by decide) (by decide) (adr hw (by simp only [offC] <;> omega)) (Or.inl rfl) (Nat.le_of_ble_eq_true rfl) (Nat.le_of_ble_eq_true rfl) dX8_init_8 ?_
  refine b_put (ty := tyX8 0) C (by simp [hm0]) ((gU_ne _ _ _ _ (fun z => absurd z.1 (by decide))).trans he0) rfl iwX8 tyX8 tyX8_ok nmX8 0 (by decide) q_46 rfl rfl (by decide +kernel) rfl rfl (Nat.le_of_ble_eq_true rfl) dX8_init_10 ?_
  refine b_aload_n C dX8_init_13 rfl 0 rfl ?_
  refine b_sipush (v := 244) C dX8_init_14 (by decide) ?_
  refine b_newa (atype := .int) (t0 := 0) (N := 244) C 9 0 q_54 rfl (fun _ _ h => h) (fun _ => rfl) (by decide) (by decide) (by decide) (adr hw (by simp only [offC] <;> omega)) (Or.inr ⟨(8, 0), by simp, lowp hw (by simp only [offC] <;> omega)⟩) (Nat.le_of_ble_eq_true rfl) (Nat.le_of_ble_eq_true rfl) dX8_init_17 ?_
  refine b_put (ty := tyX8 1) C (by simp [hm0]) ((gU_ne _ _ _ _ (fun z => absurd z.1 (by decide))).trans (gU_self _ _ _ _)) rfl iwX8 tyX8 tyX8_ok nmX8 1 (by decide) q_48 rfl rfl (by decide +kernel) rfl rfl (Nat.le_of_ble_eq_true rfl) dX8_init_19 ?_
  intro H locs ls hP hD hS hls
  refine VB_go ?_ H locs ls hP hD hS hls
  obtain ⟨z, hz1, hz2, hz3⟩ := Ru_all (fun _ _ _ => 0, fun _ => 0) (fun _ => rfl) (fun _ => rfl)
  have hko : Ko (WR (ks ++ [(8, 0)] ++ [(9, 0)]) (gU (gU (gU (gU g 8 0 (.inl (wd w 0, 244, .inl (fun _ => 0)))) 7 0 (.inr (8, [.null, .null].set 0 (.ref (wa w 8 0))))) 9 0 (.inl (wd w 0, 244, .inl (fun _ => 0)))) 7 0 (.inr (8, ([.null, .null].set 0 (.ref (wa w 8 0))).set 1 (.ref (wa w 9 0)))))) := fun i j q hi hj => hD.1 i j _ _ (wlG_get (kd := q.1) (n := q.2) hi) (wlG_get (kd := q.1) (n := q.2) hj) rfl
  have hDD : ∀ σ, va_D (wA w) (wl (WR (ks ++ [(8, 0)] ++ [(9, 0)]) (gU (gU (gU (gU g 8 0 (.inl (wd w 0, 244, .inl (fun _ => 0)))) 7 0 (.inr (8, [.null, .null].set 0 (.ref (wa w 8 0))))) 9 0 (.inl (wd w 0, 244, .inl (fun _ => 0)))) 7 0 (.inr (8, ([.null, .null].set 0 (.ref (wa w 8 0))).set 1 (.ref (wa w 9 0)))))) w σ) := fun σ => by
    rw [clR_wl (g' := gU (gU (gU (gU (gU (gU g 8 0 (.inl (wd w 0, 244, .inl (fun _ => 0)))) 7 0 (.inr (8, [.null, .null].set 0 (.ref (wa w 8 0))))) 9 0 (.inl (wd w 0, 244, .inl (fun _ => 0)))) 7 0 (.inr (8, ([.null, .null].set 0 (.ref (wa w 8 0))).set 1 (.ref (wa w 9 0))))) 8 0 (.inl (wd w 0, 244, .inl (σ.1 8 0)))) 9 0 (.inl (wd w 0, 244, .inl (σ.1 9 0)))) ((gU_ne _ _ _ _ (fun z => absurd z.1 (by decide))).trans (gU_self _ _ _ _)) (gU_self _ _ _ _) (fun a b h1 h2 => by rw [gU_ne _ _ _ _ h2, gU_ne _ _ _ _ h1])]
    exact wlG_D hD
  have hR : HR (ks ++ [(8, 0)] ++ [(9, 0)]) (gU (gU (gU (gU g 8 0 (.inl (wd w 0, 244, .inl (fun _ => 0)))) 7 0 (.inr (8, [.null, .null].set 0 (.ref (wa w 8 0))))) 9 0 (.inl (wd w 0, 244, .inl (fun _ => 0)))) 7 0 (.inr (8, ([.null, .null].set 0 (.ref (wa w 8 0))).set 1 (.ref (wa w 9 0))))) w := ⟨by simp [hm0], by simp, by simp, (gU_self _ _ _ _)⟩
  have C' := C.toCx (c := 0 + 1 + 1) (m := 0 + 244 + 244) (by decide) (by decide) hDD hko
  refine V_toB (σ := (fun _ _ _ => 0, fun _ => 0)) (z := z) (clR_wl (g := (gU (gU (gU (gU g 8 0 (.inl (wd w 0, 244, .inl (fun _ => 0)))) 7 0 (.inr (8, [.null, .null].set 0 (.ref (wa w 8 0))))) 9 0 (.inl (wd w 0, 244, .inl (fun _ => 0)))) 7 0 (.inr (8, ([.null, .null].set 0 (.ref (wa w 8 0))).set 1 (.ref (wa w 9 0)))))) ((gU_ne _ _ _ _ (fun z => absurd z.1 (by decide))).trans ((gU_ne _ _ _ _ (fun z => absurd z.1 (by decide))).trans ((gU_ne _ _ _ _ (fun z => absurd z.1 (by decide))).trans (gU_self _ _ _ _)))) ((gU_ne _ _ _ _ (fun z => absurd z.1 (by decide))).trans (gU_self _ _ _ _)) (fun a b h1 h2 => rfl)) ?_ (v_X8_init (x := (xP x, xL x, xE x, xR x, xS x, xM x, xA x, xB x, xT x, xC x, 0 + 1 + 1, 0 + 244 + 244)) hR C.2.2.2.2.2.2.2.2.1 C' hz1)
  refine clR_wl ?_ ?_ (fun a b h1 h2 => ?_)
  · rw [hz2]; exact gO_in (by simp)
  · rw [hz3]; exact gO_in (by simp)
  · by_cases h0 : a = 7 ∧ b = 0
    · obtain ⟨rfl, rfl⟩ := h0
      exact (gU_self _ _ _ _).trans ((clC_7 (wd w) (wa w) 0 (i0 7) y0).symm.trans (gO_in (w := w) (by simp)).symm)
    · rw [gO_out (by simp only [List.mem_cons, Prod.mk.injEq, List.not_mem_nil, or_false, not_or]; exact ⟨h0, h1, h2⟩)]
      simp [gU, h0, h1, h2]

