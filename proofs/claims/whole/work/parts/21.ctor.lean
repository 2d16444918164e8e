set_option maxRecDepth 100000 in
theorem q_24 : (Jvm.Cond.instanceMethod ({ cls := "java/lang/Object", name := "<init>", desc := "()V" } : Jvm.MethodName)) ∈ lw_good := lw_mem 24 (by decide +kernel) rfl
set_option maxRecDepth 100000 in
theorem q_25 : (Jvm.Cond.code ({ cls := "java/lang/Object", name := "<init>", desc := "()V" } : Jvm.MethodName) object_method_1_code (1 : Nat) (Option.none : Option Jvm.ClassFile.FieldType)) ∈ lw_good := lw_mem 25 (by decide +kernel) rfl
set_option maxRecDepth 100000 in
theorem q_54 : (Jvm.Cond.arrayClass Jvm.ClassFile.FieldType.int) ∈ lw_good := lw_mem 54 (by decide +kernel) rfl
set_option maxRecDepth 100000 in
theorem q_60 : (Jvm.Cond.methodLink "QuarrelBook$Bench" (3 : Nat) ({ cls := "java/lang/Object", name := "<init>", desc := "()V" } : Jvm.MethodName)) ∈ lw_good := lw_mem 60 (by decide +kernel) rfl
set_option maxRecDepth 100000 in
theorem q_116 : (Jvm.Cond.methodLink "QuarrelBook$Master" (3 : Nat) ({ cls := "java/lang/Object", name := "<init>", desc := "()V" } : Jvm.MethodName)) ∈ lw_good := lw_mem 116 (by decide +kernel) rfl
set_option maxRecDepth 100000 in
theorem q_117 : (Jvm.Cond.classLink "QuarrelBook$Master" (31 : Nat) "QuarrelBook$Mind") ∈ lw_good := lw_mem 117 (by decide +kernel) rfl
set_option maxRecDepth 100000 in
theorem q_118 : (Jvm.Cond.instantiable "QuarrelBook$Mind" (8 : Nat)) ∈ lw_good := lw_mem 118 (by decide +kernel) rfl
set_option maxRecDepth 100000 in
theorem q_120 : (Jvm.Cond.instanceMethod ({ cls := "QuarrelBook$Mind", name := "<init>", desc := "()V" } : Jvm.MethodName)) ∈ lw_good := lw_mem 120 (by decide +kernel) rfl
set_option maxRecDepth 100000 in
theorem q_121 : (Jvm.Cond.code ({ cls := "QuarrelBook$Mind", name := "<init>", desc := "()V" } : Jvm.MethodName) prog_6_method_1_code (1 : Nat) (Option.none : Option Jvm.ClassFile.FieldType)) ∈ lw_good := lw_mem 121 (by decide +kernel) rfl
set_option maxRecDepth 100000 in
theorem q_122 : (Jvm.Cond.methodLink "QuarrelBook$Mind" (3 : Nat) ({ cls := "java/lang/Object", name := "<init>", desc := "()V" } : Jvm.MethodName)) ∈ lw_good := lw_mem 122 (by decide +kernel) rfl
set_option maxRecDepth 100000 in
theorem q_159 : (Jvm.Cond.fieldLink "QuarrelBook$Master" (9 : Nat) "QuarrelBook$Master" "born" "I") ∈ lw_good := lw_mem 159 (by decide +kernel) rfl
set_option maxRecDepth 100000 in
theorem q_163 : (Jvm.Cond.fieldLink "QuarrelBook$Master" (15 : Nat) "QuarrelBook$Master" "dies" "I") ∈ lw_good := lw_mem 163 (by decide +kernel) rfl
set_option maxRecDepth 100000 in
theorem q_168 : (Jvm.Cond.fieldLink "QuarrelBook$Master" (18 : Nat) "QuarrelBook$Master" "teacher" "I") ∈ lw_good := lw_mem 168 (by decide +kernel) rfl
set_option maxRecDepth 100000 in
theorem q_170 : (Jvm.Cond.fieldLink "QuarrelBook$Master" (21 : Nat) "QuarrelBook$Master" "forebears" "I") ∈ lw_good := lw_mem 170 (by decide +kernel) rfl
set_option maxRecDepth 100000 in
theorem q_172 : (Jvm.Cond.fieldLink "QuarrelBook$Master" (24 : Nat) "QuarrelBook$Master" "own" "[I") ∈ lw_good := lw_mem 172 (by decide +kernel) rfl
set_option maxRecDepth 100000 in
theorem q_178 : (Jvm.Cond.fieldLink "QuarrelBook$Master" (34 : Nat) "QuarrelBook$Master" "mind" "LQuarrelBook$Mind;") ∈ lw_good := lw_mem 178 (by decide +kernel) rfl
set_option maxRecDepth 100000 in
theorem q_293 : (Jvm.Cond.methodLink "QuarrelBook$Move" (3 : Nat) ({ cls := "java/lang/Object", name := "<init>", desc := "()V" } : Jvm.MethodName)) ∈ lw_good := lw_mem 293 (by decide +kernel) rfl
set_option maxRecDepth 100000 in
theorem q_301 : (Jvm.Cond.fieldLink "QuarrelBook$Move" (21 : Nat) "QuarrelBook$Move" "isOpen" "Z") ∈ lw_good := lw_mem 301 (by decide +kernel) rfl
set_option maxRecDepth 100000 in
theorem q_337 : (Jvm.Cond.methodLink "QuarrelBook$Court" (3 : Nat) ({ cls := "java/lang/Object", name := "<init>", desc := "()V" } : Jvm.MethodName)) ∈ lw_good := lw_mem 337 (by decide +kernel) rfl
set_option maxRecDepth 100000 in
theorem q_350 : (Jvm.Cond.methodLink "QuarrelBook$Row" (3 : Nat) ({ cls := "java/lang/Object", name := "<init>", desc := "()V" } : Jvm.MethodName)) ∈ lw_good := lw_mem 350 (by decide +kernel) rfl
set_option maxRecDepth 100000 in
theorem q_364 : (Jvm.Cond.methodLink "QuarrelBook$Text" (3 : Nat) ({ cls := "java/lang/Object", name := "<init>", desc := "()V" } : Jvm.MethodName)) ∈ lw_good := lw_mem 364 (by decide +kernel) rfl
set_option maxRecDepth 100000 in
theorem q_381 : (Jvm.Cond.arrayClass Jvm.ClassFile.FieldType.byte) ∈ lw_good := lw_mem 381 (by decide +kernel) rfl
/-! constructors of the class: what they make -/
def offC (kd n : Nat) : Nat := match kd with
  | 0 => 0
  | 1 => 1
  | 2 => 2
  | 3 => 3
  | 7 => 4
  | 8 => 5
  | 9 => 6
  | 10 => 7
  | 11 => 8
  | 12 => 9
  | 13 => 10
  | 14 => 11
  | 15 => 12
  | 16 => 13
  | 22 => 14 + 4 * n
  | 23 => 15 + 4 * n
  | 24 => 16 + 4 * n
  | 25 => 17 + 4 * n
  | 26 => 46 + 2 * n
  | 27 => 47 + 2 * n
  | 4 => 94
  | 17 => 95
  | 28 => 96 + n
  | 5 => 136
  | 6 => 137
  | 18 => 138 + 2 * n
  | 19 => 139 + 2 * n
  | 20 => 150 + 2 * n
  | 21 => 151 + 2 * n
  | _ => 158
def adC (b : Nat) : Nat → Nat → Nat := fun kd n => b + offC kd n
theorem adr {w : Wp} {b kd n X : Nat} (hw : wa w = adC b) (h : b + offC kd n = X) : wa w kd n = X := by
  rw [hw]; exact h
/-- what each rule owes, and looks at -/
def figT (r t : Nat) : Nat := r / 3 ^ t % 3
def owS (r : Nat) : Nat → Int32
  | 0 => -1
  | t + 1 => if figT r t = 0 then owS r t else if figT r t = 1 then owS r t &&& sw5 t else owS r t &&& (sw5 t ^^^ (-1))
def lkS (r : Nat) : Nat → Int32
  | 0 => 0
  | t + 1 => if figT r t = 0 then lkS r t else lkS r t ||| (1 <<< (nI t &&& 31))
def owT (r : Nat) : Int32 := if r < 243 then owS r 5 else 0
def lkT (r : Nat) : Int32 := if r < 243 then lkS r 5 else 0
/-- the ints of a new object, by kind -/
def i0 (kd : Nat) : Nat → Int32 := match kd with
  | 8 => owT
  | 9 => lkT
  | 10 => fun j => match j with
    | 0 => 3
    | 1 => 5
    | 2 => 7
    | 7 => -9
    | _ => 0
  | 18 => fun j => match j with
    | 1 => -1
    | _ => 0
  | 20 => fun j => match j with
    | 1 => -1
    | _ => 0
  | 22 => fun j => match j with
    | 2 => -9
    | _ => 0
  | 24 => fun j => match j with
    | 3 => -9
    | _ => 0
  | 26 => fun j => match j with
    | 4 => -9
    | _ => 0
  | 27 => fun j => if j < 5 then -9 else 0
  | _ => fun _ => 0
def y0 (j : Nat) : Int64 := match j with
  | 9 => 1
  | _ => 0
/-- a cell as its constructor leaves it -/
def fin (w : Wp) (kd n : Nat) : va_E := clC (wd w) (wa w) kd n (i0 kd) y0
def gO (g : Gc) (w : Wp) (S : List (Nat × Nat)) : Gc := fun a b => if (a, b) ∈ S then fin w a b else g a b
theorem gO_in {g : Gc} {w : Wp} {S : List (Nat × Nat)} {a b : Nat} (h : (a, b) ∈ S) : gO g w S a b = fin w a b := if_pos h
theorem gO_out {g : Gc} {w : Wp} {S : List (Nat × Nat)} {a b : Nat} (h : (a, b) ∉ S) : gO g w S a b = g a b := if_neg h
theorem lowp {w : Wp} {b kd n X : Nat} (hw : wa w = adC b) (h : b + offC kd n + 1 = X) : wa w kd n + 1 = X := by
  rw [hw]; exact h

set_option maxHeartbeats 200000 in
set_option maxRecDepth 100000 in
theorem mb_X4_init {l : Launch} {w : Wp} {b : Nat} (n : Nat) {ks : List (Nat × Nat)} {g : Gc} (hw : wa w = adC b) (hm0 : (24, n) ∈ ks) (he0 : g 24 n = .inr (4, [.int 0, .int 0, .int 0, .int 0, .null, .int 0, .int 0, .int 0])) : CmB l yX4_init (.code yX4_init cX4_init 1 none) 1 1 244 w [.ref (wa w 24 n)] ks g (b + offC 25 n) (ks ++ [(25, n)]) (gO g w [(24, n), (25, n)]) := by
  refine CmB.of (own := RX4) (by decide +kernel) rfl rfl (Nat.le_of_ble_eq_true rfl) (L := [(0, .ref (wa w 24 n))]) rfl (fun x hl C => ?_)
  subst hl
  refine b_aload_n C dX4_init_0 rfl 0 rfl ?_
  refine b_obj C q_122 q_24 q_25 (by decide) dX4_init_1 ?_
  refine b_aload_n C dX4_init_4 rfl 0 rfl ?_
  refine b_iconst (v := 0) C dX4_init_5 (by decide) ?_
  refine b_put (ty := tyX4 0) C (by simp [hm0]) he0 rfl iwX4 tyX4 tyX4_ok nmX4 0 (by decide) q_123 rfl rfl (by decide +kernel) rfl rfl (Nat.le_of_ble_eq_true rfl) dX4_init_6 ?_
  refine b_aload_n C dX4_init_9 rfl 0 rfl ?_
  refine b_iconst (v := 0) C dX4_init_10 (by decide) ?_
  refine b_put (ty := tyX4 1) C (by simp [hm0]) (gU_self _ _ _ _) rfl iwX4 tyX4 tyX4_ok nmX4 1 (by decide) q_125 rfl rfl (by decide +kernel) rfl rfl (Nat.le_of_ble_eq_true rfl) dX4_init_11 ?_
  refine b_aload_n C dX4_init_14 rfl 0 rfl ?_
  refine b_iconst (v := 0) C dX4_init_15 (by decide) ?_
  refine b_put (ty := tyX4 2) C (by simp [hm0]) (gU_self _ _ _ _) rfl iwX4 tyX4 tyX4_ok nmX4 2 (by decide) q_127 rfl rfl (by decide +kernel) rfl rfl (Nat.le_of_ble_eq_true rfl) dX4_init_16 ?_
  refine b_aload_n C dX4_init_19 rfl 0 rfl ?_
  refine b_bipush (v := (-9)) C dX4_init_20 (by decide) ?_
  refine b_put (ty := tyX4 3) C (by simp [hm0]) (gU_self _ _ _ _) rfl iwX4 tyX4 tyX4_ok nmX4 3 (by decide) q_132 rfl rfl (by decide +kernel) rfl rfl (Nat.le_of_ble_eq_true rfl) dX4_init_22 ?_
  refine b_aload_n C dX4_init_25 rfl 0 rfl ?_
  refine b_sipush (v := 244) C dX4_init_26 (by decide) ?_
  refine b_newa (atype := .int) (t0 := 0) (N := 244) C 25 n q_54 rfl (fun _ _ h => h) (fun _ => rfl) (by decide) (by decide) (by decide) (adr hw (by simp only [offC] <;> omega)) (Or.inl rfl) (Nat.le_of_ble_eq_true rfl) (Nat.le_of_ble_eq_true rfl) dX4_init_29 ?_
  refine b_put (ty := tyX4 4) C (by simp [hm0]) ((gU_ne _ _ _ _ (fun z => absurd z.1 (by decide))).trans (gU_self _ _ _ _)) rfl iwX4 tyX4 tyX4_ok nmX4 4 (by decide) q_134 rfl rfl (by decide +kernel) rfl rfl (Nat.le_of_ble_eq_true rfl) dX4_init_31 ?_
  refine b_aload_n C dX4_init_34 rfl 0 rfl ?_
  refine b_iconst (v := 0) C dX4_init_35 (by decide) ?_
  refine b_put (ty := tyX4 5) C (by simp [hm0]) (gU_self _ _ _ _) rfl iwX4 tyX4 tyX4_ok nmX4 5 (by decide) q_137 rfl rfl (by decide +kernel) rfl rfl (Nat.le_of_ble_eq_true rfl) dX4_init_36 ?_
  refine b_aload_n C dX4_init_39 rfl 0 rfl ?_
  refine b_iconst (v := 0) C dX4_init_40 (by decide) ?_
  refine b_put (ty := tyX4 6) C (by simp [hm0]) (gU_self _ _ _ _) rfl iwX4 tyX4 tyX4_ok nmX4 6 (by decide) q_140 rfl rfl (by decide +kernel) rfl rfl (Nat.le_of_ble_eq_true rfl) dX4_init_41 ?_
  refine b_aload_n C dX4_init_44 rfl 0 rfl ?_
  refine b_iconst (v := 0) C dX4_init_45 (by decide) ?_
  refine b_put (ty := tyX4 7) C (by simp [hm0]) (gU_self _ _ _ _) rfl iwX4 tyX4 tyX4_ok nmX4 7 (by decide) q_141 rfl rfl (by decide +kernel) rfl rfl (Nat.le_of_ble_eq_true rfl) dX4_init_46 ?_
  refine b_eqG (g' := gO g w [(24, n), (25, n)]) (fun q hq => ?_) (b_vret C dX4_init_49)
  obtain ⟨a, b⟩ := q
  dsimp only
  by_cases h0 : a = 24 ∧ b = n
  · obtain ⟨rfl, rfl⟩ := h0
    exact (gU_self _ _ _ _).trans ((clC_24 (wd w) (wa w) b (i0 24) y0).symm.trans (gO_in (w := w) (by simp)).symm)
  by_cases h1 : a = 25 ∧ b = n
  · obtain ⟨rfl, rfl⟩ := h1
    exact ((gU_ne _ _ _ _ (fun z => absurd z.1 (by decide))).trans ((gU_ne _ _ _ _ (fun z => absurd z.1 (by decide))).trans ((gU_ne _ _ _ _ (fun z => absurd z.1 (by decide))).trans ((gU_ne _ _ _ _ (fun z => absurd z.1 (by decide))).trans (gU_self _ _ _ _))))).trans ((clC_25 (wd w) (wa w) b (i0 25) y0).symm.trans (gO_in (w := w) (by simp)).symm)
  exact ((gU_ne _ _ _ _ h0).trans ((gU_ne _ _ _ _ h0).trans ((gU_ne _ _ _ _ h0).trans ((gU_ne _ _ _ _ h0).trans ((gU_ne _ _ _ _ h1).trans ((gU_ne _ _ _ _ h0).trans ((gU_ne _ _ _ _ h0).trans ((gU_ne _ _ _ _ h0).trans ((gU_ne _ _ _ _ h0).trans (rfl)))))))))).trans (gO_out (w := w) (by simp only [List.mem_cons, Prod.mk.injEq, List.not_mem_nil, or_false, not_or]; exact ⟨h0, h1⟩)).symm
set_option maxHeartbeats 200000 in
set_option maxRecDepth 100000 in
theorem mb_X3_init {l : Launch} {w : Wp} {b : Nat} (n : Nat) {ks : List (Nat × Nat)} {g : Gc} (hw : wa w = adC b) (hm0 : (22, n) ∈ ks) (he0 : g 22 n = .inr (3, [.int 0, .int 0, .int 0, .int 0, .null, .int 0, .null])) : CmB l yX3_init (.code yX3_init cX3_init 1 none) 2 3 261 w [.ref (wa w 22 n)] ks g (b + offC 23 n) (ks ++ [(23, n)] ++ [(24, n)] ++ [(25, n)]) (gO g w [(22, n), (23, n), (24, n), (25, n)]) := by
  refine CmB.of (own := RX3) (by decide +kernel) rfl rfl (Nat.le_of_ble_eq_true rfl) (L := [(0, .ref (wa w 22 n))]) rfl (fun x hl C => ?_)
  subst hl
  refine b_aload_n C dX3_init_0 rfl 0 rfl ?_
  refine b_obj C q_116 q_24 q_25 (by decide) dX3_init_1 ?_
  refine b_aload_n C dX3_init_4 rfl 0 rfl ?_
  refine b_iconst (v := 0) C dX3_init_5 (by decide) ?_
  refine b_put (ty := tyX3 0) C (by simp [hm0]) he0 rfl iwX3 tyX3 tyX3_ok nmX3 0 (by decide) q_159 rfl rfl (by decide +kernel) rfl rfl (Nat.le_of_ble_eq_true rfl) dX3_init_6 ?_
  refine b_aload_n C dX3_init_9 rfl 0 rfl ?_
  refine b_iconst (v := 0) C dX3_init_10 (by decide) ?_
  refine b_put (ty := tyX3 1) C (by simp [hm0]) (gU_self _ _ _ _) rfl iwX3 tyX3 tyX3_ok nmX3 1 (by decide) q_163 rfl rfl (by decide +kernel) rfl rfl (Nat.le_of_ble_eq_true rfl) dX3_init_11 ?_
  refine b_aload_n C dX3_init_14 rfl 0 rfl ?_
  refine b_bipush (v := (-9)) C dX3_init_15 (by decide) ?_
  refine b_put (ty := tyX3 2) C (by simp [hm0]) (gU_self _ _ _ _) rfl iwX3 tyX3 tyX3_ok nmX3 2 (by decide) q_168 rfl rfl (by decide +kernel) rfl rfl (Nat.le_of_ble_eq_true rfl) dX3_init_17 ?_
  refine b_aload_n C dX3_init_20 rfl 0 rfl ?_
  refine b_iconst (v := 0) C dX3_init_21 (by decide) ?_
  refine b_put (ty := tyX3 3) C (by simp [hm0]) (gU_self _ _ _ _) rfl iwX3 tyX3 tyX3_ok nmX3 3 (by decide) q_170 rfl rfl (by decide +kernel) rfl rfl (Nat.le_of_ble_eq_true rfl) dX3_init_22 ?_
  refine b_aload_n C dX3_init_25 rfl 0 rfl ?_
  refine b_bipush (v := 9) C dX3_init_26 (by decide) ?_
  refine b_newa (atype := .int) (t0 := 0) (N := 9) C 23 n q_54 rfl (fun _ _ h => h) (fun _ => rfl) (by decide) (by decide) (by decide) (adr hw (by simp only [offC] <;> omega)) (Or.inl rfl) (Nat.le_of_ble_eq_true rfl) (Nat.le_of_ble_eq_true rfl) dX3_init_28 ?_
  refine b_put (ty := tyX3 4) C (by simp [hm0]) ((gU_ne _ _ _ _ (fun z => absurd z.1 (by decide))).trans (gU_self _ _ _ _)) rfl iwX3 tyX3 tyX3_ok nmX3 4 (by decide) q_172 rfl rfl (by decide +kernel) rfl rfl (Nat.le_of_ble_eq_true rfl) dX3_init_30 ?_
  refine b_aload_n C dX3_init_33 rfl 0 rfl ?_
  refine b_iconst (v := 0) C dX3_init_34 (by decide) ?_
  refine b_put (ty := tyX3 5) C (by simp [hm0]) (gU_self _ _ _ _) rfl iwX3 tyX3 tyX3_ok nmX3 5 (by decide) q_175 rfl rfl (by decide +kernel) rfl rfl (Nat.le_of_ble_eq_true rfl) dX3_init_35 ?_
  refine b_aload_n C dX3_init_38 rfl 0 rfl ?_
  refine b_new (ci := 4) (fs := [.int 0, .int 0, .int 0, .int 0, .null, .int 0, .int 0, .int 0]) C 24 n q_117 q_118 q_6 iwX4 tyX4 tyX4_ok rfl (fun j hj => by rcases (show j = 0 ∨ j = 1 ∨ j = 2 ∨ j = 3 ∨ j = 4 ∨ j = 5 ∨ j = 6 ∨ j = 7 by omega) with rfl | rfl | rfl | rfl | rfl | rfl | rfl | rfl <;> rfl) (adr hw (by simp only [offC] <;> omega)) (Or.inr ⟨(23, n), by simp, lowp hw (by simp only [offC] <;> omega)⟩) (Nat.le_of_ble_eq_true rfl) (Nat.le_of_ble_eq_true rfl) dX3_init_39 ?_
  refine b_dup C dX3_init_42 rfl ?_
  refine b_callI (n := 0) (rest := [.ref (wa w 24 n), .ref (wa w 22 n)]) C (mb_X4_init n hw (by simp [hm0]) (gU_self _ _ _ _)) (Or.inr C.2.2.2.2.2.2.2.2.1.2.2.2.2.1) q_120 q_6 q_121 ⟨by decide +kernel, by decide +kernel, by decide +kernel⟩ rfl rfl (by decide) (by decide) (by simp only [offC] <;> omega) (Or.inr ⟨(24, n), by simp, lowp hw (by simp only [offC] <;> omega)⟩) (Nat.le_of_ble_eq_true rfl) (Nat.le_of_ble_eq_true rfl) rfl (Nat.le_of_ble_eq_true rfl) dX3_init_43 ?_
  refine b_put (ty := tyX3 6) C (by simp [hm0]) ((gO_out (by simp)).trans ((gU_ne _ _ _ _ (fun z => absurd z.1 (by decide))).trans (gU_self _ _ _ _))) rfl iwX3 tyX3 tyX3_ok nmX3 6 (by decide) q_178 rfl rfl (by decide +kernel) rfl rfl (Nat.le_of_ble_eq_true rfl) dX3_init_46 ?_
  refine b_eqG (g' := gO g w [(22, n), (23, n), (24, n), (25, n)]) (fun q hq => ?_) (b_vret C dX3_init_49)
  obtain ⟨a, b⟩ := q
  dsimp only
  by_cases h0 : a = 22 ∧ b = n
  · obtain ⟨rfl, rfl⟩ := h0
    exact (gU_self _ _ _ _).trans ((clC_22 (wd w) (wa w) b (i0 22) y0).symm.trans (gO_in (w := w) (by simp)).symm)
  by_cases h1 : a = 23 ∧ b = n
  · obtain ⟨rfl, rfl⟩ := h1
    exact ((gU_ne _ _ _ _ (fun z => absurd z.1 (by decide))).trans ((gO_out (by simp)).trans ((gU_ne _ _ _ _ (fun z => absurd z.1 (by decide))).trans ((gU_ne _ _ _ _ (fun z => absurd z.1 (by decide))).trans ((gU_ne _ _ _ _ (fun z => absurd z.1 (by decide))).trans (gU_self _ _ _ _)))))).trans ((clC_23 (wd w) (wa w) b (i0 23) y0).symm.trans (gO_in (w := w) (by simp)).symm)
  by_cases h2 : a = 24 ∧ b = n
  · obtain ⟨rfl, rfl⟩ := h2
    exact ((gU_ne _ _ _ _ (fun z => absurd z.1 (by decide))).trans (gO_in (by simp))).trans (gO_in (by simp)).symm
  by_cases h3 : a = 25 ∧ b = n
  · obtain ⟨rfl, rfl⟩ := h3
    exact ((gU_ne _ _ _ _ (fun z => absurd z.1 (by decide))).trans (gO_in (by simp))).trans (gO_in (by simp)).symm
  exact ((gU_ne _ _ _ _ h0).trans ((gO_out (by simp only [List.mem_cons, Prod.mk.injEq, List.not_mem_nil, or_false, not_or]; exact ⟨h2, h3⟩)).trans ((gU_ne _ _ _ _ h2).trans ((gU_ne _ _ _ _ h0).trans ((gU_ne _ _ _ _ h0).trans ((gU_ne _ _ _ _ h1).trans ((gU_ne _ _ _ _ h0).trans ((gU_ne _ _ _ _ h0).trans ((gU_ne _ _ _ _ h0).trans ((gU_ne _ _ _ _ h0).trans (rfl))))))))))).trans (gO_out (w := w) (by simp only [List.mem_cons, Prod.mk.injEq, List.not_mem_nil, or_false, not_or]; exact ⟨h0, h1, h2, h3⟩)).symm
set_option maxHeartbeats 200000 in
set_option maxRecDepth 100000 in
theorem mb_X5_init {l : Launch} {w : Wp} {b z : Nat} (n : Nat) {ks : List (Nat × Nat)} {g : Gc} (hw : wa w = adC b) (hm0 : (28, n) ∈ ks) (he0 : g 28 n = .inr (5, [.int 0, .int 0, .int 0, .int 0])) : CmB l yX5_init (.code yX5_init cX5_init 1 none) 1 0 0 w [.ref (wa w 28 n)] ks g (z) (ks) (gO g w [(28, n)]) := by
  refine CmB.of (own := RX5) (by decide +kernel) rfl rfl (Nat.le_of_ble_eq_true rfl) (L := [(0, .ref (wa w 28 n))]) rfl (fun x hl C => ?_)
  subst hl
  refine b_aload_n C dX5_init_0 rfl 0 rfl ?_
  refine b_obj C q_293 q_24 q_25 (by decide) dX5_init_1 ?_
  refine b_aload_n C dX5_init_4 rfl 0 rfl ?_
  refine b_iconst (v := 0) C dX5_init_5 (by decide) ?_
  refine b_put (ty := tyX5 0) C (by simp [hm0]) he0 rfl iwX5 tyX5 tyX5_ok nmX5 0 (by decide) q_294 rfl rfl (by decide +kernel) rfl rfl (Nat.le_of_ble_eq_true rfl) dX5_init_6 ?_
  refine b_aload_n C dX5_init_9 rfl 0 rfl ?_
  refine b_iconst (v := 0) C dX5_init_10 (by decide) ?_
  refine b_put (ty := tyX5 1) C (by simp [hm0]) (gU_self _ _ _ _) rfl iwX5 tyX5 tyX5_ok nmX5 1 (by decide) q_297 rfl rfl (by decide +kernel) rfl rfl (Nat.le_of_ble_eq_true rfl) dX5_init_11 ?_
  refine b_aload_n C dX5_init_14 rfl 0 rfl ?_
  refine b_iconst (v := 0) C dX5_init_15 (by decide) ?_
  refine b_put (ty := tyX5 2) C (by simp [hm0]) (gU_self _ _ _ _) rfl iwX5 tyX5 tyX5_ok nmX5 2 (by decide) q_299 rfl rfl (by decide +kernel) rfl rfl (Nat.le_of_ble_eq_true rfl) dX5_init_16 ?_
  refine b_aload_n C dX5_init_19 rfl 0 rfl ?_
  refine b_iconst (v := 0) C dX5_init_20 (by decide) ?_
  refine b_put (ty := tyX5 3) C (by simp [hm0]) (gU_self _ _ _ _) rfl iwX5 tyX5 tyX5_ok nmX5 3 (by decide) q_301 rfl rfl (by decide +kernel) rfl rfl (Nat.le_of_ble_eq_true rfl) dX5_init_21 ?_
  refine b_eqG (g' := gO g w [(28, n)]) (fun q hq => ?_) (b_vret C dX5_init_24)
  obtain ⟨a, b⟩ := q
  dsimp only
  by_cases h0 : a = 28 ∧ b = n
  · obtain ⟨rfl, rfl⟩ := h0
    exact (gU_self _ _ _ _).trans ((clC_28 (wd w) (wa w) b (i0 28) y0).symm.trans (gO_in (w := w) (by simp)).symm)
  exact ((gU_ne _ _ _ _ h0).trans ((gU_ne _ _ _ _ h0).trans ((gU_ne _ _ _ _ h0).trans ((gU_ne _ _ _ _ h0).trans (rfl))))).trans (gO_out (w := w) (by simp only [List.mem_cons, Prod.mk.injEq, List.not_mem_nil, or_false, not_or]; exact h0)).symm
set_option maxHeartbeats 200000 in
set_option maxRecDepth 100000 in
theorem mb_X7_init {l : Launch} {w : Wp} {b : Nat} (n : Nat) {ks : List (Nat × Nat)} {g : Gc} (hw : wa w = adC b) (hm0 : (18, n) ∈ ks) (he0 : g 18 n = .inr (7, [.null, .int 0])) : CmB l yX7_init (.code yX7_init cX7_init 1 none) 1 1 40 w [.ref (wa w 18 n)] ks g (b + offC 19 n) (ks ++ [(19, n)]) (gO g w [(18, n), (19, n)]) := by
  refine CmB.of (own := RX7) (by decide +kernel) rfl rfl (Nat.le_of_ble_eq_true rfl) (L := [(0, .ref (wa w 18 n))]) rfl (fun x hl C => ?_)
  subst hl
  refine b_aload_n C dX7_init_0 rfl 0 rfl ?_
  refine b_obj C q_350 q_24 q_25 (by decide) dX7_init_1 ?_
  refine b_aload_n C dX7_init_4 rfl 0 rfl ?_
  refine b_bipush (v := 40) C dX7_init_5 (by decide) ?_
  refine b_newa (atype := .int) (t0 := 0) (N := 40) C 19 n q_54 rfl (fun _ _ h => h) (fun _ => rfl) (by decide) (by decide) (by decide) (adr hw (by simp only [offC] <;> omega)) (Or.inl rfl) (Nat.le_of_ble_eq_true rfl) (Nat.le_of_ble_eq_true rfl) dX7_init_7 ?_
  refine b_put (ty := tyX7 0) C (by simp [hm0]) ((gU_ne _ _ _ _ (fun z => absurd z.1 (by decide))).trans he0) rfl iwX7 tyX7 tyX7_ok nmX7 0 (by decide) q_351 rfl rfl (by decide +kernel) rfl rfl (Nat.le_of_ble_eq_true rfl) dX7_init_9 ?_
  refine b_aload_n C dX7_init_12 rfl 0 rfl ?_
  refine b_iconst (v := (-1)) C dX7_init_13 (by decide) ?_
  refine b_put (ty := tyX7 1) C (by simp [hm0]) (gU_self _ _ _ _) rfl iwX7 tyX7 tyX7_ok nmX7 1 (by decide) q_353 rfl rfl (by decide +kernel) rfl rfl (Nat.le_of_ble_eq_true rfl) dX7_init_14 ?_
  refine b_eqG (g' := gO g w [(18, n), (19, n)]) (fun q hq => ?_) (b_vret C dX7_init_17)
  obtain ⟨a, b⟩ := q
  dsimp only
  by_cases h0 : a = 18 ∧ b = n
  · obtain ⟨rfl, rfl⟩ := h0
    exact (gU_self _ _ _ _).trans ((clC_18 (wd w) (wa w) b (i0 18) y0).symm.trans (gO_in (w := w) (by simp)).symm)
  by_cases h1 : a = 19 ∧ b = n
  · obtain ⟨rfl, rfl⟩ := h1
    exact ((gU_ne _ _ _ _ (fun z => absurd z.1 (by decide))).trans ((gU_ne _ _ _ _ (fun z => absurd z.1 (by decide))).trans (gU_self _ _ _ _))).trans ((clC_19 (wd w) (wa w) b (i0 19) y0).symm.trans (gO_in (w := w) (by simp)).symm)
  exact ((gU_ne _ _ _ _ h0).trans ((gU_ne _ _ _ _ h0).trans ((gU_ne _ _ _ _ h1).trans (rfl)))).trans (gO_out (w := w) (by simp only [List.mem_cons, Prod.mk.injEq, List.not_mem_nil, or_false, not_or]; exact ⟨h0, h1⟩)).symm
set_option maxHeartbeats 200000 in
set_option maxRecDepth 100000 in
theorem mb_X10_init {l : Launch} {w : Wp} {b : Nat} (n : Nat) {ks : List (Nat × Nat)} {g : Gc} (hw : wa w = adC b) (hm0 : (20, n) ∈ ks) (he0 : g 20 n = .inr (10, [.null, .int 0, .int 0, .int 0])) : CmB l yX10_init (.code yX10_init cX10_init 1 none) 1 1 40 w [.ref (wa w 20 n)] ks g (b + offC 21 n) (ks ++ [(21, n)]) (gO g w [(20, n), (21, n)]) := by
  refine CmB.of (own := RX10) (by decide +kernel) rfl rfl (Nat.le_of_ble_eq_true rfl) (L := [(0, .ref (wa w 20 n))]) rfl (fun x hl C => ?_)
  subst hl
  refine b_aload_n C dX10_init_0 rfl 0 rfl ?_
  refine b_obj C q_364 q_24 q_25 (by decide) dX10_init_1 ?_
  refine b_aload_n C dX10_init_4 rfl 0 rfl ?_
  refine b_bipush (v := 40) C dX10_init_5 (by decide) ?_
  refine b_newa (atype := .byte) (t0 := 1) (N := 40) C 21 n q_381 rfl (fun _ _ h => h) (fun _ => rfl) (by decide) (by decide) (by decide) (adr hw (by simp only [offC] <;> omega)) (Or.inl rfl) (Nat.le_of_ble_eq_true rfl) (Nat.le_of_ble_eq_true rfl) dX10_init_7 ?_
  refine b_put (ty := tyX10 0) C (by simp [hm0]) ((gU_ne _ _ _ _ (fun z => absurd z.1 (by decide))).trans he0) rfl iwX10 tyX10 tyX10_ok nmX10 0 (by decide) q_365 rfl rfl (by decide +kernel) rfl rfl (Nat.le_of_ble_eq_true rfl) dX10_init_9 ?_
  refine b_aload_n C dX10_init_12 rfl 0 rfl ?_
  refine b_iconst (v := (-1)) C dX10_init_13 (by decide) ?_
  refine b_put (ty := tyX10 1) C (by simp [hm0]) (gU_self _ _ _ _) rfl iwX10 tyX10 tyX10_ok nmX10 1 (by decide) q_367 rfl rfl (by decide +kernel) rfl rfl (Nat.le_of_ble_eq_true rfl) dX10_init_14 ?_
  refine b_aload_n C dX10_init_17 rfl 0 rfl ?_
  refine b_iconst (v := 0) C dX10_init_18 (by decide) ?_
  refine b_put (ty := tyX10 2) C (by simp [hm0]) (gU_self _ _ _ _) rfl iwX10 tyX10 tyX10_ok nmX10 2 (by decide) q_369 rfl rfl (by decide +kernel) rfl rfl (Nat.le_of_ble_eq_true rfl) dX10_init_19 ?_
  refine b_aload_n C dX10_init_22 rfl 0 rfl ?_
  refine b_iconst (v := 0) C dX10_init_23 (by decide) ?_
  refine b_put (ty := tyX10 3) C (by simp [hm0]) (gU_self _ _ _ _) rfl iwX10 tyX10 tyX10_ok nmX10 3 (by decide) q_371 rfl rfl (by decide +kernel) rfl rfl (Nat.le_of_ble_eq_true rfl) dX10_init_24 ?_
  refine b_eqG (g' := gO g w [(20, n), (21, n)]) (fun q hq => ?_) (b_vret C dX10_init_27)
  obtain ⟨a, b⟩ := q
  dsimp only
  by_cases h0 : a = 20 ∧ b = n
  · obtain ⟨rfl, rfl⟩ := h0
    exact (gU_self _ _ _ _).trans ((clC_20 (wd w) (wa w) b (i0 20) y0).symm.trans (gO_in (w := w) (by simp)).symm)
  by_cases h1 : a = 21 ∧ b = n
  · obtain ⟨rfl, rfl⟩ := h1
    exact ((gU_ne _ _ _ _ (fun z => absurd z.1 (by decide))).trans ((gU_ne _ _ _ _ (fun z => absurd z.1 (by decide))).trans ((gU_ne _ _ _ _ (fun z => absurd z.1 (by decide))).trans ((gU_ne _ _ _ _ (fun z => absurd z.1 (by decide))).trans (gU_self _ _ _ _))))).trans ((clC_21 (wd w) (wa w) b (i0 21) y0).symm.trans (gO_in (w := w) (by simp)).symm)
  exact ((gU_ne _ _ _ _ h0).trans ((gU_ne _ _ _ _ h0).trans ((gU_ne _ _ _ _ h0).trans ((gU_ne _ _ _ _ h0).trans ((gU_ne _ _ _ _ h1).trans (rfl)))))).trans (gO_out (w := w) (by simp only [List.mem_cons, Prod.mk.injEq, List.not_mem_nil, or_false, not_or]; exact ⟨h0, h1⟩)).symm
set_option maxHeartbeats 200000 in
set_option maxRecDepth 100000 in
theorem mb_X0_init {l : Launch} {w : Wp} {b : Nat} {ks : List (Nat × Nat)} {g : Gc} (hw : wa w = adC b) (hm0 : (10, 0) ∈ ks) (he0 : g 10 0 = .inr (0, [.int 0, .int 0, .int 0, .null, .int 0, .int 0, .int 0, .int 0, .int 0, .null, .null, .null])) : CmB l yX0_init (.code yX0_init cX0_init 2 none) 1 3 732 w [.ref (wa w 10 0), .ref (wa w 7 0)] ks g (b + offC 11 0) (ks ++ [(11, 0)] ++ [(12, 0)] ++ [(13, 0)]) (gO g w [(10, 0), (11, 0), (12, 0), (13, 0)]) := by
  refine CmB.of (own := RX0) (by decide +kernel) rfl rfl (Nat.le_of_ble_eq_true rfl) (L := [(0, .ref (wa w 10 0)), (1, .ref (wa w 7 0))]) rfl (fun x hl C => ?_)
  subst hl
  refine b_aload_n C dX0_init_0 rfl 0 rfl ?_
  refine b_obj C q_60 q_24 q_25 (by decide) dX0_init_1 ?_
  refine b_aload_n C dX0_init_4 rfl 0 rfl ?_
  refine b_iconst (v := 3) C dX0_init_5 (by decide) ?_
  refine b_put (ty := tyX0 0) C (by simp [hm0]) he0 rfl iwX0 tyX0 tyX0_ok nmX0 0 (by decide) q_61 rfl rfl (by decide +kernel) rfl rfl (Nat.le_of_ble_eq_true rfl) dX0_init_6 ?_
  refine b_aload_n C dX0_init_9 rfl 0 rfl ?_
  refine b_iconst (v := 5) C dX0_init_10 (by decide) ?_
  refine b_put (ty := tyX0 1) C (by simp [hm0]) (gU_self _ _ _ _) rfl iwX0 tyX0 tyX0_ok nmX0 1 (by decide) q_63 rfl rfl (by decide +kernel) rfl rfl (Nat.le_of_ble_eq_true rfl) dX0_init_11 ?_
  refine b_aload_n C dX0_init_14 rfl 0 rfl ?_
  refine b_bipush (v := 7) C dX0_init_15 (by decide) ?_
  refine b_put (ty := tyX0 2) C (by simp [hm0]) (gU_self _ _ _ _) rfl iwX0 tyX0 tyX0_ok nmX0 2 (by decide) q_65 rfl rfl (by decide +kernel) rfl rfl (Nat.le_of_ble_eq_true rfl) dX0_init_17 ?_
  refine b_aload_n C dX0_init_20 rfl 0 rfl ?_
  refine b_sipush (v := 244) C dX0_init_21 (by decide) ?_
  refine b_newa (atype := .int) (t0 := 0) (N := 244) C 11 0 q_54 rfl (fun _ _ h => h) (fun _ => rfl) (by decide) (by decide) (by decide) (adr hw (by simp only [offC] <;> omega)) (Or.inl rfl) (Nat.le_of_ble_eq_true rfl) (Nat.le_of_ble_eq_true rfl) dX0_init_24 ?_
  refine b_put (ty := tyX0 3) C (by simp [hm0]) ((gU_ne _ _ _ _ (fun z => absurd z.1 (by decide))).trans (gU_self _ _ _ _)) rfl iwX0 tyX0 tyX0_ok nmX0 3 (by decide) q_67 rfl rfl (by decide +kernel) rfl rfl (Nat.le_of_ble_eq_true rfl) dX0_init_26 ?_
  refine b_aload_n C dX0_init_29 rfl 0 rfl ?_
  refine b_iconst (v := 0) C dX0_init_30 (by decide) ?_
  refine b_put (ty := tyX0 4) C (by simp [hm0]) (gU_self _ _ _ _) rfl iwX0 tyX0 tyX0_ok nmX0 4 (by decide) q_69 rfl rfl (by decide +kernel) rfl rfl (Nat.le_of_ble_eq_true rfl) dX0_init_31 ?_
  refine b_aload_n C dX0_init_34 rfl 0 rfl ?_
  refine b_iconst (v := 0) C dX0_init_35 (by decide) ?_
  refine b_put (ty := tyX0 5) C (by simp [hm0]) (gU_self _ _ _ _) rfl iwX0 tyX0 tyX0_ok nmX0 5 (by decide) q_71 rfl rfl (by decide +kernel) rfl rfl (Nat.le_of_ble_eq_true rfl) dX0_init_36 ?_
  refine b_aload_n C dX0_init_39 rfl 0 rfl ?_
  refine b_iconst (v := 0) C dX0_init_40 (by decide) ?_
  refine b_put (ty := tyX0 6) C (by simp [hm0]) (gU_self _ _ _ _) rfl iwX0 tyX0 tyX0_ok nmX0 6 (by decide) q_74 rfl rfl (by decide +kernel) rfl rfl (Nat.le_of_ble_eq_true rfl) dX0_init_41 ?_
  refine b_aload_n C dX0_init_44 rfl 0 rfl ?_
  refine b_bipush (v := (-9)) C dX0_init_45 (by decide) ?_
  refine b_put (ty := tyX0 7) C (by simp [hm0]) (gU_self _ _ _ _) rfl iwX0 tyX0 tyX0_ok nmX0 7 (by decide) q_76 rfl rfl (by decide +kernel) rfl rfl (Nat.le_of_ble_eq_true rfl) dX0_init_47 ?_
  refine b_aload_n C dX0_init_50 rfl 0 rfl ?_
  refine b_iconst (v := 0) C dX0_init_51 (by decide) ?_
  refine b_put (ty := tyX0 8) C (by simp [hm0]) (gU_self _ _ _ _) rfl iwX0 tyX0 tyX0_ok nmX0 8 (by decide) q_78 rfl rfl (by decide +kernel) rfl rfl (Nat.le_of_ble_eq_true rfl) dX0_init_52 ?_
  refine b_aload_n C dX0_init_55 rfl 0 rfl ?_
  refine b_sipush (v := 244) C dX0_init_56 (by decide) ?_
  refine b_newa (atype := .int) (t0 := 0) (N := 244) C 12 0 q_54 rfl (fun _ _ h => h) (fun _ => rfl) (by decide) (by decide) (by decide) (adr hw (by simp only [offC] <;> omega)) (Or.inr ⟨(11, 0), by simp, lowp hw (by simp only [offC] <;> omega)⟩) (Nat.le_of_ble_eq_true rfl) (Nat.le_of_ble_eq_true rfl) dX0_init_59 ?_
  refine b_put (ty := tyX0 10) C (by simp [hm0]) ((gU_ne _ _ _ _ (fun z => absurd z.1 (by decide))).trans (gU_self _ _ _ _)) rfl iwX0 tyX0 tyX0_ok nmX0 10 (by decide) q_81 rfl rfl (by decide +kernel) rfl rfl (Nat.le_of_ble_eq_true rfl) dX0_init_61 ?_
  refine b_aload_n C dX0_init_64 rfl 0 rfl ?_
  refine b_sipush (v := 244) C dX0_init_65 (by decide) ?_
  refine b_newa (atype := .int) (t0 := 0) (N := 244) C 13 0 q_54 rfl (fun _ _ h => h) (fun _ => rfl) (by decide) (by decide) (by decide) (adr hw (by simp only [offC] <;> omega)) (Or.inr ⟨(12, 0), by simp, lowp hw (by simp only [offC] <;> omega)⟩) (Nat.le_of_ble_eq_true rfl) (Nat.le_of_ble_eq_true rfl) dX0_init_68 ?_
  refine b_put (ty := tyX0 11) C (by simp [hm0]) ((gU_ne _ _ _ _ (fun z => absurd z.1 (by decide))).trans (gU_self _ _ _ _)) rfl iwX0 tyX0 tyX0_ok nmX0 11 (by decide) q_82 rfl rfl (by decide +kernel) rfl rfl (Nat.le_of_ble_eq_true rfl) dX0_init_70 ?_
  refine b_aload_n C dX0_init_73 rfl 0 rfl ?_
  refine b_aload_n C dX0_init_74 rfl 1 rfl ?_
  refine b_put (ty := tyX0 9) C (by simp [hm0]) (gU_self _ _ _ _) rfl iwX0 tyX0 tyX0_ok nmX0 9 (by decide) q_80 rfl rfl (by decide +kernel) rfl rfl (Nat.le_of_ble_eq_true rfl) dX0_init_75 ?_
  refine b_eqG (g' := gO g w [(10, 0), (11, 0), (12, 0), (13, 0)]) (fun q hq => ?_) (b_vret C dX0_init_78)
  obtain ⟨a, b⟩ := q
  dsimp only
  by_cases h0 : a = 10 ∧ b = 0
  · obtain ⟨rfl, rfl⟩ := h0
    exact (gU_self _ _ _ _).trans ((clC_10 (wd w) (wa w) 0 (i0 10) y0).symm.trans (gO_in (w := w) (by simp)).symm)
  by_cases h1 : a = 11 ∧ b = 0
  · obtain ⟨rfl, rfl⟩ := h1
    exact ((gU_ne _ _ _ _ (fun z => absurd z.1 (by decide))).trans ((gU_ne _ _ _ _ (fun z => absurd z.1 (by decide))).trans ((gU_ne _ _ _ _ (fun z => absurd z.1 (by decide))).trans ((gU_ne _ _ _ _ (fun z => absurd z.1 (by decide))).trans ((gU_ne _ _ _ _ (fun z => absurd z.1 (by decide))).trans ((gU_ne _ _ _ _ (fun z => absurd z.1 (by decide))).trans ((gU_ne _ _ _ _ (fun z => absurd z.1 (by decide))).trans ((gU_ne _ _ _ _ (fun z => absurd z.1 (by decide))).trans ((gU_ne _ _ _ _ (fun z => absurd z.1 (by decide))).trans ((gU_ne _ _ _ _ (fun z => absurd z.1 (by decide))).trans ((gU_ne _ _ _ _ (fun z => absurd z.1 (by decide))).trans (gU_self _ _ _ _)))))))))))).trans ((clC_11 (wd w) (wa w) 0 (i0 11) y0).symm.trans (gO_in (w := w) (by simp)).symm)
  by_cases h2 : a = 12 ∧ b = 0
  · obtain ⟨rfl, rfl⟩ := h2
    exact ((gU_ne _ _ _ _ (fun z => absurd z.1 (by decide))).trans ((gU_ne _ _ _ _ (fun z => absurd z.1 (by decide))).trans ((gU_ne _ _ _ _ (fun z => absurd z.1 (by decide))).trans ((gU_ne _ _ _ _ (fun z => absurd z.1 (by decide))).trans (gU_self _ _ _ _))))).trans ((clC_12 (wd w) (wa w) 0 (i0 12) y0).symm.trans (gO_in (w := w) (by simp)).symm)
  by_cases h3 : a = 13 ∧ b = 0
  · obtain ⟨rfl, rfl⟩ := h3
    exact ((gU_ne _ _ _ _ (fun z => absurd z.1 (by decide))).trans ((gU_ne _ _ _ _ (fun z => absurd z.1 (by decide))).trans (gU_self _ _ _ _))).trans ((clC_13 (wd w) (wa w) 0 (i0 13) y0).symm.trans (gO_in (w := w) (by simp)).symm)
  exact ((gU_ne _ _ _ _ h0).trans ((gU_ne _ _ _ _ h0).trans ((gU_ne _ _ _ _ h3).trans ((gU_ne _ _ _ _ h0).trans ((gU_ne _ _ _ _ h2).trans ((gU_ne _ _ _ _ h0).trans ((gU_ne _ _ _ _ h0).trans ((gU_ne _ _ _ _ h0).trans ((gU_ne _ _ _ _ h0).trans ((gU_ne _ _ _ _ h0).trans ((gU_ne _ _ _ _ h0).trans ((gU_ne _ _ _ _ h1).trans ((gU_ne _ _ _ _ h0).trans ((gU_ne _ _ _ _ h0).trans ((gU_ne _ _ _ _ h0).trans (rfl)))))))))))))))).trans (gO_out (w := w) (by simp only [List.mem_cons, Prod.mk.injEq, List.not_mem_nil, or_false, not_or]; exact ⟨h0, h1, h2, h3⟩)).symm
set_option maxHeartbeats 200000 in
set_option maxRecDepth 100000 in
theorem mb_X2_init {l : Launch} {w : Wp} {b z : Nat} {ks : List (Nat × Nat)} {g : Gc} (hw : wa w = adC b) (hm0 : (5, 0) ∈ ks) (he0 : g 5 0 = .inr (2, [.int 0, .null])) : CmB l yX2_init (.code yX2_init cX2_init 2 none) 1 0 0 w [.ref (wa w 5 0), .ref (wa w 3 0)] ks g (z) (ks) (gO g w [(5, 0)]) := by
  refine CmB.of (own := RX2) (by decide +kernel) rfl rfl (Nat.le_of_ble_eq_true rfl) (L := [(0, .ref (wa w 5 0)), (1, .ref (wa w 3 0))]) rfl (fun x hl C => ?_)
  subst hl
  refine b_aload_n C dX2_init_0 rfl 0 rfl ?_
  refine b_obj C q_337 q_24 q_25 (by decide) dX2_init_1 ?_
  refine b_aload_n C dX2_init_4 rfl 0 rfl ?_
  refine b_iconst (v := 0) C dX2_init_5 (by decide) ?_
  refine b_put (ty := tyX2 0) C (by simp [hm0]) he0 rfl iwX2 tyX2 tyX2_ok nmX2 0 (by decide) q_338 rfl rfl (by decide +kernel) rfl rfl (Nat.le_of_ble_eq_true rfl) dX2_init_6 ?_
  refine b_aload_n C dX2_init_9 rfl 0 rfl ?_
  refine b_aload_n C dX2_init_10 rfl 1 rfl ?_
  refine b_put (ty := tyX2 1) C (by simp [hm0]) (gU_self _ _ _ _) rfl iwX2 tyX2 tyX2_ok nmX2 1 (by decide) q_340 rfl rfl (by decide +kernel) rfl rfl (Nat.le_of_ble_eq_true rfl) dX2_init_11 ?_
  refine b_eqG (g' := gO g w [(5, 0)]) (fun q hq => ?_) (b_vret C dX2_init_14)
  obtain ⟨a, b⟩ := q
  dsimp only
  by_cases h0 : a = 5 ∧ b = 0
  · obtain ⟨rfl, rfl⟩ := h0
    exact (gU_self _ _ _ _).trans ((clC_5 (wd w) (wa w) 0 (i0 5) y0).symm.trans (gO_in (w := w) (by simp)).symm)
  exact ((gU_ne _ _ _ _ h0).trans ((gU_ne _ _ _ _ h0).trans (rfl))).trans (gO_out (w := w) (by simp only [List.mem_cons, Prod.mk.injEq, List.not_mem_nil, or_false, not_or]; exact h0)).symm
