set_option maxRecDepth 100000 in
theorem q_969 : (Jvm.Cond.methodLink "QuarrelBookModel" (1 : Nat) ({ cls := "java/lang/Object", name := "<init>", desc := "()V" } : Jvm.MethodName)) ∈ lw_good := lw_mem 969 (by decide +kernel) rfl
set_option maxRecDepth 100000 in
theorem q_1094 : (Jvm.Cond.arrayClass Jvm.ClassFile.FieldType.boolean) ∈ lw_good := lw_mem 1094 (by decide +kernel) rfl
def offM (kd n : Nat) : Nat := match kd with
  | 0 => 0
  | 1 => 1
  | 5 => 2
  | 6 => 3
  | 7 => 4
  | 8 => 5
  | 9 => 6
  | 11 => 7
  | 13 => 8
  | 14 => 9
  | 15 => 10
  | 17 => 11
  | 18 => 12
  | 19 => 13
  | 20 => 14
  | 21 => 15
  | 22 => 16
  | 24 => 17
  | 25 => 18
  | 31 => 19
  | 32 => 20
  | 34 => 21
  | 35 => 22
  | 36 => 23
  | 37 => 24
  | 39 => 25
  | _ => 99
def adM (b : Nat) : Nat → Nat → Nat := fun kd n => b + offM kd n
theorem adrM {w : Wp} {b kd n X : Nat} (hw : wa w = adM b) (h : b + offM kd n = X) : wa w kd n = X := by
  rw [hw]; exact h
theorem lowpM {w : Wp} {b kd n X : Nat} (hw : wa w = adM b) (h : b + offM kd n + 1 = X) : wa w kd n + 1 = X := by
  rw [hw]; exact h
def yM (j : Nat) : Int64 := match j with
  | 4 => 1
  | _ => 0
def zM : St := (fun _ _ _ => 0, yM)
def gA (g : Gc) (w : Wp) (K : List Nat) : Gc := fun a b => if b = 0 ∧ a ∈ K then clM (wd w) (wa w) a 0 (fun _ => 0) (fun _ => 0) else g a b
theorem gA_in {g : Gc} {w : Wp} {K : List Nat} {a : Nat} (h : a ∈ K) : gA g w K a 0 = clM (wd w) (wa w) a 0 (fun _ => 0) (fun _ => 0) := if_pos ⟨rfl, h⟩
theorem gA_0 {g : Gc} {w : Wp} {e : va_E} (h : g 0 0 = e) (a b : Nat) : g a b = gU (gA g w []) 0 0 e a b := by
  by_cases h1 : a = 0 ∧ b = 0
  · obtain ⟨rfl, rfl⟩ := h1
    rw [gU_self, h]
  · rw [gU_ne _ _ _ _ h1]
    simp [gA]
theorem gA_p {g : Gc} {w : Wp} {K : List Nat} {e e1 e2 : va_E} (h : e1 = e2) (a b : Nat) : gU (gU (gA g w K) 0 0 e) 0 0 e1 a b = gU (gA g w K) 0 0 e2 a b := by
  subst h
  by_cases h1 : a = 0 ∧ b = 0
  · obtain ⟨rfl, rfl⟩ := h1
    rw [gU_self, gU_self]
  · rw [gU_ne _ _ _ _ h1, gU_ne _ _ _ _ h1, gU_ne _ _ _ _ h1]
theorem gA_n {g : Gc} {w : Wp} {K K' : List Nat} {k : Nat} {e e1 e2 c : va_E} (hk : K' = K ++ [k]) (hc : c = clM (wd w) (wa w) k 0 (fun _ => 0) (fun _ => 0)) (h : e1 = e2) (a b : Nat) : gU (gU (gU (gA g w K) 0 0 e) k 0 c) 0 0 e1 a b = gU (gA g w K') 0 0 e2 a b := by
  subst h
  subst hk
  by_cases h1 : a = 0 ∧ b = 0
  · obtain ⟨rfl, rfl⟩ := h1
    rw [gU_self, gU_self]
  · rw [gU_ne _ _ _ _ h1, gU_ne _ _ _ _ h1]
    by_cases h2 : a = k ∧ b = 0
    · obtain ⟨rfl, rfl⟩ := h2
      rw [gU_self, hc, gA_in (by simp)]
    · rw [gU_ne _ _ _ _ h2, gU_ne _ _ _ _ h1]
      unfold gA
      by_cases h3 : b = 0 ∧ a ∈ K
      · rw [if_pos h3, if_pos ⟨h3.1, List.mem_append_left _ h3.2⟩]
      · rw [if_neg h3, if_neg (fun h => h3 ⟨h.1, by
          rcases List.mem_append.mp h.2 with q | q
          · exact q
          · exact absurd ⟨List.mem_singleton.mp q, h.1⟩ h2⟩)]
def M_init_L213 (K233 : St → Option (St))  : Nat → Int32 → St → Option (St)
  | 0, _, _ => none
  | n + 1, v1_1, s_2 => if 6 ≤ v1_1 then (K233 s_2) else (if inb v1_1 6 = true then (M_init_L213 K233 n) (v1_1 + 1) (sX s_2 5 0 v1_1.toNatClampNeg (-9)) else none)
def M_init_L235 (K254 : St → Option (St))  : Nat → Int32 → St → Option (St)
  | 0, _, _ => none
  | n + 1, v1_7, s_8 => if 4 ≤ v1_7 then (K254 s_8) else (if inb v1_7 4 = true then (M_init_L235 K254 n) (v1_7 + 1) (sX s_8 8 0 v1_7.toNatClampNeg (-9)) else none)
def M_init (s0 : St) : Option (St) :=
  M_init_L213 (fun (s_6 : St) => M_init_L235 (fun (s_12 : St) => some (sX (sX (sX s_12 24 0 0 3) 24 0 1 5) 24 0 2 7)) 1100 0 s_6) 1100 0 s0
/-- the reference's store at its start -/
def tau0 : St := sX (sX (sX (sX (sX (sX (sX (sX (sX (sX (sX (sX (sX zM 5 0 0 (-9)) 5 0 1 (-9)) 5 0 2 (-9)) 5 0 3 (-9)) 5 0 4 (-9)) 5 0 5 (-9)) 8 0 0 (-9)) 8 0 1 (-9)) 8 0 2 (-9)) 8 0 3 (-9)) 24 0 0 3) 24 0 1 5) 24 0 2 7
set_option maxRecDepth 100000 in
theorem M_init_eq : M_init zM = some tau0 := rfl
set_option maxHeartbeats 4000000 in
set_option maxRecDepth 100000 in
theorem t_X12_init_L213 {x : Ctx} {w : Wp}  {z : St}  {K233 : St → Option (St)} (hK233 : ∀ (s_5 : St), K233 s_5 = some z → V x WM w 2 (QM x WM w none z) s_5 233 [(0, .ref (wa w 0 0))] []) (C : Cx x WM w cX12_init 2 RX12 1 none) : ∀ (n : Nat) (v1_1 : Int32) (s_2 : St), M_init_L213 K233 n v1_1 s_2 = some z → V x WM w 2 (QM x WM w none z) s_2 213 [(0, .ref (wa w 0 0)), (1, .int v1_1)] [] := by
  intro n
  induction n with
  | zero => intro v1_1 s_2 h; cases h
  | succ n ih =>
    intro v1_1 s_2 h
    unfold M_init_L213 at h
    refine r_iload_n C dX12_init_213 rfl 1 rfl ?_
    refine r_bipush (v := 6) C dX12_init_214 (by decide) ?_
    refine r_icmp_ge (tgt := 233) C dX12_init_216 (by decide) (fun c_3 => ?_) (fun c_3 => ?_)
    · have h := ip h c_3
      refine r_sub [0] rfl ?_
      exact hK233 _ h
    · have h := iq h c_3
      refine r_aload_n C dX12_init_219 rfl 0 rfl ?_
      refine gfX12_17 C dX12_init_220 ?_
      refine r_iload_n C dX12_init_223 rfl 1 rfl ?_
      refine r_bipush (v := (-9)) C dX12_init_224 (by decide) ?_
      obtain ⟨g_4, h⟩ := gdE h
      refine stM_5 C g_4 dX12_init_226 ?_
      refine r_iinc (v := v1_1 + 1) C dX12_init_227 (j := 1) rfl rfl (Nat.le_of_ble_eq_true rfl) (L' := [(1, _), (0, _)]) rfl ?_
      refine r_goto (tgt := 213) C dX12_init_230 (by decide) ?_
      refine r_sub [1, 0] rfl ?_
      exact ih _ _ h
set_option maxHeartbeats 4000000 in
set_option maxRecDepth 100000 in
theorem t_X12_init_L235 {x : Ctx} {w : Wp}  {z : St}  {K254 : St → Option (St)} (hK254 : ∀ (s_11 : St), K254 s_11 = some z → V x WM w 2 (QM x WM w none z) s_11 254 [(0, .ref (wa w 0 0))] []) (C : Cx x WM w cX12_init 2 RX12 1 none) : ∀ (n : Nat) (v1_7 : Int32) (s_8 : St), M_init_L235 K254 n v1_7 s_8 = some z → V x WM w 2 (QM x WM w none z) s_8 235 [(0, .ref (wa w 0 0)), (1, .int v1_7)] [] := by
  intro n
  induction n with
  | zero => intro v1_7 s_8 h; cases h
  | succ n ih =>
    intro v1_7 s_8 h
    unfold M_init_L235 at h
    refine r_iload_n C dX12_init_235 rfl 1 rfl ?_
    refine r_iconst (v := 4) C dX12_init_236 (by decide) ?_
    refine r_icmp_ge (tgt := 254) C dX12_init_237 (by decide) (fun c_9 => ?_) (fun c_9 => ?_)
    · have h := ip h c_9
      refine r_sub [0] rfl ?_
      exact hK254 _ h
    · have h := iq h c_9
      refine r_aload_n C dX12_init_240 rfl 0 rfl ?_
      refine gfX12_26 C dX12_init_241 ?_
      refine r_iload_n C dX12_init_244 rfl 1 rfl ?_
      refine r_bipush (v := (-9)) C dX12_init_245 (by decide) ?_
      obtain ⟨g_10, h⟩ := gdE h
      refine stM_8 C g_10 dX12_init_247 ?_
      refine r_iinc (v := v1_7 + 1) C dX12_init_248 (j := 1) rfl rfl (Nat.le_of_ble_eq_true rfl) (L' := [(1, _), (0, _)]) rfl ?_
      refine r_goto (tgt := 235) C dX12_init_251 (by decide) ?_
      refine r_sub [1, 0] rfl ?_
      exact ih _ _ h
set_option maxHeartbeats 4000000 in
set_option maxRecDepth 100000 in
theorem v_X12_init {x : Ctx} {w : Wp} {s0 : St} {z : St} (C : Cx x WM w cX12_init 2 RX12 1 none) (h : M_init s0 = some z) : V x WM w 2 (QM x WM w none z) s0 211 [(0, .ref (wa w 0 0))] [] := by
  unfold M_init at h
  refine r_iconst (v := 0) C dX12_init_211 (by decide) ?_
  refine r_istore_n C dX12_init_212 rfl (Nat.le_of_ble_eq_true rfl) (L' := [(1, _), (0, _)]) rfl ?_
  refine r_sub [1, 0] rfl ?_
  refine t_X12_init_L213 (fun s_6 h => ?_) C _ _ _ h
  refine r_iconst (v := 0) C dX12_init_233 (by decide) ?_
  refine r_istore_n C dX12_init_234 rfl (Nat.le_of_ble_eq_true rfl) (L' := [(1, _), (0, _)]) rfl ?_
  refine r_sub [1, 0] rfl ?_
  refine t_X12_init_L235 (fun s_12 h => ?_) C _ _ _ h
  refine r_aload_n C dX12_init_254 rfl 0 rfl ?_
  refine gfX12_62 C dX12_init_255 ?_
  refine r_iconst (v := 0) C dX12_init_258 (by decide) ?_
  refine r_iconst (v := 3) C dX12_init_259 (by decide) ?_
  refine stM_24 C (by decide) dX12_init_260 ?_
  refine r_aload_n C dX12_init_261 rfl 0 rfl ?_
  refine gfX12_62 C dX12_init_262 ?_
  refine r_iconst (v := 1) C dX12_init_265 (by decide) ?_
  refine r_iconst (v := 5) C dX12_init_266 (by decide) ?_
  refine stM_24 C (by decide) dX12_init_267 ?_
  refine r_aload_n C dX12_init_268 rfl 0 rfl ?_
  refine gfX12_62 C dX12_init_269 ?_
  refine r_iconst (v := 2) C dX12_init_272 (by decide) ?_
  refine r_bipush (v := 7) C dX12_init_273 (by decide) ?_
  refine stM_24 C (by decide) dX12_init_275 ?_
  cases h
  exact r_vret C dX12_init_276
theorem ksM_eq : ksM = [(0, 0)] ++ [(1, 0)] ++ [(5, 0)] ++ [(6, 0)] ++ [(7, 0)] ++ [(8, 0)] ++ [(9, 0)] ++ [(11, 0)] ++ [(13, 0)] ++ [(14, 0)] ++ [(15, 0)] ++ [(17, 0)] ++ [(18, 0)] ++ [(19, 0)] ++ [(20, 0)] ++ [(21, 0)] ++ [(22, 0)] ++ [(24, 0)] ++ [(25, 0)] ++ [(31, 0)] ++ [(32, 0)] ++ [(34, 0)] ++ [(35, 0)] ++ [(36, 0)] ++ [(37, 0)] ++ [(39, 0)] := rfl
set_option maxHeartbeats 1000000 in
set_option maxRecDepth 100000 in
theorem mb_X12_init {l : Launch} {w : Wp} {b : Nat} {g : Gc} (hw : wa w = adM b) (he0 : g 0 0 = .inr (12, [.int 0, .null, .int 0, .long 0, .long 0, .null, .null, .null, .null, .null, .int 0, .null, .int 0, .null, .null, .null, .int 0, .null, .null, .null, .null, .null, .null, .int 0, .null, .null, .int 0, .int 0, .int 0, .int 0, .int 0, .null, .null, .int 0, .null, .null, .null, .null, .int 0, .null, .long 0])) : CmB l yX12_init (.code yX12_init cX12_init 2 none) 1 25 3375 w [.ref (wa w 0 0)] [(0, 0)] g (b + offM 1 0) ksM (fun kd n => clM (wd w) (wa w) kd n (tau0.1 kd n) tau0.2) := by
  refine CmB.of (own := RX12) (by decide +kernel) rfl rfl (Nat.le_of_ble_eq_true rfl) (L := [(0, .ref (wa w 0 0))]) rfl (fun x hl C => ?_)
  subst hl
  refine b_eqG (g' := gU (gA g w []) 0 0 (.inr (12, [.int 0, .null, .int 0, .long 0, .long 0, .null, .null, .null, .null, .null, .int 0, .null, .int 0, .null, .null, .null, .int 0, .null, .null, .null, .null, .null, .null, .int 0, .null, .null, .int 0, .int 0, .int 0, .int 0, .int 0, .null, .null, .int 0, .null, .null, .null, .null, .int 0, .null, .long 0]))) (fun q _ => gA_0 he0 q.1 q.2) ?_
  refine b_aload_n C dX12_init_0 rfl 0 rfl ?_
  refine b_obj C q_969 q_24 q_25 (by decide) dX12_init_1 ?_
  refine b_aload_n C dX12_init_4 rfl 0 rfl ?_
  refine b_bipush (v := 6) C dX12_init_5 (by decide) ?_
  refine b_newa (atype := .int) (t0 := 0) (N := 6) C 1 0 q_54 rfl (fun _ _ h => h) (fun _ => rfl) (by decide) (by decide) (by decide) (adrM hw (by simp only [offM] <;> omega)) (Or.inl rfl) (Nat.le_of_ble_eq_true rfl) (Nat.le_of_ble_eq_true rfl) dX12_init_7 ?_
  refine b_put (ty := tyX12 1) C (by simp) ((gU_ne _ _ _ _ (fun z => absurd z.1 (by decide))).trans (gU_self _ _ _ _)) rfl iwX12 tyX12 tyX12_ok nmX12 1 (by decide) q_971 rfl rfl (by decide +kernel) rfl rfl (Nat.le_of_ble_eq_true rfl) dX12_init_9 ?_
  refine b_eqG (g' := gU (gA g w [1]) 0 0 (.inr (12, [.int 0, .ref (wa w 1 0), .int 0, .long 0, .long 0, .null, .null, .null, .null, .null, .int 0, .null, .int 0, .null, .null, .null, .int 0, .null, .null, .null, .null, .null, .null, .int 0, .null, .null, .int 0, .int 0, .int 0, .int 0, .int 0, .null, .null, .int 0, .null, .null, .null, .null, .int 0, .null, .long 0]))) (fun q _ => gA_n (by decide) rfl rfl q.1 q.2) ?_
  refine b_aload_n C dX12_init_12 rfl 0 rfl ?_
  refine b_lconst (v := 1) C dX12_init_13 (by decide) ?_
  refine b_put (ty := tyX12 4) C (by simp) (gU_self _ _ _ _) rfl iwX12 tyX12 tyX12_ok nmX12 4 (by decide) q_974 rfl rfl (by decide +kernel) rfl rfl (Nat.le_of_ble_eq_true rfl) dX12_init_14 ?_
  refine b_eqG (g' := gU (gA g w [1]) 0 0 (.inr (12, [.int 0, .ref (wa w 1 0), .int 0, .long 0, .long 1, .null, .null, .null, .null, .null, .int 0, .null, .int 0, .null, .null, .null, .int 0, .null, .null, .null, .null, .null, .null, .int 0, .null, .null, .int 0, .int 0, .int 0, .int 0, .int 0, .null, .null, .int 0, .null, .null, .null, .null, .int 0, .null, .long 0]))) (fun q _ => gA_p rfl q.1 q.2) ?_
  refine b_aload_n C dX12_init_17 rfl 0 rfl ?_
  refine b_bipush (v := 6) C dX12_init_18 (by decide) ?_
  refine b_newa (atype := .int) (t0 := 0) (N := 6) C 5 0 q_54 rfl (fun _ _ h => h) (fun _ => rfl) (by decide) (by decide) (by decide) (adrM hw (by simp only [offM] <;> omega)) (Or.inr ⟨(1, 0), by simp, lowpM hw (by simp only [offM] <;> omega)⟩) (Nat.le_of_ble_eq_true rfl) (Nat.le_of_ble_eq_true rfl) dX12_init_20 ?_
  refine b_put (ty := tyX12 5) C (by simp) ((gU_ne _ _ _ _ (fun z => absurd z.1 (by decide))).trans (gU_self _ _ _ _)) rfl iwX12 tyX12 tyX12_ok nmX12 5 (by decide) q_975 rfl rfl (by decide +kernel) rfl rfl (Nat.le_of_ble_eq_true rfl) dX12_init_22 ?_
  refine b_eqG (g' := gU (gA g w [1, 5]) 0 0 (.inr (12, [.int 0, .ref (wa w 1 0), .int 0, .long 0, .long 1, .ref (wa w 5 0), .null, .null, .null, .null, .int 0, .null, .int 0, .null, .null, .null, .int 0, .null, .null, .null, .null, .null, .null, .int 0, .null, .null, .int 0, .int 0, .int 0, .int 0, .int 0, .null, .null, .int 0, .null, .null, .null, .null, .int 0, .null, .long 0]))) (fun q _ => gA_n (by decide) rfl rfl q.1 q.2) ?_
  refine b_aload_n C dX12_init_25 rfl 0 rfl ?_
  refine b_sipush (v := 240) C dX12_init_26 (by decide) ?_
  refine b_newa (atype := .int) (t0 := 0) (N := 240) C 6 0 q_54 rfl (fun _ _ h => h) (fun _ => rfl) (by decide) (by decide) (by decide) (adrM hw (by simp only [offM] <;> omega)) (Or.inr ⟨(5, 0), by simp, lowpM hw (by simp only [offM] <;> omega)⟩) (Nat.le_of_ble_eq_true rfl) (Nat.le_of_ble_eq_true rfl) dX12_init_29 ?_
  refine b_put (ty := tyX12 6) C (by simp) ((gU_ne _ _ _ _ (fun z => absurd z.1 (by decide))).trans (gU_self _ _ _ _)) rfl iwX12 tyX12 tyX12_ok nmX12 6 (by decide) q_976 rfl rfl (by decide +kernel) rfl rfl (Nat.le_of_ble_eq_true rfl) dX12_init_31 ?_
  refine b_eqG (g' := gU (gA g w [1, 5, 6]) 0 0 (.inr (12, [.int 0, .ref (wa w 1 0), .int 0, .long 0, .long 1, .ref (wa w 5 0), .ref (wa w 6 0), .null, .null, .null, .int 0, .null, .int 0, .null, .null, .null, .int 0, .null, .null, .null, .null, .null, .null, .int 0, .null, .null, .int 0, .int 0, .int 0, .int 0, .int 0, .null, .null, .int 0, .null, .null, .null, .null, .int 0, .null, .long 0]))) (fun q _ => gA_n (by decide) rfl rfl q.1 q.2) ?_
  refine b_aload_n C dX12_init_34 rfl 0 rfl ?_
  refine b_bipush (v := 40) C dX12_init_35 (by decide) ?_
  refine b_newa (atype := .int) (t0 := 0) (N := 40) C 7 0 q_54 rfl (fun _ _ h => h) (fun _ => rfl) (by decide) (by decide) (by decide) (adrM hw (by simp only [offM] <;> omega)) (Or.inr ⟨(6, 0), by simp, lowpM hw (by simp only [offM] <;> omega)⟩) (Nat.le_of_ble_eq_true rfl) (Nat.le_of_ble_eq_true rfl) dX12_init_37 ?_
  refine b_put (ty := tyX12 7) C (by simp) ((gU_ne _ _ _ _ (fun z => absurd z.1 (by decide))).trans (gU_self _ _ _ _)) rfl iwX12 tyX12 tyX12_ok nmX12 7 (by decide) q_977 rfl rfl (by decide +kernel) rfl rfl (Nat.le_of_ble_eq_true rfl) dX12_init_39 ?_
  refine b_eqG (g' := gU (gA g w [1, 5, 6, 7]) 0 0 (.inr (12, [.int 0, .ref (wa w 1 0), .int 0, .long 0, .long 1, .ref (wa w 5 0), .ref (wa w 6 0), .ref (wa w 7 0), .null, .null, .int 0, .null, .int 0, .null, .null, .null, .int 0, .null, .null, .null, .null, .null, .null, .int 0, .null, .null, .int 0, .int 0, .int 0, .int 0, .int 0, .null, .null, .int 0, .null, .null, .null, .null, .int 0, .null, .long 0]))) (fun q _ => gA_n (by decide) rfl rfl q.1 q.2) ?_
  refine b_aload_n C dX12_init_42 rfl 0 rfl ?_
  refine b_iconst (v := 4) C dX12_init_43 (by decide) ?_
  refine b_newa (atype := .int) (t0 := 0) (N := 4) C 8 0 q_54 rfl (fun _ _ h => h) (fun _ => rfl) (by decide) (by decide) (by decide) (adrM hw (by simp only [offM] <;> omega)) (Or.inr ⟨(7, 0), by simp, lowpM hw (by simp only [offM] <;> omega)⟩) (Nat.le_of_ble_eq_true rfl) (Nat.le_of_ble_eq_true rfl) dX12_init_44 ?_
  refine b_put (ty := tyX12 8) C (by simp) ((gU_ne _ _ _ _ (fun z => absurd z.1 (by decide))).trans (gU_self _ _ _ _)) rfl iwX12 tyX12 tyX12_ok nmX12 8 (by decide) q_978 rfl rfl (by decide +kernel) rfl rfl (Nat.le_of_ble_eq_true rfl) dX12_init_46 ?_
  refine b_eqG (g' := gU (gA g w [1, 5, 6, 7, 8]) 0 0 (.inr (12, [.int 0, .ref (wa w 1 0), .int 0, .long 0, .long 1, .ref (wa w 5 0), .ref (wa w 6 0), .ref (wa w 7 0), .ref (wa w 8 0), .null, .int 0, .null, .int 0, .null, .null, .null, .int 0, .null, .null, .null, .null, .null, .null, .int 0, .null, .null, .int 0, .int 0, .int 0, .int 0, .int 0, .null, .null, .int 0, .null, .null, .null, .null, .int 0, .null, .long 0]))) (fun q _ => gA_n (by decide) rfl rfl q.1 q.2) ?_
  refine b_aload_n C dX12_init_49 rfl 0 rfl ?_
  refine b_sipush (v := 160) C dX12_init_50 (by decide) ?_
  refine b_newa (atype := .int) (t0 := 0) (N := 160) C 9 0 q_54 rfl (fun _ _ h => h) (fun _ => rfl) (by decide) (by decide) (by decide) (adrM hw (by simp only [offM] <;> omega)) (Or.inr ⟨(8, 0), by simp, lowpM hw (by simp only [offM] <;> omega)⟩) (Nat.le_of_ble_eq_true rfl) (Nat.le_of_ble_eq_true rfl) dX12_init_53 ?_
  refine b_put (ty := tyX12 9) C (by simp) ((gU_ne _ _ _ _ (fun z => absurd z.1 (by decide))).trans (gU_self _ _ _ _)) rfl iwX12 tyX12 tyX12_ok nmX12 9 (by decide) q_979 rfl rfl (by decide +kernel) rfl rfl (Nat.le_of_ble_eq_true rfl) dX12_init_55 ?_
  refine b_eqG (g' := gU (gA g w [1, 5, 6, 7, 8, 9]) 0 0 (.inr (12, [.int 0, .ref (wa w 1 0), .int 0, .long 0, .long 1, .ref (wa w 5 0), .ref (wa w 6 0), .ref (wa w 7 0), .ref (wa w 8 0), .ref (wa w 9 0), .int 0, .null, .int 0, .null, .null, .null, .int 0, .null, .null, .null, .null, .null, .null, .int 0, .null, .null, .int 0, .int 0, .int 0, .int 0, .int 0, .null, .null, .int 0, .null, .null, .null, .null, .int 0, .null, .long 0]))) (fun q _ => gA_n (by decide) rfl rfl q.1 q.2) ?_
  refine b_aload_n C dX12_init_58 rfl 0 rfl ?_
  refine b_bipush (v := 12) C dX12_init_59 (by decide) ?_
  refine b_newa (atype := .int) (t0 := 0) (N := 12) C 11 0 q_54 rfl (fun _ _ h => h) (fun _ => rfl) (by decide) (by decide) (by decide) (adrM hw (by simp only [offM] <;> omega)) (Or.inr ⟨(9, 0), by simp, lowpM hw (by simp only [offM] <;> omega)⟩) (Nat.le_of_ble_eq_true rfl) (Nat.le_of_ble_eq_true rfl) dX12_init_61 ?_
  refine b_put (ty := tyX12 11) C (by simp) ((gU_ne _ _ _ _ (fun z => absurd z.1 (by decide))).trans (gU_self _ _ _ _)) rfl iwX12 tyX12 tyX12_ok nmX12 11 (by decide) q_981 rfl rfl (by decide +kernel) rfl rfl (Nat.le_of_ble_eq_true rfl) dX12_init_63 ?_
  refine b_eqG (g' := gU (gA g w [1, 5, 6, 7, 8, 9, 11]) 0 0 (.inr (12, [.int 0, .ref (wa w 1 0), .int 0, .long 0, .long 1, .ref (wa w 5 0), .ref (wa w 6 0), .ref (wa w 7 0), .ref (wa w 8 0), .ref (wa w 9 0), .int 0, .ref (wa w 11 0), .int 0, .null, .null, .null, .int 0, .null, .null, .null, .null, .null, .null, .int 0, .null, .null, .int 0, .int 0, .int 0, .int 0, .int 0, .null, .null, .int 0, .null, .null, .null, .null, .int 0, .null, .long 0]))) (fun q _ => gA_n (by decide) rfl rfl q.1 q.2) ?_
  refine b_aload_n C dX12_init_66 rfl 0 rfl ?_
  refine b_bipush (v := 8) C dX12_init_67 (by decide) ?_
  refine b_newa (atype := .int) (t0 := 0) (N := 8) C 13 0 q_54 rfl (fun _ _ h => h) (fun _ => rfl) (by decide) (by decide) (by decide) (adrM hw (by simp only [offM] <;> omega)) (Or.inr ⟨(11, 0), by simp, lowpM hw (by simp only [offM] <;> omega)⟩) (Nat.le_of_ble_eq_true rfl) (Nat.le_of_ble_eq_true rfl) dX12_init_69 ?_
  refine b_put (ty := tyX12 13) C (by simp) ((gU_ne _ _ _ _ (fun z => absurd z.1 (by decide))).trans (gU_self _ _ _ _)) rfl iwX12 tyX12 tyX12_ok nmX12 13 (by decide) q_983 rfl rfl (by decide +kernel) rfl rfl (Nat.le_of_ble_eq_true rfl) dX12_init_71 ?_
  refine b_eqG (g' := gU (gA g w [1, 5, 6, 7, 8, 9, 11, 13]) 0 0 (.inr (12, [.int 0, .ref (wa w 1 0), .int 0, .long 0, .long 1, .ref (wa w 5 0), .ref (wa w 6 0), .ref (wa w 7 0), .ref (wa w 8 0), .ref (wa w 9 0), .int 0, .ref (wa w 11 0), .int 0, .ref (wa w 13 0), .null, .null, .int 0, .null, .null, .null, .null, .null, .null, .int 0, .null, .null, .int 0, .int 0, .int 0, .int 0, .int 0, .null, .null, .int 0, .null, .null, .null, .null, .int 0, .null, .long 0]))) (fun q _ => gA_n (by decide) rfl rfl q.1 q.2) ?_
  refine b_aload_n C dX12_init_74 rfl 0 rfl ?_
  refine b_bipush (v := 8) C dX12_init_75 (by decide) ?_
  refine b_newa (atype := .int) (t0 := 0) (N := 8) C 14 0 q_54 rfl (fun _ _ h => h) (fun _ => rfl) (by decide) (by decide) (by decide) (adrM hw (by simp only [offM] <;> omega)) (Or.inr ⟨(13, 0), by simp, lowpM hw (by simp only [offM] <;> omega)⟩) (Nat.le_of_ble_eq_true rfl) (Nat.le_of_ble_eq_true rfl) dX12_init_77 ?_
  refine b_put (ty := tyX12 14) C (by simp) ((gU_ne _ _ _ _ (fun z => absurd z.1 (by decide))).trans (gU_self _ _ _ _)) rfl iwX12 tyX12 tyX12_ok nmX12 14 (by decide) q_984 rfl rfl (by decide +kernel) rfl rfl (Nat.le_of_ble_eq_true rfl) dX12_init_79 ?_
  refine b_eqG (g' := gU (gA g w [1, 5, 6, 7, 8, 9, 11, 13, 14]) 0 0 (.inr (12, [.int 0, .ref (wa w 1 0), .int 0, .long 0, .long 1, .ref (wa w 5 0), .ref (wa w 6 0), .ref (wa w 7 0), .ref (wa w 8 0), .ref (wa w 9 0), .int 0, .ref (wa w 11 0), .int 0, .ref (wa w 13 0), .ref (wa w 14 0), .null, .int 0, .null, .null, .null, .null, .null, .null, .int 0, .null, .null, .int 0, .int 0, .int 0, .int 0, .int 0, .null, .null, .int 0, .null, .null, .null, .null, .int 0, .null, .long 0]))) (fun q _ => gA_n (by decide) rfl rfl q.1 q.2) ?_
  refine b_aload_n C dX12_init_82 rfl 0 rfl ?_
  refine b_bipush (v := 8) C dX12_init_83 (by decide) ?_
  refine b_newa (atype := .int) (t0 := 0) (N := 8) C 15 0 q_54 rfl (fun _ _ h => h) (fun _ => rfl) (by decide) (by decide) (by decide) (adrM hw (by simp only [offM] <;> omega)) (Or.inr ⟨(14, 0), by simp, lowpM hw (by simp only [offM] <;> omega)⟩) (Nat.le_of_ble_eq_true rfl) (Nat.le_of_ble_eq_true rfl) dX12_init_85 ?_
  refine b_put (ty := tyX12 15) C (by simp) ((gU_ne _ _ _ _ (fun z => absurd z.1 (by decide))).trans (gU_self _ _ _ _)) rfl iwX12 tyX12 tyX12_ok nmX12 15 (by decide) q_985 rfl rfl (by decide +kernel) rfl rfl (Nat.le_of_ble_eq_true rfl) dX12_init_87 ?_
  refine b_eqG (g' := gU (gA g w [1, 5, 6, 7, 8, 9, 11, 13, 14, 15]) 0 0 (.inr (12, [.int 0, .ref (wa w 1 0), .int 0, .long 0, .long 1, .ref (wa w 5 0), .ref (wa w 6 0), .ref (wa w 7 0), .ref (wa w 8 0), .ref (wa w 9 0), .int 0, .ref (wa w 11 0), .int 0, .ref (wa w 13 0), .ref (wa w 14 0), .ref (wa w 15 0), .int 0, .null, .null, .null, .null, .null, .null, .int 0, .null, .null, .int 0, .int 0, .int 0, .int 0, .int 0, .null, .null, .int 0, .null, .null, .null, .null, .int 0, .null, .long 0]))) (fun q _ => gA_n (by decide) rfl rfl q.1 q.2) ?_
  refine b_aload_n C dX12_init_90 rfl 0 rfl ?_
  refine b_bipush (v := 24) C dX12_init_91 (by decide) ?_
  refine b_newa (atype := .int) (t0 := 0) (N := 24) C 17 0 q_54 rfl (fun _ _ h => h) (fun _ => rfl) (by decide) (by decide) (by decide) (adrM hw (by simp only [offM] <;> omega)) (Or.inr ⟨(15, 0), by simp, lowpM hw (by simp only [offM] <;> omega)⟩) (Nat.le_of_ble_eq_true rfl) (Nat.le_of_ble_eq_true rfl) dX12_init_93 ?_
  refine b_put (ty := tyX12 17) C (by simp) ((gU_ne _ _ _ _ (fun z => absurd z.1 (by decide))).trans (gU_self _ _ _ _)) rfl iwX12 tyX12 tyX12_ok nmX12 17 (by decide) q_987 rfl rfl (by decide +kernel) rfl rfl (Nat.le_of_ble_eq_true rfl) dX12_init_95 ?_
  refine b_eqG (g' := gU (gA g w [1, 5, 6, 7, 8, 9, 11, 13, 14, 15, 17]) 0 0 (.inr (12, [.int 0, .ref (wa w 1 0), .int 0, .long 0, .long 1, .ref (wa w 5 0), .ref (wa w 6 0), .ref (wa w 7 0), .ref (wa w 8 0), .ref (wa w 9 0), .int 0, .ref (wa w 11 0), .int 0, .ref (wa w 13 0), .ref (wa w 14 0), .ref (wa w 15 0), .int 0, .ref (wa w 17 0), .null, .null, .null, .null, .null, .int 0, .null, .null, .int 0, .int 0, .int 0, .int 0, .int 0, .null, .null, .int 0, .null, .null, .null, .null, .int 0, .null, .long 0]))) (fun q _ => gA_n (by decide) rfl rfl q.1 q.2) ?_
  refine b_aload_n C dX12_init_98 rfl 0 rfl ?_
  refine b_bipush (v := 24) C dX12_init_99 (by decide) ?_
  refine b_newa (atype := .int) (t0 := 0) (N := 24) C 18 0 q_54 rfl (fun _ _ h => h) (fun _ => rfl) (by decide) (by decide) (by decide) (adrM hw (by simp only [offM] <;> omega)) (Or.inr ⟨(17, 0), by simp, lowpM hw (by simp only [offM] <;> omega)⟩) (Nat.le_of_ble_eq_true rfl) (Nat.le_of_ble_eq_true rfl) dX12_init_101 ?_
  refine b_put (ty := tyX12 18) C (by simp) ((gU_ne _ _ _ _ (fun z => absurd z.1 (by decide))).trans (gU_self _ _ _ _)) rfl iwX12 tyX12 tyX12_ok nmX12 18 (by decide) q_988 rfl rfl (by decide +kernel) rfl rfl (Nat.le_of_ble_eq_true rfl) dX12_init_103 ?_
  refine b_eqG (g' := gU (gA g w [1, 5, 6, 7, 8, 9, 11, 13, 14, 15, 17, 18]) 0 0 (.inr (12, [.int 0, .ref (wa w 1 0), .int 0, .long 0, .long 1, .ref (wa w 5 0), .ref (wa w 6 0), .ref (wa w 7 0), .ref (wa w 8 0), .ref (wa w 9 0), .int 0, .ref (wa w 11 0), .int 0, .ref (wa w 13 0), .ref (wa w 14 0), .ref (wa w 15 0), .int 0, .ref (wa w 17 0), .ref (wa w 18 0), .null, .null, .null, .null, .int 0, .null, .null, .int 0, .int 0, .int 0, .int 0, .int 0, .null, .null, .int 0, .null, .null, .null, .null, .int 0, .null, .long 0]))) (fun q _ => gA_n (by decide) rfl rfl q.1 q.2) ?_
  refine b_aload_n C dX12_init_106 rfl 0 rfl ?_
  refine b_bipush (v := 24) C dX12_init_107 (by decide) ?_
  refine b_newa (atype := .int) (t0 := 0) (N := 24) C 19 0 q_54 rfl (fun _ _ h => h) (fun _ => rfl) (by decide) (by decide) (by decide) (adrM hw (by simp only [offM] <;> omega)) (Or.inr ⟨(18, 0), by simp, lowpM hw (by simp only [offM] <;> omega)⟩) (Nat.le_of_ble_eq_true rfl) (Nat.le_of_ble_eq_true rfl) dX12_init_109 ?_
  refine b_put (ty := tyX12 19) C (by simp) ((gU_ne _ _ _ _ (fun z => absurd z.1 (by decide))).trans (gU_self _ _ _ _)) rfl iwX12 tyX12 tyX12_ok nmX12 19 (by decide) q_989 rfl rfl (by decide +kernel) rfl rfl (Nat.le_of_ble_eq_true rfl) dX12_init_111 ?_
  refine b_eqG (g' := gU (gA g w [1, 5, 6, 7, 8, 9, 11, 13, 14, 15, 17, 18, 19]) 0 0 (.inr (12, [.int 0, .ref (wa w 1 0), .int 0, .long 0, .long 1, .ref (wa w 5 0), .ref (wa w 6 0), .ref (wa w 7 0), .ref (wa w 8 0), .ref (wa w 9 0), .int 0, .ref (wa w 11 0), .int 0, .ref (wa w 13 0), .ref (wa w 14 0), .ref (wa w 15 0), .int 0, .ref (wa w 17 0), .ref (wa w 18 0), .ref (wa w 19 0), .null, .null, .null, .int 0, .null, .null, .int 0, .int 0, .int 0, .int 0, .int 0, .null, .null, .int 0, .null, .null, .null, .null, .int 0, .null, .long 0]))) (fun q _ => gA_n (by decide) rfl rfl q.1 q.2) ?_
  refine b_aload_n C dX12_init_114 rfl 0 rfl ?_
  refine b_bipush (v := 24) C dX12_init_115 (by decide) ?_
  refine b_newa (atype := .int) (t0 := 0) (N := 24) C 20 0 q_54 rfl (fun _ _ h => h) (fun _ => rfl) (by decide) (by decide) (by decide) (adrM hw (by simp only [offM] <;> omega)) (Or.inr ⟨(19, 0), by simp, lowpM hw (by simp only [offM] <;> omega)⟩) (Nat.le_of_ble_eq_true rfl) (Nat.le_of_ble_eq_true rfl) dX12_init_117 ?_
  refine b_put (ty := tyX12 20) C (by simp) ((gU_ne _ _ _ _ (fun z => absurd z.1 (by decide))).trans (gU_self _ _ _ _)) rfl iwX12 tyX12 tyX12_ok nmX12 20 (by decide) q_990 rfl rfl (by decide +kernel) rfl rfl (Nat.le_of_ble_eq_true rfl) dX12_init_119 ?_
  refine b_eqG (g' := gU (gA g w [1, 5, 6, 7, 8, 9, 11, 13, 14, 15, 17, 18, 19, 20]) 0 0 (.inr (12, [.int 0, .ref (wa w 1 0), .int 0, .long 0, .long 1, .ref (wa w 5 0), .ref (wa w 6 0), .ref (wa w 7 0), .ref (wa w 8 0), .ref (wa w 9 0), .int 0, .ref (wa w 11 0), .int 0, .ref (wa w 13 0), .ref (wa w 14 0), .ref (wa w 15 0), .int 0, .ref (wa w 17 0), .ref (wa w 18 0), .ref (wa w 19 0), .ref (wa w 20 0), .null, .null, .int 0, .null, .null, .int 0, .int 0, .int 0, .int 0, .int 0, .null, .null, .int 0, .null, .null, .null, .null, .int 0, .null, .long 0]))) (fun q _ => gA_n (by decide) rfl rfl q.1 q.2) ?_
  refine b_aload_n C dX12_init_122 rfl 0 rfl ?_
  refine b_bipush (v := 24) C dX12_init_123 (by decide) ?_
  refine b_newa (atype := .int) (t0 := 0) (N := 24) C 21 0 q_54 rfl (fun _ _ h => h) (fun _ => rfl) (by decide) (by decide) (by decide) (adrM hw (by simp only [offM] <;> omega)) (Or.inr ⟨(20, 0), by simp, lowpM hw (by simp only [offM] <;> omega)⟩) (Nat.le_of_ble_eq_true rfl) (Nat.le_of_ble_eq_true rfl) dX12_init_125 ?_
  refine b_put (ty := tyX12 21) C (by simp) ((gU_ne _ _ _ _ (fun z => absurd z.1 (by decide))).trans (gU_self _ _ _ _)) rfl iwX12 tyX12 tyX12_ok nmX12 21 (by decide) q_991 rfl rfl (by decide +kernel) rfl rfl (Nat.le_of_ble_eq_true rfl) dX12_init_127 ?_
  refine b_eqG (g' := gU (gA g w [1, 5, 6, 7, 8, 9, 11, 13, 14, 15, 17, 18, 19, 20, 21]) 0 0 (.inr (12, [.int 0, .ref (wa w 1 0), .int 0, .long 0, .long 1, .ref (wa w 5 0), .ref (wa w 6 0), .ref (wa w 7 0), .ref (wa w 8 0), .ref (wa w 9 0), .int 0, .ref (wa w 11 0), .int 0, .ref (wa w 13 0), .ref (wa w 14 0), .ref (wa w 15 0), .int 0, .ref (wa w 17 0), .ref (wa w 18 0), .ref (wa w 19 0), .ref (wa w 20 0), .ref (wa w 21 0), .null, .int 0, .null, .null, .int 0, .int 0, .int 0, .int 0, .int 0, .null, .null, .int 0, .null, .null, .null, .null, .int 0, .null, .long 0]))) (fun q _ => gA_n (by decide) rfl rfl q.1 q.2) ?_
  refine b_aload_n C dX12_init_130 rfl 0 rfl ?_
  refine b_bipush (v := 120) C dX12_init_131 (by decide) ?_
  refine b_newa (atype := .int) (t0 := 0) (N := 120) C 22 0 q_54 rfl (fun _ _ h => h) (fun _ => rfl) (by decide) (by decide) (by decide) (adrM hw (by simp only [offM] <;> omega)) (Or.inr ⟨(21, 0), by simp, lowpM hw (by simp only [offM] <;> omega)⟩) (Nat.le_of_ble_eq_true rfl) (Nat.le_of_ble_eq_true rfl) dX12_init_133 ?_
  refine b_put (ty := tyX12 22) C (by simp) ((gU_ne _ _ _ _ (fun z => absurd z.1 (by decide))).trans (gU_self _ _ _ _)) rfl iwX12 tyX12 tyX12_ok nmX12 22 (by decide) q_992 rfl rfl (by decide +kernel) rfl rfl (Nat.le_of_ble_eq_true rfl) dX12_init_135 ?_
  refine b_eqG (g' := gU (gA g w [1, 5, 6, 7, 8, 9, 11, 13, 14, 15, 17, 18, 19, 20, 21, 22]) 0 0 (.inr (12, [.int 0, .ref (wa w 1 0), .int 0, .long 0, .long 1, .ref (wa w 5 0), .ref (wa w 6 0), .ref (wa w 7 0), .ref (wa w 8 0), .ref (wa w 9 0), .int 0, .ref (wa w 11 0), .int 0, .ref (wa w 13 0), .ref (wa w 14 0), .ref (wa w 15 0), .int 0, .ref (wa w 17 0), .ref (wa w 18 0), .ref (wa w 19 0), .ref (wa w 20 0), .ref (wa w 21 0), .ref (wa w 22 0), .int 0, .null, .null, .int 0, .int 0, .int 0, .int 0, .int 0, .null, .null, .int 0, .null, .null, .null, .null, .int 0, .null, .long 0]))) (fun q _ => gA_n (by decide) rfl rfl q.1 q.2) ?_
  refine b_aload_n C dX12_init_138 rfl 0 rfl ?_
  refine b_iconst (v := 3) C dX12_init_139 (by decide) ?_
  refine b_newa (atype := .int) (t0 := 0) (N := 3) C 24 0 q_54 rfl (fun _ _ h => h) (fun _ => rfl) (by decide) (by decide) (by decide) (adrM hw (by simp only [offM] <;> omega)) (Or.inr ⟨(22, 0), by simp, lowpM hw (by simp only [offM] <;> omega)⟩) (Nat.le_of_ble_eq_true rfl) (Nat.le_of_ble_eq_true rfl) dX12_init_140 ?_
  refine b_put (ty := tyX12 24) C (by simp) ((gU_ne _ _ _ _ (fun z => absurd z.1 (by decide))).trans (gU_self _ _ _ _)) rfl iwX12 tyX12 tyX12_ok nmX12 24 (by decide) q_994 rfl rfl (by decide +kernel) rfl rfl (Nat.le_of_ble_eq_true rfl) dX12_init_142 ?_
  refine b_eqG (g' := gU (gA g w [1, 5, 6, 7, 8, 9, 11, 13, 14, 15, 17, 18, 19, 20, 21, 22, 24]) 0 0 (.inr (12, [.int 0, .ref (wa w 1 0), .int 0, .long 0, .long 1, .ref (wa w 5 0), .ref (wa w 6 0), .ref (wa w 7 0), .ref (wa w 8 0), .ref (wa w 9 0), .int 0, .ref (wa w 11 0), .int 0, .ref (wa w 13 0), .ref (wa w 14 0), .ref (wa w 15 0), .int 0, .ref (wa w 17 0), .ref (wa w 18 0), .ref (wa w 19 0), .ref (wa w 20 0), .ref (wa w 21 0), .ref (wa w 22 0), .int 0, .ref (wa w 24 0), .null, .int 0, .int 0, .int 0, .int 0, .int 0, .null, .null, .int 0, .null, .null, .null, .null, .int 0, .null, .long 0]))) (fun q _ => gA_n (by decide) rfl rfl q.1 q.2) ?_
  refine b_aload_n C dX12_init_145 rfl 0 rfl ?_
  refine b_sipush (v := 2196) C dX12_init_146 (by decide) ?_
  refine b_newa (atype := .int) (t0 := 0) (N := 2196) C 25 0 q_54 rfl (fun _ _ h => h) (fun _ => rfl) (by decide) (by decide) (by decide) (adrM hw (by simp only [offM] <;> omega)) (Or.inr ⟨(24, 0), by simp, lowpM hw (by simp only [offM] <;> omega)⟩) (Nat.le_of_ble_eq_true rfl) (Nat.le_of_ble_eq_true rfl) dX12_init_149 ?_
  refine b_put (ty := tyX12 25) C (by simp) ((gU_ne _ _ _ _ (fun z => absurd z.1 (by decide))).trans (gU_self _ _ _ _)) rfl iwX12 tyX12 tyX12_ok nmX12 25 (by decide) q_995 rfl rfl (by decide +kernel) rfl rfl (Nat.le_of_ble_eq_true rfl) dX12_init_151 ?_
  refine b_eqG (g' := gU (gA g w [1, 5, 6, 7, 8, 9, 11, 13, 14, 15, 17, 18, 19, 20, 21, 22, 24, 25]) 0 0 (.inr (12, [.int 0, .ref (wa w 1 0), .int 0, .long 0, .long 1, .ref (wa w 5 0), .ref (wa w 6 0), .ref (wa w 7 0), .ref (wa w 8 0), .ref (wa w 9 0), .int 0, .ref (wa w 11 0), .int 0, .ref (wa w 13 0), .ref (wa w 14 0), .ref (wa w 15 0), .int 0, .ref (wa w 17 0), .ref (wa w 18 0), .ref (wa w 19 0), .ref (wa w 20 0), .ref (wa w 21 0), .ref (wa w 22 0), .int 0, .ref (wa w 24 0), .ref (wa w 25 0), .int 0, .int 0, .int 0, .int 0, .int 0, .null, .null, .int 0, .null, .null, .null, .null, .int 0, .null, .long 0]))) (fun q _ => gA_n (by decide) rfl rfl q.1 q.2) ?_
  refine b_aload_n C dX12_init_154 rfl 0 rfl ?_
  refine b_sipush (v := 244) C dX12_init_155 (by decide) ?_
  refine b_newa (atype := .boolean) (t0 := 2) (N := 244) C 31 0 q_1094 rfl (fun _ _ h => h) (fun _ => rfl) (by decide) (by decide) (by decide) (adrM hw (by simp only [offM] <;> omega)) (Or.inr ⟨(25, 0), by simp, lowpM hw (by simp only [offM] <;> omega)⟩) (Nat.le_of_ble_eq_true rfl) (Nat.le_of_ble_eq_true rfl) dX12_init_158 ?_
  refine b_put (ty := tyX12 31) C (by simp) ((gU_ne _ _ _ _ (fun z => absurd z.1 (by decide))).trans (gU_self _ _ _ _)) rfl iwX12 tyX12 tyX12_ok nmX12 31 (by decide) q_1001 rfl rfl (by decide +kernel) rfl rfl (Nat.le_of_ble_eq_true rfl) dX12_init_160 ?_
  refine b_eqG (g' := gU (gA g w [1, 5, 6, 7, 8, 9, 11, 13, 14, 15, 17, 18, 19, 20, 21, 22, 24, 25, 31]) 0 0 (.inr (12, [.int 0, .ref (wa w 1 0), .int 0, .long 0, .long 1, .ref (wa w 5 0), .ref (wa w 6 0), .ref (wa w 7 0), .ref (wa w 8 0), .ref (wa w 9 0), .int 0, .ref (wa w 11 0), .int 0, .ref (wa w 13 0), .ref (wa w 14 0), .ref (wa w 15 0), .int 0, .ref (wa w 17 0), .ref (wa w 18 0), .ref (wa w 19 0), .ref (wa w 20 0), .ref (wa w 21 0), .ref (wa w 22 0), .int 0, .ref (wa w 24 0), .ref (wa w 25 0), .int 0, .int 0, .int 0, .int 0, .int 0, .ref (wa w 31 0), .null, .int 0, .null, .null, .null, .null, .int 0, .null, .long 0]))) (fun q _ => gA_n (by decide) rfl rfl q.1 q.2) ?_
  refine b_aload_n C dX12_init_163 rfl 0 rfl ?_
  refine b_bipush (v := 8) C dX12_init_164 (by decide) ?_
  refine b_newa (atype := .int) (t0 := 0) (N := 8) C 32 0 q_54 rfl (fun _ _ h => h) (fun _ => rfl) (by decide) (by decide) (by decide) (adrM hw (by simp only [offM] <;> omega)) (Or.inr ⟨(31, 0), by simp, lowpM hw (by simp only [offM] <;> omega)⟩) (Nat.le_of_ble_eq_true rfl) (Nat.le_of_ble_eq_true rfl) dX12_init_166 ?_
  refine b_put (ty := tyX12 32) C (by simp) ((gU_ne _ _ _ _ (fun z => absurd z.1 (by decide))).trans (gU_self _ _ _ _)) rfl iwX12 tyX12 tyX12_ok nmX12 32 (by decide) q_1002 rfl rfl (by decide +kernel) rfl rfl (Nat.le_of_ble_eq_true rfl) dX12_init_168 ?_
  refine b_eqG (g' := gU (gA g w [1, 5, 6, 7, 8, 9, 11, 13, 14, 15, 17, 18, 19, 20, 21, 22, 24, 25, 31, 32]) 0 0 (.inr (12, [.int 0, .ref (wa w 1 0), .int 0, .long 0, .long 1, .ref (wa w 5 0), .ref (wa w 6 0), .ref (wa w 7 0), .ref (wa w 8 0), .ref (wa w 9 0), .int 0, .ref (wa w 11 0), .int 0, .ref (wa w 13 0), .ref (wa w 14 0), .ref (wa w 15 0), .int 0, .ref (wa w 17 0), .ref (wa w 18 0), .ref (wa w 19 0), .ref (wa w 20 0), .ref (wa w 21 0), .ref (wa w 22 0), .int 0, .ref (wa w 24 0), .ref (wa w 25 0), .int 0, .int 0, .int 0, .int 0, .int 0, .ref (wa w 31 0), .ref (wa w 32 0), .int 0, .null, .null, .null, .null, .int 0, .null, .long 0]))) (fun q _ => gA_n (by decide) rfl rfl q.1 q.2) ?_
  refine b_aload_n C dX12_init_171 rfl 0 rfl ?_
  refine b_bipush (v := 40) C dX12_init_172 (by decide) ?_
  refine b_newa (atype := .int) (t0 := 0) (N := 40) C 34 0 q_54 rfl (fun _ _ h => h) (fun _ => rfl) (by decide) (by decide) (by decide) (adrM hw (by simp only [offM] <;> omega)) (Or.inr ⟨(32, 0), by simp, lowpM hw (by simp only [offM] <;> omega)⟩) (Nat.le_of_ble_eq_true rfl) (Nat.le_of_ble_eq_true rfl) dX12_init_174 ?_
  refine b_put (ty := tyX12 34) C (by simp) ((gU_ne _ _ _ _ (fun z => absurd z.1 (by decide))).trans (gU_self _ _ _ _)) rfl iwX12 tyX12 tyX12_ok nmX12 34 (by decide) q_1004 rfl rfl (by decide +kernel) rfl rfl (Nat.le_of_ble_eq_true rfl) dX12_init_176 ?_
  refine b_eqG (g' := gU (gA g w [1, 5, 6, 7, 8, 9, 11, 13, 14, 15, 17, 18, 19, 20, 21, 22, 24, 25, 31, 32, 34]) 0 0 (.inr (12, [.int 0, .ref (wa w 1 0), .int 0, .long 0, .long 1, .ref (wa w 5 0), .ref (wa w 6 0), .ref (wa w 7 0), .ref (wa w 8 0), .ref (wa w 9 0), .int 0, .ref (wa w 11 0), .int 0, .ref (wa w 13 0), .ref (wa w 14 0), .ref (wa w 15 0), .int 0, .ref (wa w 17 0), .ref (wa w 18 0), .ref (wa w 19 0), .ref (wa w 20 0), .ref (wa w 21 0), .ref (wa w 22 0), .int 0, .ref (wa w 24 0), .ref (wa w 25 0), .int 0, .int 0, .int 0, .int 0, .int 0, .ref (wa w 31 0), .ref (wa w 32 0), .int 0, .ref (wa w 34 0), .null, .null, .null, .int 0, .null, .long 0]))) (fun q _ => gA_n (by decide) rfl rfl q.1 q.2) ?_
  refine b_aload_n C dX12_init_179 rfl 0 rfl ?_
  refine b_bipush (v := 40) C dX12_init_180 (by decide) ?_
  refine b_newa (atype := .int) (t0 := 0) (N := 40) C 35 0 q_54 rfl (fun _ _ h => h) (fun _ => rfl) (by decide) (by decide) (by decide) (adrM hw (by simp only [offM] <;> omega)) (Or.inr ⟨(34, 0), by simp, lowpM hw (by simp only [offM] <;> omega)⟩) (Nat.le_of_ble_eq_true rfl) (Nat.le_of_ble_eq_true rfl) dX12_init_182 ?_
  refine b_put (ty := tyX12 35) C (by simp) ((gU_ne _ _ _ _ (fun z => absurd z.1 (by decide))).trans (gU_self _ _ _ _)) rfl iwX12 tyX12 tyX12_ok nmX12 35 (by decide) q_1005 rfl rfl (by decide +kernel) rfl rfl (Nat.le_of_ble_eq_true rfl) dX12_init_184 ?_
  refine b_eqG (g' := gU (gA g w [1, 5, 6, 7, 8, 9, 11, 13, 14, 15, 17, 18, 19, 20, 21, 22, 24, 25, 31, 32, 34, 35]) 0 0 (.inr (12, [.int 0, .ref (wa w 1 0), .int 0, .long 0, .long 1, .ref (wa w 5 0), .ref (wa w 6 0), .ref (wa w 7 0), .ref (wa w 8 0), .ref (wa w 9 0), .int 0, .ref (wa w 11 0), .int 0, .ref (wa w 13 0), .ref (wa w 14 0), .ref (wa w 15 0), .int 0, .ref (wa w 17 0), .ref (wa w 18 0), .ref (wa w 19 0), .ref (wa w 20 0), .ref (wa w 21 0), .ref (wa w 22 0), .int 0, .ref (wa w 24 0), .ref (wa w 25 0), .int 0, .int 0, .int 0, .int 0, .int 0, .ref (wa w 31 0), .ref (wa w 32 0), .int 0, .ref (wa w 34 0), .ref (wa w 35 0), .null, .null, .int 0, .null, .long 0]))) (fun q _ => gA_n (by decide) rfl rfl q.1 q.2) ?_
  refine b_aload_n C dX12_init_187 rfl 0 rfl ?_
  refine b_bipush (v := 40) C dX12_init_188 (by decide) ?_
  refine b_newa (atype := .int) (t0 := 0) (N := 40) C 36 0 q_54 rfl (fun _ _ h => h) (fun _ => rfl) (by decide) (by decide) (by decide) (adrM hw (by simp only [offM] <;> omega)) (Or.inr ⟨(35, 0), by simp, lowpM hw (by simp only [offM] <;> omega)⟩) (Nat.le_of_ble_eq_true rfl) (Nat.le_of_ble_eq_true rfl) dX12_init_190 ?_
  refine b_put (ty := tyX12 36) C (by simp) ((gU_ne _ _ _ _ (fun z => absurd z.1 (by decide))).trans (gU_self _ _ _ _)) rfl iwX12 tyX12 tyX12_ok nmX12 36 (by decide) q_1006 rfl rfl (by decide +kernel) rfl rfl (Nat.le_of_ble_eq_true rfl) dX12_init_192 ?_
  refine b_eqG (g' := gU (gA g w [1, 5, 6, 7, 8, 9, 11, 13, 14, 15, 17, 18, 19, 20, 21, 22, 24, 25, 31, 32, 34, 35, 36]) 0 0 (.inr (12, [.int 0, .ref (wa w 1 0), .int 0, .long 0, .long 1, .ref (wa w 5 0), .ref (wa w 6 0), .ref (wa w 7 0), .ref (wa w 8 0), .ref (wa w 9 0), .int 0, .ref (wa w 11 0), .int 0, .ref (wa w 13 0), .ref (wa w 14 0), .ref (wa w 15 0), .int 0, .ref (wa w 17 0), .ref (wa w 18 0), .ref (wa w 19 0), .ref (wa w 20 0), .ref (wa w 21 0), .ref (wa w 22 0), .int 0, .ref (wa w 24 0), .ref (wa w 25 0), .int 0, .int 0, .int 0, .int 0, .int 0, .ref (wa w 31 0), .ref (wa w 32 0), .int 0, .ref (wa w 34 0), .ref (wa w 35 0), .ref (wa w 36 0), .null, .int 0, .null, .long 0]))) (fun q _ => gA_n (by decide) rfl rfl q.1 q.2) ?_
  refine b_aload_n C dX12_init_195 rfl 0 rfl ?_
  refine b_bipush (v := 40) C dX12_init_196 (by decide) ?_
  refine b_newa (atype := .boolean) (t0 := 2) (N := 40) C 37 0 q_1094 rfl (fun _ _ h => h) (fun _ => rfl) (by decide) (by decide) (by decide) (adrM hw (by simp only [offM] <;> omega)) (Or.inr ⟨(36, 0), by simp, lowpM hw (by simp only [offM] <;> omega)⟩) (Nat.le_of_ble_eq_true rfl) (Nat.le_of_ble_eq_true rfl) dX12_init_198 ?_
  refine b_put (ty := tyX12 37) C (by simp) ((gU_ne _ _ _ _ (fun z => absurd z.1 (by decide))).trans (gU_self _ _ _ _)) rfl iwX12 tyX12 tyX12_ok nmX12 37 (by decide) q_1007 rfl rfl (by decide +kernel) rfl rfl (Nat.le_of_ble_eq_true rfl) dX12_init_200 ?_
  refine b_eqG (g' := gU (gA g w [1, 5, 6, 7, 8, 9, 11, 13, 14, 15, 17, 18, 19, 20, 21, 22, 24, 25, 31, 32, 34, 35, 36, 37]) 0 0 (.inr (12, [.int 0, .ref (wa w 1 0), .int 0, .long 0, .long 1, .ref (wa w 5 0), .ref (wa w 6 0), .ref (wa w 7 0), .ref (wa w 8 0), .ref (wa w 9 0), .int 0, .ref (wa w 11 0), .int 0, .ref (wa w 13 0), .ref (wa w 14 0), .ref (wa w 15 0), .int 0, .ref (wa w 17 0), .ref (wa w 18 0), .ref (wa w 19 0), .ref (wa w 20 0), .ref (wa w 21 0), .ref (wa w 22 0), .int 0, .ref (wa w 24 0), .ref (wa w 25 0), .int 0, .int 0, .int 0, .int 0, .int 0, .ref (wa w 31 0), .ref (wa w 32 0), .int 0, .ref (wa w 34 0), .ref (wa w 35 0), .ref (wa w 36 0), .ref (wa w 37 0), .int 0, .null, .long 0]))) (fun q _ => gA_n (by decide) rfl rfl q.1 q.2) ?_
  refine b_aload_n C dX12_init_203 rfl 0 rfl ?_
  refine b_bipush (v := 32) C dX12_init_204 (by decide) ?_
  refine b_newa (atype := .int) (t0 := 0) (N := 32) C 39 0 q_54 rfl (fun _ _ h => h) (fun _ => rfl) (by decide) (by decide) (by decide) (adrM hw (by simp only [offM] <;> omega)) (Or.inr ⟨(37, 0), by simp, lowpM hw (by simp only [offM] <;> omega)⟩) (Nat.le_of_ble_eq_true rfl) (Nat.le_of_ble_eq_true rfl) dX12_init_206 ?_
  refine b_put (ty := tyX12 39) C (by simp) ((gU_ne _ _ _ _ (fun z => absurd z.1 (by decide))).trans (gU_self _ _ _ _)) rfl iwX12 tyX12 tyX12_ok nmX12 39 (by decide) q_1009 rfl rfl (by decide +kernel) rfl rfl (Nat.le_of_ble_eq_true rfl) dX12_init_208 ?_
  refine b_eqG (g' := gU (gA g w [1, 5, 6, 7, 8, 9, 11, 13, 14, 15, 17, 18, 19, 20, 21, 22, 24, 25, 31, 32, 34, 35, 36, 37, 39]) 0 0 (.inr (12, [.int 0, .ref (wa w 1 0), .int 0, .long 0, .long 1, .ref (wa w 5 0), .ref (wa w 6 0), .ref (wa w 7 0), .ref (wa w 8 0), .ref (wa w 9 0), .int 0, .ref (wa w 11 0), .int 0, .ref (wa w 13 0), .ref (wa w 14 0), .ref (wa w 15 0), .int 0, .ref (wa w 17 0), .ref (wa w 18 0), .ref (wa w 19 0), .ref (wa w 20 0), .ref (wa w 21 0), .ref (wa w 22 0), .int 0, .ref (wa w 24 0), .ref (wa w 25 0), .int 0, .int 0, .int 0, .int 0, .int 0, .ref (wa w 31 0), .ref (wa w 32 0), .int 0, .ref (wa w 34 0), .ref (wa w 35 0), .ref (wa w 36 0), .ref (wa w 37 0), .int 0, .ref (wa w 39 0), .long 0]))) (fun q _ => gA_n (by decide) rfl rfl q.1 q.2) ?_
  refine b_eqG (g' := fun kd n => clM (wd w) (wa w) kd n (zM.1 kd n) zM.2) (fun q hq => ?_) ?_
  · obtain ⟨a, b⟩ := q
    dsimp only
    rcases List.mem_append.mp hq with hq | hq
    rotate_left
    · cases List.mem_singleton.mp hq
      exact (gU_ne _ _ _ _ (fun z => absurd z.1 (by decide))).trans (gA_in (by decide))
    rcases List.mem_append.mp hq with hq | hq
    rotate_left
    · cases List.mem_singleton.mp hq
      exact (gU_ne _ _ _ _ (fun z => absurd z.1 (by decide))).trans (gA_in (by decide))
    rcases List.mem_append.mp hq with hq | hq
    rotate_left
    · cases List.mem_singleton.mp hq
      exact (gU_ne _ _ _ _ (fun z => absurd z.1 (by decide))).trans (gA_in (by decide))
    rcases List.mem_append.mp hq with hq | hq
    rotate_left
    · cases List.mem_singleton.mp hq
      exact (gU_ne _ _ _ _ (fun z => absurd z.1 (by decide))).trans (gA_in (by decide))
    rcases List.mem_append.mp hq with hq | hq
    rotate_left
    · cases List.mem_singleton.mp hq
      exact (gU_ne _ _ _ _ (fun z => absurd z.1 (by decide))).trans (gA_in (by decide))
    rcases List.mem_append.mp hq with hq | hq
    rotate_left
    · cases List.mem_singleton.mp hq
      exact (gU_ne _ _ _ _ (fun z => absurd z.1 (by decide))).trans (gA_in (by decide))
    rcases List.mem_append.mp hq with hq | hq
    rotate_left
    · cases List.mem_singleton.mp hq
      exact (gU_ne _ _ _ _ (fun z => absurd z.1 (by decide))).trans (gA_in (by decide))
    rcases List.mem_append.mp hq with hq | hq
    rotate_left
    · cases List.mem_singleton.mp hq
      exact (gU_ne _ _ _ _ (fun z => absurd z.1 (by decide))).trans (gA_in (by decide))
    rcases List.mem_append.mp hq with hq | hq
    rotate_left
    · cases List.mem_singleton.mp hq
      exact (gU_ne _ _ _ _ (fun z => absurd z.1 (by decide))).trans (gA_in (by decide))
    rcases List.mem_append.mp hq with hq | hq
    rotate_left
    · cases List.mem_singleton.mp hq
      exact (gU_ne _ _ _ _ (fun z => absurd z.1 (by decide))).trans (gA_in (by decide))
    rcases List.mem_append.mp hq with hq | hq
    rotate_left
    · cases List.mem_singleton.mp hq
      exact (gU_ne _ _ _ _ (fun z => absurd z.1 (by decide))).trans (gA_in (by decide))
    rcases List.mem_append.mp hq with hq | hq
    rotate_left
    · cases List.mem_singleton.mp hq
      exact (gU_ne _ _ _ _ (fun z => absurd z.1 (by decide))).trans (gA_in (by decide))
    rcases List.mem_append.mp hq with hq | hq
    rotate_left
    · cases List.mem_singleton.mp hq
      exact (gU_ne _ _ _ _ (fun z => absurd z.1 (by decide))).trans (gA_in (by decide))
    rcases List.mem_append.mp hq with hq | hq
    rotate_left
    · cases List.mem_singleton.mp hq
      exact (gU_ne _ _ _ _ (fun z => absurd z.1 (by decide))).trans (gA_in (by decide))
    rcases List.mem_append.mp hq with hq | hq
    rotate_left
    · cases List.mem_singleton.mp hq
      exact (gU_ne _ _ _ _ (fun z => absurd z.1 (by decide))).trans (gA_in (by decide))
    rcases List.mem_append.mp hq with hq | hq
    rotate_left
    · cases List.mem_singleton.mp hq
      exact (gU_ne _ _ _ _ (fun z => absurd z.1 (by decide))).trans (gA_in (by decide))
    rcases List.mem_append.mp hq with hq | hq
    rotate_left
    · cases List.mem_singleton.mp hq
      exact (gU_ne _ _ _ _ (fun z => absurd z.1 (by decide))).trans (gA_in (by decide))
    rcases List.mem_append.mp hq with hq | hq
    rotate_left
    · cases List.mem_singleton.mp hq
      exact (gU_ne _ _ _ _ (fun z => absurd z.1 (by decide))).trans (gA_in (by decide))
    rcases List.mem_append.mp hq with hq | hq
    rotate_left
    · cases List.mem_singleton.mp hq
      exact (gU_ne _ _ _ _ (fun z => absurd z.1 (by decide))).trans (gA_in (by decide))
    rcases List.mem_append.mp hq with hq | hq
    rotate_left
    · cases List.mem_singleton.mp hq
      exact (gU_ne _ _ _ _ (fun z => absurd z.1 (by decide))).trans (gA_in (by decide))
    rcases List.mem_append.mp hq with hq | hq
    rotate_left
    · cases List.mem_singleton.mp hq
      exact (gU_ne _ _ _ _ (fun z => absurd z.1 (by decide))).trans (gA_in (by decide))
    rcases List.mem_append.mp hq with hq | hq
    rotate_left
    · cases List.mem_singleton.mp hq
      exact (gU_ne _ _ _ _ (fun z => absurd z.1 (by decide))).trans (gA_in (by decide))
    rcases List.mem_append.mp hq with hq | hq
    rotate_left
    · cases List.mem_singleton.mp hq
      exact (gU_ne _ _ _ _ (fun z => absurd z.1 (by decide))).trans (gA_in (by decide))
    rcases List.mem_append.mp hq with hq | hq
    rotate_left
    · cases List.mem_singleton.mp hq
      exact (gU_ne _ _ _ _ (fun z => absurd z.1 (by decide))).trans (gA_in (by decide))
    rcases List.mem_append.mp hq with hq | hq
    rotate_left
    · cases List.mem_singleton.mp hq
      exact (gU_ne _ _ _ _ (fun z => absurd z.1 (by decide))).trans (gA_in (by decide))
    cases List.mem_singleton.mp hq
    exact (gU_self _ _ _ _).trans (clM_0 (wd w) (wa w) 0 (zM.1 0 0) zM.2).symm
  refine b_ks ksM_eq ?_
  intro H locs ls hP hD hS hls
  have C' := C.toCx (c := 0 + 1 + 1 + 1 + 1 + 1 + 1 + 1 + 1 + 1 + 1 + 1 + 1 + 1 + 1 + 1 + 1 + 1 + 1 + 1 + 1 + 1 + 1 + 1 + 1 + 1) (m := 0 + 6 + 6 + 240 + 40 + 4 + 160 + 12 + 8 + 8 + 8 + 24 + 24 + 24 + 24 + 24 + 120 + 3 + 2196 + 244 + 8 + 40 + 40 + 40 + 40 + 32) (k := WM) (by decide) (by decide) (fun σ => by show va_D (wA w) (wl WM w σ); exact (wlG_D (g := fun kd n => clM (wd w) (wa w) kd n (zM.1 kd n) zM.2) (g' := fun kd n => clM (wd w) (wa w) kd n (σ.1 kd n) σ.2) hD)) KoM
  refine VB_go ?_ H locs ls hP hD hS hls
  exact V_toB (k := WM) (σ := zM) (z := tau0) rfl rfl (v_X12_init (x := (xP x, xL x, xE x, xR x, xS x, xM x, xA x, xB x, xT x, xC x, 0 + 1 + 1 + 1 + 1 + 1 + 1 + 1 + 1 + 1 + 1 + 1 + 1 + 1 + 1 + 1 + 1 + 1 + 1 + 1 + 1 + 1 + 1 + 1 + 1 + 1, 0 + 6 + 6 + 240 + 40 + 4 + 160 + 12 + 8 + 8 + 8 + 24 + 24 + 24 + 24 + 24 + 120 + 3 + 2196 + 244 + 8 + 40 + 40 + 40 + 40 + 32)) C' M_init_eq)
