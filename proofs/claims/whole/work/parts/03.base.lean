/-! ===== words, contexts, worlds, rows: what every walk here stands on ===== -/
def lw_good : List Cond := lw_tbl.filter goodWord
theorem lw_mem {w : Cond} (i : Nat) (h : tables_1[i]? = some w) (g : goodWord w = true) : w ∈ lw_good := List.mem_filter.mpr ⟨List.mem_append_right _ (List.mem_of_getElem? h), g⟩
theorem lw_memP {w : Cond} (i : Nat) (h : (k2_sels lw_privs)[i]? = some w) (g : goodWord w = true) : w ∈ lw_good := List.mem_filter.mpr ⟨List.mem_append_left _ (List.mem_of_getElem? h), g⟩
theorem lw_gin {w : Cond} (h : w ∈ lw_good) : w ∈ lw_good ∧ ((w.onTables && w.keeps) = true ∨ ∃ ty, w = .arrayClass ty) := ⟨h, good_of_word (List.mem_filter.mp h).2⟩
theorem lw_gV {own C : String} {i : Nat} {y : MethodName} {c : Cond} (h1 : Cond.methodLink own i y ∈ lw_good) (h2 : Cond.instanceMethod y ∈ lw_good) (h3 : Cond.selects C y y ∈ lw_good) (h4 : Cond.initialized C ∈ lw_good) (h5 : c ∈ lw_good) : GoodIn lw_good (wsV own i C y (c :: lw_good)) := by
  intro w hw
  rcases List.mem_append.mp hw with h | h
  · simp only [List.mem_cons, List.not_mem_nil, or_false] at h
    rcases h with rfl | rfl | rfl | rfl
    · exact lw_gin h1
    · exact lw_gin h2
    · exact lw_gin h3
    · exact lw_gin h4
  · rcases List.mem_cons.mp h with rfl | h
    · exact lw_gin h5
    · exact lw_gin h
theorem lw_gN {c : Cond} (h5 : c ∈ lw_good) : GoodIn lw_good (c :: lw_good) := by
  intro w hw
  rcases List.mem_cons.mp hw with rfl | h
  · exact lw_gin h5
  · exact lw_gin h
theorem lw_gS {own : String} {i : Nat} {y : MethodName} {c : Cond} (h1 : Cond.methodLink own i y ∈ lw_good) (h2 : Cond.static y ∈ lw_good) (h4 : Cond.initialized y.cls ∈ lw_good) (h5 : c ∈ lw_good) : GoodIn lw_good (va_wsS own i y (c :: lw_good)) := by
  intro w hw
  rcases List.mem_append.mp hw with h | h
  · simp only [List.mem_cons, List.not_mem_nil, or_false] at h
    rcases h with rfl | rfl | rfl
    · exact lw_gin h1
    · exact lw_gin h2
    · exact lw_gin h4
  · rcases List.mem_cons.mp h with rfl | h
    · exact lw_gin h5
    · exact lw_gin h
/-- the fixed things of a walk -/
abbrev Ctx : Type := Program × Launch × Env × Room × State × MethodId × Array Value × List Frame × Method × Code × Nat × Nat
abbrev xP (x : Ctx) : Program := x.1
abbrev xL (x : Ctx) : Launch := x.2.1
abbrev xE (x : Ctx) : Env := x.2.2.1
abbrev xR (x : Ctx) : Room := x.2.2.2.1
abbrev xS (x : Ctx) : State := x.2.2.2.2.1
abbrev xM (x : Ctx) : MethodId := x.2.2.2.2.2.1
abbrev xA (x : Ctx) : Array Value := x.2.2.2.2.2.2.1
abbrev xB (x : Ctx) : List Frame := x.2.2.2.2.2.2.2.1
abbrev xT (x : Ctx) : Method := x.2.2.2.2.2.2.2.2.1
abbrev xC (x : Ctx) : Code := x.2.2.2.2.2.2.2.2.2.1
abbrev xk (x : Ctx) : Nat := x.2.2.2.2.2.2.2.2.2.2.1
abbrev xn (x : Ctx) : Nat := x.2.2.2.2.2.2.2.2.2.2.2
/-- a store: ints by kind of cell, number, place; longs by place -/
abbrev St : Type := (Nat → Nat → Nat → Int32) × (Nat → Int64)
/-- where a world lies: class numbers, array classes, addresses, what it may change -/
abbrev Wp : Type := va_G × (Nat → ClassId) × (Nat → Nat → Nat) × (Nat → Prop)
abbrev wD (w : Wp) : va_G := w.1
abbrev wd (w : Wp) : Nat → ClassId := w.2.1
abbrev wa (w : Wp) : Nat → Nat → Nat := w.2.2.1
abbrev wA (w : Wp) : Nat → Prop := w.2.2.2
abbrev Cl : Type := (Nat → ClassId) → (Nat → Nat → Nat) → Nat → Nat → (Nat → Int32) → (Nat → Int64) → va_E
/-- a kind of world: which cells it has, what each holds -/
abbrev Wk : Type := List (Nat × Nat) × Cl
def wl (k : Wk) (w : Wp) (σ : St) : va_W := k.1.map (fun q => (wa w q.1 q.2, k.2 (wd w) (wa w) q.1 q.2 (σ.1 q.1 q.2) σ.2))
def sR (σ : St) (kd n : Nat) (f : Nat → Int32) : St := (fun a b => if a = kd ∧ b = n then f else σ.1 a b, σ.2)
def sX (σ : St) (kd n j : Nat) (v : Int32) : St := sR σ kd n (upd (σ.1 kd n) j v)
def sY (σ : St) (j : Nat) (v : Int64) : St := (σ.1, vp_updL σ.2 j v)
theorem sX_at (σ : St) (kd n j : Nat) (v : Int32) (a b c : Nat) : (sX σ kd n j v).1 a b c = if a = kd ∧ b = n ∧ c = j then v else σ.1 a b c := by
  unfold sX sR upd
  dsimp only
  by_cases h : a = kd ∧ b = n
  · obtain ⟨rfl, rfl⟩ := h
    by_cases h2 : c = j <;> simp [h2]
  · have h2 : ¬ (a = kd ∧ b = n ∧ c = j) := fun q => h ⟨q.1, q.2.1⟩
    rw [if_neg h, if_neg h2]
theorem sX_2 (σ : St) (kd n j : Nat) (v : Int32) : (sX σ kd n j v).2 = σ.2 := rfl
theorem sY_1 (σ : St) (j : Nat) (v : Int64) : (sY σ j v).1 = σ.1 := rfl
theorem wl_get {k : Wk} {w : Wp} {σ : St} {q0 kd n : Nat} (h : k.1[q0]? = some (kd, n)) : (wl k w σ)[q0]? = some (wa w kd n, k.2 (wd w) (wa w) kd n (σ.1 kd n) σ.2) := by
  unfold wl
  rw [List.getElem?_map, h]
  rfl
theorem wl_inv {k : Wk} {w : Wp} {σ : St} {q0 : Nat} {z : Nat × va_E} (h : (wl k w σ)[q0]? = some z) : ∃ kd n, k.1[q0]? = some (kd, n) ∧ z = (wa w kd n, k.2 (wd w) (wa w) kd n (σ.1 kd n) σ.2) := by
  unfold wl at h
  rw [List.getElem?_map] at h
  cases hq : k.1[q0]? with
  | none => rw [hq] at h; cases h
  | some q => rw [hq] at h; cases h; exact ⟨q.1, q.2, rfl, rfl⟩
/-- the world's cells are named once -/
def Ko (k : Wk) : Prop := ∀ (i j : Nat) (q : Nat × Nat), k.1[i]? = some q → k.1[j]? = some q → i = j
theorem wl_set {k : Wk} {w : Wp} {σ : St} {q0 kd n : Nat} (hk : Ko k) (h : k.1[q0]? = some (kd, n)) (f : Nat → Int32) : (wl k w σ).set q0 (wa w kd n, k.2 (wd w) (wa w) kd n f σ.2) = wl k w (sR σ kd n f) := by
  apply List.ext_getElem?
  intro i
  by_cases hi : i = q0
  · subst hi
    have hl : i < (wl k w σ).length := (List.getElem?_eq_some_iff.mp (wl_get (w := w) (σ := σ) h)).1
    rw [List.getElem?_set_self hl, wl_get h]
    simp [sR]
  · rw [List.getElem?_set_ne (Ne.symm hi)]
    unfold wl
    rw [List.getElem?_map, List.getElem?_map]
    cases hq : k.1[i]? with
    | none => rfl
    | some q =>
      have hne : ¬ (q.1 = kd ∧ q.2 = n) := fun z => hi (hk i q0 (kd, n) (by rw [hq, ← z.1, ← z.2]) h)
      simp [sR, hne]
theorem wl_setY {k : Wk} {w : Wp} {σ : St} {q0 kd n j : Nat} (hk : Ko k) (h : k.1[q0]? = some (kd, n)) (v : Int64) (hy : ∀ q ∈ k.1, q ≠ (kd, n) → ∀ x y y', k.2 (wd w) (wa w) q.1 q.2 x y = k.2 (wd w) (wa w) q.1 q.2 x y') : (wl k w σ).set q0 (wa w kd n, k.2 (wd w) (wa w) kd n (σ.1 kd n) (vp_updL σ.2 j v)) = wl k w (sY σ j v) := by
  apply List.ext_getElem?
  intro i
  by_cases hi : i = q0
  · subst hi
    have hl : i < (wl k w σ).length := (List.getElem?_eq_some_iff.mp (wl_get (w := w) (σ := σ) h)).1
    rw [List.getElem?_set_self hl, wl_get h]
    rfl
  · rw [List.getElem?_set_ne (Ne.symm hi)]
    unfold wl
    rw [List.getElem?_map, List.getElem?_map]
    cases hq : k.1[i]? with
    | none => rfl
    | some q =>
      have hne : q ≠ (kd, n) := fun z => hi (hk i q0 (kd, n) (by rw [hq, z]) h)
      simp only [Option.map_some, sY]
      rw [hy q (List.mem_of_getElem? hq) hne _ _ (vp_updL σ.2 j v)]
/-- the addresses alone: apart, and of the kind -/
theorem wl_D {k : Wk} {w : Wp} {σ σ' : St} {A : Nat → Prop} (h : va_D A (wl k w σ)) : va_D A (wl k w σ') := by
  have key : ∀ (i : Nat) (z : Nat × va_E), (wl k w σ')[i]? = some z → ∃ z', (wl k w σ)[i]? = some z' ∧ z'.1 = z.1 := by
    intro i z hz
    obtain ⟨kd, n, h1, h2⟩ := wl_inv hz
    exact ⟨_, wl_get h1, by rw [h2]⟩
  refine ⟨fun i j p q hp hq e => ?_, fun i q hq => ?_⟩
  · obtain ⟨p', h1, h2⟩ := key i p hp
    obtain ⟨q', h3, h4⟩ := key j q hq
    exact h.1 i j p' q' h1 h3 (by rw [h2, h4, e])
  · obtain ⟨q', h1, h2⟩ := key i q hq
    rw [← h2]
    exact h.2 i q' h1
abbrev tysA (d : Nat → ClassId) : List (ClassId × FieldType) := [(d 0, .int), (d 1, .byte), (d 2, .boolean), (d 3, .object "QuarrelBook$Row"), (d 4, .object "QuarrelBook$Text"), (d 5, .object "QuarrelBook$Master"), (d 6, .object "QuarrelBook$Saying"), (d 7, .object "QuarrelBook$Move")]
abbrev nk_1 : Cond := .methodLinkNest "QuarrelBook$Book" 55 ⟨"QuarrelBook", "within", "(II)Z"⟩ "QuarrelBook"
abbrev nk_2 : Cond := .methodLinkNest "QuarrelBook$Page" 38 ⟨"QuarrelBook", "within", "(II)Z"⟩ "QuarrelBook"
abbrev nk_3 : Cond := .fieldLinkNest "QuarrelBook$Text" 42 "QuarrelBook" "POWERS_OF_3" "[I" "QuarrelBook"
def pw3 (j : Nat) : Int32 := match j with
  | 0 => 1
  | 1 => 3
  | 2 => 9
  | 3 => 27
  | _ => 81
/-- what is known of the tables, and of what lies outside the world -/
def Kn (w : Wp) (U : State) : Prop := va_K (wD w) vwCl (tysA (wd w)) U ∧ va_Nw nk_1 U ∧ va_Nw nk_2 U ∧ va_Nw nk_3 U ∧ ∃ t : Nat, va_Z "QuarrelBook" "POWERS_OF_3" "[I" (.ref t) (wA w) U U.heap ∧ va_T .int t 5 (fun j => .int (pw3 j)) (wA w) U U.heap
theorem Kn.to {w : Wp} {s U : State} {H : Heap} {locs : List Loc} (h : Kn w s) (hS : va_S (wA w) s.heap H locs) (hU : U.heap = H) (hW : s.WarmedH U.vm) : Kn w U := by
  obtain ⟨h1, h2, h3, h4, t, h5, h6⟩ := h
  refine ⟨va_K.moved hW.alike h1, va_Nw.warmM hW h2, va_Nw.warmM hW h3, va_Nw.warmF hW h4, t, ?_, ?_⟩
  · rw [hU]; exact (h5.kept (fun a p q => hS.2.1 a p q)).moved hW.alike
  · rw [hU]; exact (h6.kept (fun a p q => hS.2.1 a p q)).moved hW.alike
theorem Kn.calling {w : Wp} {U : State} {g : JFrame} {mk : MethodId} {a : Array Value} (h : Kn w U) : Kn w (U.calling g mk a) := by
  obtain ⟨h1, h2, h3, h4, t, h5, h6⟩ := h
  exact ⟨va_K.moved (u := U) (U := U.calling g mk a) (Vm.Alike.refl U.vm) h1, va_Nw.same (u := U) (U := U.calling g mk a) rfl rfl h2, va_Nw.same (u := U) (U := U.calling g mk a) rfl rfl h3, va_Nw.same (u := U) (U := U.calling g mk a) rfl rfl h4, t, va_Z.moved (u := U) (U := U.calling g mk a) (Vm.Alike.refl U.vm) h5, va_T.moved (u := U) (U := U.calling g mk a) (Vm.Alike.refl U.vm) h6⟩
abbrev rmL (lv : Nat) : Room := { frames := lv, cells := 0, slots := 0, locals := 40 * lv }
/-- a world as a method finds it -/
def Wd (k : Wk) (w : Wp) (σ : St) (U : State) : Prop := va_P (wD w) vwCl (wl k w σ) U.heap ∧ Kn w U ∧ va_D (wA w) (wl k w σ)
def Qg (k : Wk) (w : Wp) (rv : Option Value) (σ : St) : Array Value → State → Outcome → State → Prop := fun _ st oc t => oc = .returned rv ∧ va_P (wD w) vwCl (wl k w σ) t.heap ∧ va_F (wA w) st t
/-- a method's contract: from the store σ it answers rv and leaves the store σ' -/
def Cm (l : Launch) (y : MethodName) (c0 : Cond) (lv : Nat) (k : Wk) (w : Wp) (av : List Value) (σ : St) (rv : Option Value) (σ' : St) : Prop :=
  Met l y (c0 :: lw_good) (rmL lv) (va_Pc av (Wd k w σ)) (Qg k w rv σ') 0 0 (wA w)
/-- what holds in a whole walk -/
def Cx (x : Ctx) (k : Wk) (w : Wp) (cc : ByteArray) (nL : Nat) (own : String) (lv : Nat) (ret : Option FieldType) : Prop :=
  (xP x).tables.exec = Jvm.exec ∧ (xC x).code = cc ∧ (xC x).maxLocals = nL ∧ (xS x).vm.findClass own = some (xM x).cls ∧ (∀ q ∈ lw_good, q.before (xA x) (xS x) = true) ∧ (xT x).locks = false ∧ (xT x).sig.returnType = ret ∧ ((xR x).frames = lv ∧ (xR x).locals = 40 * lv ∧ xk x ≤ (xR x).cells ∧ xn x ≤ (xR x).slots) ∧ Kn w (xS x) ∧ (∀ σ, va_D (wA w) (wl k w σ)) ∧ Ko k
abbrev Wx (x : Ctx) (H : Heap) (locs : List Loc) (Q : State → Prop) (g : JFrame) : Prop := W (xP x) (xL x) (xE x) (xR x) (xS x) (xM x) (xA x) (xB x) (xT x) (xC x) H locs (xk x) (xn x) Q g
/-- at pc, with locals L, stack st and the store σ: it comes to Q -/
def V (x : Ctx) (k : Wk) (w : Wp) (nL : Nat) (Q : State → Prop) (σ : St) (pc : Nat) (L : List (Nat × Value)) (st : List Value) : Prop :=
  ∀ (H : Heap) (locs : List Loc) (ls : Array Slot), va_P (wD w) vwCl (wl k w σ) H → va_S (wA w) (xS x).heap H locs → lv_has ls nL L → Wx x H locs Q (F0 (xM x) pc ls st)
/-- what a method must come to -/
abbrev QM (x : Ctx) (k : Wk) (w : Wp) (rv : Option Value) (σ : St) : State → Prop := MQ (xB x) (Qg k w rv σ) (xA x) (xS x) (xk x) (xn x) (wA w)
theorem Cm.of {l : Launch} {y : MethodName} {cc : ByteArray} {nL lv : Nat} {ret : Option FieldType} {own : String} {k : Wk} {w : Wp} {av : List Value} {σ σ' : St} {rv : Option Value} {L : List (Nat × Value)} (hy : plainName y.cls = true) (ho : y.cls = own) (hL : (lg_sl av).length ≤ nL) (hl : lv_args 0 av = L) (hk : Ko k)
    (h : ∀ x : Ctx, xL x = l → Cx x k w cc nL own lv ret → V x k w nL (QM x k w rv σ') σ 0 L []) : Cm l y (.code y cc nL ret) lv k w av σ rv σ' := by
  refine Met.ofW (cc := cc) (maxL := nL) (ret := ret) hy rfl ?_
  intro p e s m args below meth c s₁ B hml hv
  obtain ⟨rfl, hP, hK, hD⟩ := hv
  have hts := atoms_spec (ws := Cond.code y cc nL ret :: lw_good) B.pre
  have hown : s.vm.findClass y.cls = some m.cls := findClass_of_methodNamed B.named
  have hls := lv_entry av (n := nL) hL
  rw [lg_entry_eq]
  rw [hl] at hls
  exact h (p, l, e, rmL lv, s, m, av.toArray, below, meth, c, 0, 0) rfl ⟨B.exec, B.bytes, hml, by rw [← ho]; exact hown, fun q hq => hts q (List.mem_cons_of_mem _ hq), B.notSynchronized, B.returns, ⟨rfl, rfl, Nat.le_refl _, Nat.le_refl _⟩, hK, fun σ => wl_D hD, hk⟩ s.heap [] _ hP va_S.rf hls
section
variable {x : Ctx} {k : Wk} {w : Wp} {cc : ByteArray} {nL lv : Nat} {own : String} {ret : Option FieldType} {Q : State → Prop} {σ σ' : St} {pc : Nat} {L L' : List (Nat × Value)} {st : List Value}
theorem r_sub (ks : List Nat) (hl : lv_pick L ks = L') (h : V x k w nL Q σ pc L' st) : V x k w nL Q σ pc L st := fun H locs ls hP hS hls => h H locs ls hP hS (lv_sub hls ks hl)

theorem r_iconst (C : Cx x k w cc nL own lv ret) {n : Int} {v : Int32} (hd : decode cc pc = .ok (.iconst n, 1)) (hv : Int32.ofInt n = v) (h : V x k w nL Q σ (pc + 1) L (.int v :: st)) : V x k w nL Q σ pc L (st) := fun H locs ls hP hS hl => lv_iconst C.1 C.2.1 hd hv (h H locs ls hP hS hl)
theorem r_bipush (C : Cx x k w cc nL own lv ret) {n : Int} {v : Int32} (hd : decode cc pc = .ok (.bipush n, 2)) (hv : (Int8.ofInt n).toInt32 = v) (h : V x k w nL Q σ (pc + 2) L (.int v :: st)) : V x k w nL Q σ pc L (st) := fun H locs ls hP hS hl => lv_bipush C.1 C.2.1 hd hv (h H locs ls hP hS hl)
theorem r_sipush (C : Cx x k w cc nL own lv ret) {n : Int} {v : Int32} (hd : decode cc pc = .ok (.sipush n, 3)) (hv : (Int16.ofInt n).toInt32 = v) (h : V x k w nL Q σ (pc + 3) L (.int v :: st)) : V x k w nL Q σ pc L (st) := fun H locs ls hP hS hl => lv_sipush C.1 C.2.1 hd hv (h H locs ls hP hS hl)
theorem r_lconst (C : Cx x k w cc nL own lv ret) {n : Fin 2} {v : Int64} (hd : decode cc pc = .ok (.lconst n, 1)) (hv : Int64.ofNat (n : Nat) = v) (h : V x k w nL Q σ (pc + 1) L (.long v :: st)) : V x k w nL Q σ pc L (st) := fun H locs ls hP hS hl => lv_lconst C.1 C.2.1 hd hv (h H locs ls hP hS hl)
theorem r_iload_n (C : Cx x k w cc nL own lv ret) {q : Fin 4} {i : Nat} {v : Int32} (hd : decode cc pc = .ok (.iload_n q, 1)) (hi : (q : Nat) = i) (j : Nat) (hj : L[j]? = some (i, .int v)) (h : V x k w nL Q σ (pc + 1) L (.int v :: st)) : V x k w nL Q σ pc L (st) := fun H locs ls hP hS hl => lv_iload_n C.1 C.2.1 hd hi (lv_at hl j hj) (h H locs ls hP hS hl)
theorem r_iload (C : Cx x k w cc nL own lv ret) {i : Nat} {v : Int32} (hd : decode cc pc = .ok (.iload i, 2)) (j : Nat) (hj : L[j]? = some (i, .int v)) (h : V x k w nL Q σ (pc + 2) L (.int v :: st)) : V x k w nL Q σ pc L (st) := fun H locs ls hP hS hl => lv_iload C.1 C.2.1 hd (lv_at hl j hj) (h H locs ls hP hS hl)
theorem r_istore_n (C : Cx x k w cc nL own lv ret) {q : Fin 4} {i : Nat} {v : Int32} (hd : decode cc pc = .ok (.istore_n q, 1)) (hi : (q : Nat) = i) (hn : i < nL) (hl' : (i, Value.int v) :: L.filter (fun q => !(q.1 == i) && !(q.1 + 1 == i && q.2.category == 2)) = L') (h : V x k w nL Q σ (pc + 1) L' st) : V x k w nL Q σ pc L (.int v :: st) := fun H locs ls hP hS hl => lv_istore_n C.1 C.2.1 hd hi hl hn hl' (fun ls' hls => h H locs ls' hP hS hls)
theorem r_istore (C : Cx x k w cc nL own lv ret) {i : Nat} {v : Int32} (hd : decode cc pc = .ok (.istore i, 2)) (hn : i < nL) (hl' : (i, Value.int v) :: L.filter (fun q => !(q.1 == i) && !(q.1 + 1 == i && q.2.category == 2)) = L') (h : V x k w nL Q σ (pc + 2) L' st) : V x k w nL Q σ pc L (.int v :: st) := fun H locs ls hP hS hl => lv_istore C.1 C.2.1 hd hl hn hl' (fun ls' hls => h H locs ls' hP hS hls)
theorem r_lload_n (C : Cx x k w cc nL own lv ret) {q : Fin 4} {i : Nat} {v : Int64} (hd : decode cc pc = .ok (.lload_n q, 1)) (hi : (q : Nat) = i) (j : Nat) (hj : L[j]? = some (i, .long v)) (h : V x k w nL Q σ (pc + 1) L (.long v :: st)) : V x k w nL Q σ pc L (st) := fun H locs ls hP hS hl => lv_lload_n C.1 C.2.1 hd hi (lv_at hl j hj) (h H locs ls hP hS hl)
theorem r_lload (C : Cx x k w cc nL own lv ret) {i : Nat} {v : Int64} (hd : decode cc pc = .ok (.lload i, 2)) (j : Nat) (hj : L[j]? = some (i, .long v)) (h : V x k w nL Q σ (pc + 2) L (.long v :: st)) : V x k w nL Q σ pc L (st) := fun H locs ls hP hS hl => lv_lload C.1 C.2.1 hd (lv_at hl j hj) (h H locs ls hP hS hl)
theorem r_lstore_n (C : Cx x k w cc nL own lv ret) {q : Fin 4} {i : Nat} {v : Int64} (hd : decode cc pc = .ok (.lstore_n q, 1)) (hi : (q : Nat) = i) (hn : i + 1 < nL) (hl' : (i, Value.long v) :: L.filter (fun q => !(q.1 == i) && (!(q.1 == i + 1) && !(q.1 + 1 == i && q.2.category == 2))) = L') (h : V x k w nL Q σ (pc + 1) L' st) : V x k w nL Q σ pc L (.long v :: st) := fun H locs ls hP hS hl => lv_lstore_n C.1 C.2.1 hd hi hl hn hl' (fun ls' hls => h H locs ls' hP hS hls)
theorem r_lstore (C : Cx x k w cc nL own lv ret) {i : Nat} {v : Int64} (hd : decode cc pc = .ok (.lstore i, 2)) (hn : i + 1 < nL) (hl' : (i, Value.long v) :: L.filter (fun q => !(q.1 == i) && (!(q.1 == i + 1) && !(q.1 + 1 == i && q.2.category == 2))) = L') (h : V x k w nL Q σ (pc + 2) L' st) : V x k w nL Q σ pc L (.long v :: st) := fun H locs ls hP hS hl => lv_lstore C.1 C.2.1 hd hl hn hl' (fun ls' hls => h H locs ls' hP hS hls)
theorem r_aload_n (C : Cx x k w cc nL own lv ret) {q : Fin 4} {i : Nat} {v : Nat} (hd : decode cc pc = .ok (.aload_n q, 1)) (hi : (q : Nat) = i) (j : Nat) (hj : L[j]? = some (i, .ref v)) (h : V x k w nL Q σ (pc + 1) L (.ref v :: st)) : V x k w nL Q σ pc L (st) := fun H locs ls hP hS hl => lv_aload_n C.1 C.2.1 hd hi (lv_at hl j hj) (h H locs ls hP hS hl)
theorem r_aload (C : Cx x k w cc nL own lv ret) {i : Nat} {v : Nat} (hd : decode cc pc = .ok (.aload i, 2)) (j : Nat) (hj : L[j]? = some (i, .ref v)) (h : V x k w nL Q σ (pc + 2) L (.ref v :: st)) : V x k w nL Q σ pc L (st) := fun H locs ls hP hS hl => lv_aload C.1 C.2.1 hd (lv_at hl j hj) (h H locs ls hP hS hl)
theorem r_astore_n (C : Cx x k w cc nL own lv ret) {q : Fin 4} {i : Nat} {v : Nat} (hd : decode cc pc = .ok (.astore_n q, 1)) (hi : (q : Nat) = i) (hn : i < nL) (hl' : (i, Value.ref v) :: L.filter (fun q => !(q.1 == i) && !(q.1 + 1 == i && q.2.category == 2)) = L') (h : V x k w nL Q σ (pc + 1) L' st) : V x k w nL Q σ pc L (.ref v :: st) := fun H locs ls hP hS hl => lv_astore_n C.1 C.2.1 hd hi hl hn hl' (fun ls' hls => h H locs ls' hP hS hls)
theorem r_astore (C : Cx x k w cc nL own lv ret) {i : Nat} {v : Nat} (hd : decode cc pc = .ok (.astore i, 2)) (hn : i < nL) (hl' : (i, Value.ref v) :: L.filter (fun q => !(q.1 == i) && !(q.1 + 1 == i && q.2.category == 2)) = L') (h : V x k w nL Q σ (pc + 2) L' st) : V x k w nL Q σ pc L (.ref v :: st) := fun H locs ls hP hS hl => lv_astore C.1 C.2.1 hd hl hn hl' (fun ls' hls => h H locs ls' hP hS hls)
theorem r_iinc (C : Cx x k w cc nL own lv ret) {i j : Nat} {n : Int} {a v : Int32} (hd : decode cc pc = .ok (.iinc i n, 3)) (hj : L[j]? = some (i, .int a)) (hv : a + Int32.ofInt n = v) (hn : i < nL) (hl' : (i, Value.int v) :: L.filter (fun q => !(q.1 == i) && !(q.1 + 1 == i && q.2.category == 2)) = L') (h : V x k w nL Q σ (pc + 3) L' st) : V x k w nL Q σ pc L st := fun H locs ls hP hS hl => lv_iinc C.1 C.2.1 hd hl hj hv hn hl' (fun ls' hls => h H locs ls' hP hS hls)
theorem r_iadd (C : Cx x k w cc nL own lv ret) {a b : Int32} (hd : decode cc pc = .ok (.iadd, 1))  (h : V x k w nL Q σ (pc + 1) L (.int (a + b) :: st)) : V x k w nL Q σ pc L (.int b :: .int a :: st) := fun H locs ls hP hS hl => lv_iadd C.1 C.2.1 hd (h H locs ls hP hS hl)
theorem r_isub (C : Cx x k w cc nL own lv ret) {a b : Int32} (hd : decode cc pc = .ok (.isub, 1))  (h : V x k w nL Q σ (pc + 1) L (.int (a - b) :: st)) : V x k w nL Q σ pc L (.int b :: .int a :: st) := fun H locs ls hP hS hl => lv_isub C.1 C.2.1 hd (h H locs ls hP hS hl)
theorem r_imul (C : Cx x k w cc nL own lv ret) {a b : Int32} (hd : decode cc pc = .ok (.imul, 1))  (h : V x k w nL Q σ (pc + 1) L (.int (a * b) :: st)) : V x k w nL Q σ pc L (.int b :: .int a :: st) := fun H locs ls hP hS hl => lv_imul C.1 C.2.1 hd (h H locs ls hP hS hl)
theorem r_iand (C : Cx x k w cc nL own lv ret) {a b : Int32} (hd : decode cc pc = .ok (.iand, 1))  (h : V x k w nL Q σ (pc + 1) L (.int (a &&& b) :: st)) : V x k w nL Q σ pc L (.int b :: .int a :: st) := fun H locs ls hP hS hl => lv_iand C.1 C.2.1 hd (h H locs ls hP hS hl)
theorem r_ior (C : Cx x k w cc nL own lv ret) {a b : Int32} (hd : decode cc pc = .ok (.ior, 1))  (h : V x k w nL Q σ (pc + 1) L (.int (a ||| b) :: st)) : V x k w nL Q σ pc L (.int b :: .int a :: st) := fun H locs ls hP hS hl => lv_ior C.1 C.2.1 hd (h H locs ls hP hS hl)
theorem r_ixor (C : Cx x k w cc nL own lv ret) {a b : Int32} (hd : decode cc pc = .ok (.ixor, 1))  (h : V x k w nL Q σ (pc + 1) L (.int (a ^^^ b) :: st)) : V x k w nL Q σ pc L (.int b :: .int a :: st) := fun H locs ls hP hS hl => lv_ixor C.1 C.2.1 hd (h H locs ls hP hS hl)
theorem r_ishl (C : Cx x k w cc nL own lv ret) {a b : Int32} (hd : decode cc pc = .ok (.ishl, 1))  (h : V x k w nL Q σ (pc + 1) L (.int (a <<< (b &&& 31)) :: st)) : V x k w nL Q σ pc L (.int b :: .int a :: st) := fun H locs ls hP hS hl => lv_ishl C.1 C.2.1 hd (h H locs ls hP hS hl)
theorem r_ishr (C : Cx x k w cc nL own lv ret) {a b : Int32} (hd : decode cc pc = .ok (.ishr, 1))  (h : V x k w nL Q σ (pc + 1) L (.int (a >>> (b &&& 31)) :: st)) : V x k w nL Q σ pc L (.int b :: .int a :: st) := fun H locs ls hP hS hl => lv_ishr C.1 C.2.1 hd (h H locs ls hP hS hl)
theorem r_iushr (C : Cx x k w cc nL own lv ret) {a b v : Int32} (hd : decode cc pc = .ok (.iushr, 1)) (hv : (a.toUInt32 >>> (b.toUInt32 &&& Int32.toUInt32 31)).toInt32 = v) (h : V x k w nL Q σ (pc + 1) L (.int v :: st)) : V x k w nL Q σ pc L (.int b :: .int a :: st) := fun H locs ls hP hS hl => lv_iushr C.1 C.2.1 hd hv (h H locs ls hP hS hl)
theorem r_ineg (C : Cx x k w cc nL own lv ret) {a : Int32} (hd : decode cc pc = .ok (.ineg, 1))  (h : V x k w nL Q σ (pc + 1) L (.int (-a) :: st)) : V x k w nL Q σ pc L (.int a :: st) := fun H locs ls hP hS hl => lv_ineg C.1 C.2.1 hd (h H locs ls hP hS hl)
theorem r_ladd (C : Cx x k w cc nL own lv ret) {a b : Int64} (hd : decode cc pc = .ok (.ladd, 1))  (h : V x k w nL Q σ (pc + 1) L (.long (a + b) :: st)) : V x k w nL Q σ pc L (.long b :: .long a :: st) := fun H locs ls hP hS hl => lv_ladd C.1 C.2.1 hd (h H locs ls hP hS hl)
theorem r_lmul (C : Cx x k w cc nL own lv ret) {a b : Int64} (hd : decode cc pc = .ok (.lmul, 1))  (h : V x k w nL Q σ (pc + 1) L (.long (a * b) :: st)) : V x k w nL Q σ pc L (.long b :: .long a :: st) := fun H locs ls hP hS hl => lv_lmul C.1 C.2.1 hd (h H locs ls hP hS hl)
theorem r_idiv (C : Cx x k w cc nL own lv ret) {a b : Int32} (hd : decode cc pc = .ok (.idiv, 1)) (hne : ¬ b = 0) (h : V x k w nL Q σ (pc + 1) L (.int (a / b) :: st)) : V x k w nL Q σ pc L (.int b :: .int a :: st) := fun H locs ls hP hS hl => lv_idiv C.1 C.2.1 hd hne (h H locs ls hP hS hl)
theorem r_irem (C : Cx x k w cc nL own lv ret) {a b : Int32} (hd : decode cc pc = .ok (.irem, 1)) (hne : ¬ b = 0) (h : V x k w nL Q σ (pc + 1) L (.int (a - a / b * b) :: st)) : V x k w nL Q σ pc L (.int b :: .int a :: st) := fun H locs ls hP hS hl => lv_irem C.1 C.2.1 hd hne (h H locs ls hP hS hl)
theorem r_ldiv (C : Cx x k w cc nL own lv ret) {a b : Int64} (hd : decode cc pc = .ok (.ldiv, 1)) (hne : ¬ b = 0) (h : V x k w nL Q σ (pc + 1) L (.long (a / b) :: st)) : V x k w nL Q σ pc L (.long b :: .long a :: st) := fun H locs ls hP hS hl => lv_ldiv C.1 C.2.1 hd hne (h H locs ls hP hS hl)
theorem r_lrem (C : Cx x k w cc nL own lv ret) {a b : Int64} (hd : decode cc pc = .ok (.lrem, 1)) (hne : ¬ b = 0) (h : V x k w nL Q σ (pc + 1) L (.long (a - a / b * b) :: st)) : V x k w nL Q σ pc L (.long b :: .long a :: st) := fun H locs ls hP hS hl => lv_lrem C.1 C.2.1 hd hne (h H locs ls hP hS hl)
theorem r_i2l (C : Cx x k w cc nL own lv ret) {a : Int32} (hd : decode cc pc = .ok (.i2l, 1))  (h : V x k w nL Q σ (pc + 1) L (.long a.toInt64 :: st)) : V x k w nL Q σ pc L (.int a :: st) := fun H locs ls hP hS hl => lv_i2l C.1 C.2.1 hd rfl (h H locs ls hP hS hl)
theorem r_l2i (C : Cx x k w cc nL own lv ret) {a : Int64} (hd : decode cc pc = .ok (.l2i, 1))  (h : V x k w nL Q σ (pc + 1) L (.int a.toInt32 :: st)) : V x k w nL Q σ pc L (.long a :: st) := fun H locs ls hP hS hl => lv_l2i C.1 C.2.1 hd rfl (h H locs ls hP hS hl)
theorem r_i2b (C : Cx x k w cc nL own lv ret) {a : Int32} (hd : decode cc pc = .ok (.i2b, 1))  (h : V x k w nL Q σ (pc + 1) L (.int a.toInt8.toInt32 :: st)) : V x k w nL Q σ pc L (.int a :: st) := fun H locs ls hP hS hl => lv_i2b C.1 C.2.1 hd rfl (h H locs ls hP hS hl)
theorem r_lcmp (C : Cx x k w cc nL own lv ret) {a b : Int64} (hd : decode cc pc = .ok (.lcmp, 1))  (h : V x k w nL Q σ (pc + 1) L (.int (lg_cmp a b) :: st)) : V x k w nL Q σ pc L (.long b :: .long a :: st) := fun H locs ls hP hS hl => W.lcmp C.1 C.2.1 hd (h H locs ls hP hS hl)
theorem r_dup (C : Cx x k w cc nL own lv ret) {a : Value} (hd : decode cc pc = .ok (.dup, 1)) (hc : a.category = 1) (h : V x k w nL Q σ (pc + 1) L (a :: a :: st)) : V x k w nL Q σ pc L (a :: st) := fun H locs ls hP hS hl => lv_dup C.1 C.2.1 hd hc (h H locs ls hP hS hl)
theorem r_pop (C : Cx x k w cc nL own lv ret) {a : Value} (hd : decode cc pc = .ok (.pop, 1)) (hc : a.category = 1) (h : V x k w nL Q σ (pc + 1) L (st)) : V x k w nL Q σ pc L (a :: st) := fun H locs ls hP hS hl => lv_pop C.1 C.2.1 hd hc (h H locs ls hP hS hl)
theorem r_dup2 (C : Cx x k w cc nL own lv ret) {a b : Value} (hd : decode cc pc = .ok (.dup2, 1)) (hc : a.category = 1) (hc2 : b.category = 1) (h : V x k w nL Q σ (pc + 1) L (a :: b :: a :: b :: st)) : V x k w nL Q σ pc L (a :: b :: st) := fun H locs ls hP hS hl => lv_dup2_11 C.1 C.2.1 hd hc hc2 (h H locs ls hP hS hl)
theorem r_goto (C : Cx x k w cc nL own lv ret) {off : Int} {tgt : Nat} (hd : decode cc pc = .ok (.goto off, 3)) (ht : (pc : Int) + off = (tgt : Int)) (h : V x k w nL Q σ tgt L st) : V x k w nL Q σ pc L st := fun H locs ls hP hS hl => lv_goto C.1 C.2.1 hd ht (h H locs ls hP hS hl)
theorem r_icmp_eq (C : Cx x k w cc nL own lv ret) {a b : Int32} {off : Int} {tgt : Nat} (hd : decode cc pc = .ok (.if_icmp .eq off, 3)) (ht : (pc : Int) + off = (tgt : Int)) (h1 : a = b → V x k w nL Q σ tgt L st) (h2 : ¬ a = b → V x k w nL Q σ (pc + 3) L st) : V x k w nL Q σ pc L (.int b :: .int a :: st) := fun H locs ls hP hS hl => lv_icmp_eq C.1 C.2.1 hd ht (fun q => h1 q H locs ls hP hS hl) (fun q => h2 q H locs ls hP hS hl)
theorem r_icmp_ne (C : Cx x k w cc nL own lv ret) {a b : Int32} {off : Int} {tgt : Nat} (hd : decode cc pc = .ok (.if_icmp .ne off, 3)) (ht : (pc : Int) + off = (tgt : Int)) (h1 : ¬ a = b → V x k w nL Q σ tgt L st) (h2 : a = b → V x k w nL Q σ (pc + 3) L st) : V x k w nL Q σ pc L (.int b :: .int a :: st) := fun H locs ls hP hS hl => lv_icmp_ne C.1 C.2.1 hd ht (fun q => h1 q H locs ls hP hS hl) (fun q => h2 q H locs ls hP hS hl)
theorem r_icmp_lt (C : Cx x k w cc nL own lv ret) {a b : Int32} {off : Int} {tgt : Nat} (hd : decode cc pc = .ok (.if_icmp .lt off, 3)) (ht : (pc : Int) + off = (tgt : Int)) (h1 : a < b → V x k w nL Q σ tgt L st) (h2 : ¬ a < b → V x k w nL Q σ (pc + 3) L st) : V x k w nL Q σ pc L (.int b :: .int a :: st) := fun H locs ls hP hS hl => lv_icmp_lt C.1 C.2.1 hd ht (fun q => h1 q H locs ls hP hS hl) (fun q => h2 q H locs ls hP hS hl)
theorem r_icmp_ge (C : Cx x k w cc nL own lv ret) {a b : Int32} {off : Int} {tgt : Nat} (hd : decode cc pc = .ok (.if_icmp .ge off, 3)) (ht : (pc : Int) + off = (tgt : Int)) (h1 : b ≤ a → V x k w nL Q σ tgt L st) (h2 : ¬ b ≤ a → V x k w nL Q σ (pc + 3) L st) : V x k w nL Q σ pc L (.int b :: .int a :: st) := fun H locs ls hP hS hl => lv_icmp_ge C.1 C.2.1 hd ht (fun q => h1 q H locs ls hP hS hl) (fun q => h2 q H locs ls hP hS hl)
theorem r_icmp_gt (C : Cx x k w cc nL own lv ret) {a b : Int32} {off : Int} {tgt : Nat} (hd : decode cc pc = .ok (.if_icmp .gt off, 3)) (ht : (pc : Int) + off = (tgt : Int)) (h1 : b < a → V x k w nL Q σ tgt L st) (h2 : ¬ b < a → V x k w nL Q σ (pc + 3) L st) : V x k w nL Q σ pc L (.int b :: .int a :: st) := fun H locs ls hP hS hl => lv_icmp_gt C.1 C.2.1 hd ht (fun q => h1 q H locs ls hP hS hl) (fun q => h2 q H locs ls hP hS hl)
theorem r_icmp_le (C : Cx x k w cc nL own lv ret) {a b : Int32} {off : Int} {tgt : Nat} (hd : decode cc pc = .ok (.if_icmp .le off, 3)) (ht : (pc : Int) + off = (tgt : Int)) (h1 : a ≤ b → V x k w nL Q σ tgt L st) (h2 : ¬ a ≤ b → V x k w nL Q σ (pc + 3) L st) : V x k w nL Q σ pc L (.int b :: .int a :: st) := fun H locs ls hP hS hl => lv_icmp_le C.1 C.2.1 hd ht (fun q => h1 q H locs ls hP hS hl) (fun q => h2 q H locs ls hP hS hl)
theorem r_if_eq (C : Cx x k w cc nL own lv ret) {a : Int32} {off : Int} {tgt : Nat} (hd : decode cc pc = .ok (.ifCond .eq off, 3)) (ht : (pc : Int) + off = (tgt : Int)) (h1 : a = 0 → V x k w nL Q σ tgt L st) (h2 : ¬ a = 0 → V x k w nL Q σ (pc + 3) L st) : V x k w nL Q σ pc L (.int a :: st) := fun H locs ls hP hS hl => lv_if_eq C.1 C.2.1 hd ht (fun q => h1 q H locs ls hP hS hl) (fun q => h2 q H locs ls hP hS hl)
theorem r_if_ne (C : Cx x k w cc nL own lv ret) {a : Int32} {off : Int} {tgt : Nat} (hd : decode cc pc = .ok (.ifCond .ne off, 3)) (ht : (pc : Int) + off = (tgt : Int)) (h1 : ¬ a = 0 → V x k w nL Q σ tgt L st) (h2 : a = 0 → V x k w nL Q σ (pc + 3) L st) : V x k w nL Q σ pc L (.int a :: st) := fun H locs ls hP hS hl => lv_if_ne C.1 C.2.1 hd ht (fun q => h1 q H locs ls hP hS hl) (fun q => h2 q H locs ls hP hS hl)
theorem r_if_lt (C : Cx x k w cc nL own lv ret) {a : Int32} {off : Int} {tgt : Nat} (hd : decode cc pc = .ok (.ifCond .lt off, 3)) (ht : (pc : Int) + off = (tgt : Int)) (h1 : a < 0 → V x k w nL Q σ tgt L st) (h2 : ¬ a < 0 → V x k w nL Q σ (pc + 3) L st) : V x k w nL Q σ pc L (.int a :: st) := fun H locs ls hP hS hl => lv_if_lt C.1 C.2.1 hd ht (fun q => h1 q H locs ls hP hS hl) (fun q => h2 q H locs ls hP hS hl)
theorem r_if_ge (C : Cx x k w cc nL own lv ret) {a : Int32} {off : Int} {tgt : Nat} (hd : decode cc pc = .ok (.ifCond .ge off, 3)) (ht : (pc : Int) + off = (tgt : Int)) (h1 : 0 ≤ a → V x k w nL Q σ tgt L st) (h2 : ¬ 0 ≤ a → V x k w nL Q σ (pc + 3) L st) : V x k w nL Q σ pc L (.int a :: st) := fun H locs ls hP hS hl => lv_if_ge C.1 C.2.1 hd ht (fun q => h1 q H locs ls hP hS hl) (fun q => h2 q H locs ls hP hS hl)
theorem r_if_gt (C : Cx x k w cc nL own lv ret) {a : Int32} {off : Int} {tgt : Nat} (hd : decode cc pc = .ok (.ifCond .gt off, 3)) (ht : (pc : Int) + off = (tgt : Int)) (h1 : 0 < a → V x k w nL Q σ tgt L st) (h2 : ¬ 0 < a → V x k w nL Q σ (pc + 3) L st) : V x k w nL Q σ pc L (.int a :: st) := fun H locs ls hP hS hl => lv_if_gt C.1 C.2.1 hd ht (fun q => h1 q H locs ls hP hS hl) (fun q => h2 q H locs ls hP hS hl)
theorem r_if_le (C : Cx x k w cc nL own lv ret) {a : Int32} {off : Int} {tgt : Nat} (hd : decode cc pc = .ok (.ifCond .le off, 3)) (ht : (pc : Int) + off = (tgt : Int)) (h1 : a ≤ 0 → V x k w nL Q σ tgt L st) (h2 : ¬ a ≤ 0 → V x k w nL Q σ (pc + 3) L st) : V x k w nL Q σ pc L (.int a :: st) := fun H locs ls hP hS hl => lv_if_le C.1 C.2.1 hd ht (fun q => h1 q H locs ls hP hS hl) (fun q => h2 q H locs ls hP hS hl)
theorem r_ldcw (C : Cx x k w cc nL own lv ret) {idx : Nat} {v : Int32} (hd : decode cc pc = .ok (.ldc_w idx, 3)) (hc : Cond.constant own idx v ∈ lw_good) (h : V x k w nL Q σ (pc + 3) L (.int v :: st)) : V x k w nL Q σ pc L st := fun H locs ls hP hS hl => lv_ldcw C.1 C.2.1 C.2.2.2.1 (C.2.2.2.2.1 _ hc) hd (h H locs ls hP hS hl)
theorem r_ldc (C : Cx x k w cc nL own lv ret) {idx : Nat} {v : Int32} (hd : decode cc pc = .ok (.ldc idx, 2)) (hc : Cond.constant own idx v ∈ lw_good) (h : V x k w nL Q σ (pc + 2) L (.int v :: st)) : V x k w nL Q σ pc L st := fun H locs ls hP hS hl => lv_ldc C.1 C.2.1 C.2.2.2.1 (C.2.2.2.2.1 _ hc) hd (h H locs ls hP hS hl)
theorem r_ldc2 (C : Cx x k w cc nL own lv ret) {idx : Nat} {v : Int64} (hd : decode cc pc = .ok (.ldc2_w idx, 3)) (hc : Cond.constantLong own idx v ∈ lw_good) (h : V x k w nL Q σ (pc + 3) L (.long v :: st)) : V x k w nL Q σ pc L st := fun H locs ls hP hS hl => lv_ldc2 C.1 C.2.1 C.2.2.2.1 (C.2.2.2.2.1 _ hc) hd (h H locs ls hP hS hl)
theorem r_tabIn (C : Cx x k w cc nL own lv ret) {dflt lo hi : Int} {offs : Array Int} {len : Nat} {a v : Int32} {off : Int} {tgt : Nat} (hd : decode cc pc = .ok (.tableswitch dflt lo hi offs, len)) (hv : a = v) (h1 : ¬ v.toInt < lo) (h2 : ¬ hi < v.toInt) (ho : offs[(v.toInt - lo).toNat]? = some off) (ht : (pc : Int) + off = (tgt : Int)) (h : V x k w nL Q σ tgt L st) : V x k w nL Q σ pc L (.int a :: st) := by
  subst hv
  exact fun H locs ls hP hS hl => lv_tableIn C.1 C.2.1 hd h1 h2 ho ht (h H locs ls hP hS hl)
theorem r_tabOut (C : Cx x k w cc nL own lv ret) {dflt lo hi : Int} {offs : Array Int} {len : Nat} {a : Int32} {tgt : Nat} (hd : decode cc pc = .ok (.tableswitch dflt lo hi offs, len)) (h1 : a.toInt < lo ∨ hi < a.toInt) (ht : (pc : Int) + dflt = (tgt : Int)) (h : V x k w nL Q σ tgt L st) : V x k w nL Q σ pc L (.int a :: st) :=
  fun H locs ls hP hS hl => lv_tableOut C.1 C.2.1 hd h1 ht (h H locs ls hP hS hl)
theorem r_look (C : Cx x k w cc nL own lv ret) {dflt : Int} {ps : Array (Int × Int)} {len : Nat} {a : Int32} {off : Int} {tgt : Nat} (hd : decode cc pc = .ok (.lookupswitch dflt ps, len)) (hp : (ps.toList.zip (ps.toList.drop 1)).all (fun (a, next) => a.1 < next.1) = true) (ho : Op.lookupswitch.offset ps.toList dflt a.toInt = off) (ht : (pc : Int) + off = (tgt : Int)) (h : V x k w nL Q σ tgt L st) : V x k w nL Q σ pc L (.int a :: st) :=
  fun H locs ls hP hS hl => lv_lookup C.1 C.2.1 hd hp ho ht (h H locs ls hP hS hl)
/-- getfield: the cell (kd, n) is an object of class ci with the fields fs -/
theorem r_get (C : Cx x k w cc nL own lv ret) {kd n ci idx N : Nat} {Cn ref : String} {T : u_T} {fs : List Value} {v : Value} (hm : (kd, n) ∈ k.1) (he : k.2 (wd w) (wa w) kd n (σ.1 kd n) σ.2 = .inr (ci, fs)) (hc : vwCl[ci]? = some (Cn, T, N)) (hin : ∀ q ∈ u_ws Cn T N, q ∈ lw_good) (j : Nat) (hj : j < N) (hlk : Cond.fieldLink own idx ref (T j).2.1 (T j).2.2.1 ∈ lw_good) (hrf : (T j).1 = ref) (hv : fs[j]? = some v) (hd : decode cc pc = .ok (.getfield idx, 3)) (h : V x k w nL Q σ (pc + 3) L (v :: st)) : V x k w nL Q σ pc L (.ref (wa w kd n) :: st) := by
  obtain ⟨hx, hb, hml, hown, hts, hlo, hr, hR, hK, hD, hko⟩ := C
  obtain ⟨q0, hq0⟩ := List.getElem?_of_mem hm
  intro H locs ls hP hS hl
  have hg := wl_get (w := w) (σ := σ) hq0
  rw [he] at hg
  exact va_get (D := wD w) (T := T) (N := N) hx hb hts hin hown hK.1 hP q0 hg hc j hj (hts _ hlk) (fun z hz => by rw [← hrf]; exact hz) hv hd (h H locs ls hP hS hl)
/-- putfield of an int -/
theorem r_put (C : Cx x k w cc nL own lv ret) {kd n ci idx N : Nat} {Cn ref : String} {T : u_T} {fs : List Value} {v : Int32} {ty : FieldType} (hm : (kd, n) ∈ k.1) (he : k.2 (wd w) (wa w) kd n (σ.1 kd n) σ.2 = .inr (ci, fs)) (hc : vwCl[ci]? = some (Cn, T, N)) (hin : ∀ q ∈ u_ws Cn T N, q ∈ lw_good) (ty0 : Nat → FieldType) (hty : ∀ k, k < N → parseFieldDescriptor (T k).2.2.1 = some (ty0 k)) (hnm : ∀ a, a < N → ∀ b, b < N → a ≠ b → (T a).2.1 ≠ (T b).2.1) (j : Nat) (hj : j < N) (hlk : Cond.fieldLink own idx ref (T j).2.1 (T j).2.2.1 ∈ lw_good) (hrf : (T j).1 = ref) (hfin : (T j).2.2.2 = false) (hde : parseFieldDescriptor (T j).2.2.1 = some ty) (hn : narrow ty (.int v) = .int v) (hfit : fits ty (.int v) = true) (hlf : j < fs.length)
    (hu : k.2 (wd w) (wa w) kd n (upd (σ.1 kd n) j v) σ.2 = .inr (ci, fs.set j (.int v))) (hd : decode cc pc = .ok (.putfield idx, 3)) (h : V x k w nL Q (sX σ kd n j v) (pc + 3) L st) : V x k w nL Q σ pc L (.int v :: .ref (wa w kd n) :: st) := by
  obtain ⟨hx, hb, hml, hown, hts, hlo, hr, hR, hK, hD, hko⟩ := C
  obtain ⟨q0, hq0⟩ := List.getElem?_of_mem hm
  intro H locs ls hP hS hl
  have hg := wl_get (w := w) (σ := σ) hq0
  rw [he] at hg
  refine va_put (D := wD w) (T := T) (N := N) hx hb hts hin ty0 hty hnm hown hK.1 hP (hD σ) hS q0 hg hc j hj (hts _ hlk) (fun z hz => by rw [← hrf]; exact hz) hfin hde hn hfit hlf hd (fun H1 locs1 hP1 _ hS1 => h H1 locs1 ls ?_ hS1 hl)
  rw [← hu, wl_set hko hq0] at hP1
  exact hP1
/-- putfield of a long: the cell (0, 0) -/
theorem r_putL (C : Cx x k w cc nL own lv ret) {ci idx N : Nat} {Cn ref : String} {T : u_T} {fs : List Value} {v : Int64} (hm : (0, 0) ∈ k.1) (he : k.2 (wd w) (wa w) 0 0 (σ.1 0 0) σ.2 = .inr (ci, fs)) (hc : vwCl[ci]? = some (Cn, T, N)) (hin : ∀ q ∈ u_ws Cn T N, q ∈ lw_good) (ty0 : Nat → FieldType) (hty : ∀ k, k < N → parseFieldDescriptor (T k).2.2.1 = some (ty0 k)) (hnm : ∀ a, a < N → ∀ b, b < N → a ≠ b → (T a).2.1 ≠ (T b).2.1) (j : Nat) (hj : j < N) (hlk : Cond.fieldLink own idx ref (T j).2.1 (T j).2.2.1 ∈ lw_good) (hrf : (T j).1 = ref) (hfin : (T j).2.2.2 = false) (hde : parseFieldDescriptor (T j).2.2.1 = some .long) (hlf : j < fs.length)
    (hu : k.2 (wd w) (wa w) 0 0 (σ.1 0 0) (vp_updL σ.2 j v) = .inr (ci, fs.set j (.long v))) (hy : ∀ q ∈ k.1, q ≠ (0, 0) → ∀ x y y', k.2 (wd w) (wa w) q.1 q.2 x y = k.2 (wd w) (wa w) q.1 q.2 x y') (hd : decode cc pc = .ok (.putfield idx, 3)) (h : V x k w nL Q (sY σ j v) (pc + 3) L st) : V x k w nL Q σ pc L (.long v :: .ref (wa w 0 0) :: st) := by
  obtain ⟨hx, hb, hml, hown, hts, hlo, hr, hR, hK, hD, hko⟩ := C
  obtain ⟨q0, hq0⟩ := List.getElem?_of_mem hm
  intro H locs ls hP hS hl
  have hg := wl_get (w := w) (σ := σ) hq0
  rw [he] at hg
  refine va_put (D := wD w) (T := T) (N := N) hx hb hts hin ty0 hty hnm hown hK.1 hP (hD σ) hS q0 hg hc j hj (hts _ hlk) (fun z hz => by rw [← hrf]; exact hz) hfin hde rfl rfl hlf hd (fun H1 locs1 hP1 _ hS1 => h H1 locs1 ls ?_ hS1 hl)
  rw [← hu, wl_setY hko hq0 v hy] at hP1
  exact hP1
/-- an index looked at -/
def inb (i : Int32) (n : Nat) : Bool := decide (¬ i < 0) && decide (i.toNatClampNeg < n)
theorem inb_vp {i : Int32} {n : Nat} (h : inb i n = true) : vp_in i n := by
  simp only [inb, Bool.and_eq_true, decide_eq_true_eq] at h
  rintro (q | q)
  · exact h.1 q
  · omega
theorem inb_lt {i : Int32} {n : Nat} (h : inb i n = true) : i.toNatClampNeg < n := by
  simp only [inb, Bool.and_eq_true, decide_eq_true_eq] at h
  exact h.2
theorem r_iald (C : Cx x k w cc nL own lv ret) {kd n N : Nat} {i : Int32} (hm : (kd, n) ∈ k.1) (he : k.2 (wd w) (wa w) kd n (σ.1 kd n) σ.2 = .inl (wd w 0, N, .inl (σ.1 kd n))) (hi : inb i N = true) (hd : decode cc pc = .ok (.iaload, 1)) (h : V x k w nL Q σ (pc + 1) L (.int (σ.1 kd n i.toNatClampNeg) :: st)) : V x k w nL Q σ pc L (.int i :: .ref (wa w kd n) :: st) := by
  obtain ⟨hx, hb, hml, hown, hts, hlo, hr, hR, hK, hD, hko⟩ := C
  obtain ⟨q0, hq0⟩ := List.getElem?_of_mem hm
  intro H locs ls hP hS hl
  have hg := wl_get (w := w) (σ := σ) hq0
  rw [he] at hg
  exact va_iald hx hb hK.1 hP q0 0 hg rfl (inb_vp hi) hd (h H locs ls hP hS hl)
theorem r_bald (C : Cx x k w cc nL own lv ret) {kd n N : Nat} {i : Int32} (hm : (kd, n) ∈ k.1) (he : k.2 (wd w) (wa w) kd n (σ.1 kd n) σ.2 = .inl (wd w 1, N, .inl (σ.1 kd n))) (hi : inb i N = true) (hd : decode cc pc = .ok (.baload, 1)) (h : V x k w nL Q σ (pc + 1) L (.int (σ.1 kd n i.toNatClampNeg) :: st)) : V x k w nL Q σ pc L (.int i :: .ref (wa w kd n) :: st) := by
  obtain ⟨hx, hb, hml, hown, hts, hlo, hr, hR, hK, hD, hko⟩ := C
  obtain ⟨q0, hq0⟩ := List.getElem?_of_mem hm
  intro H locs ls hP hS hl
  have hg := wl_get (w := w) (σ := σ) hq0
  rw [he] at hg
  exact va_bald hx hb hK.1 hP q0 1 hg rfl (inb_vp hi) hd (h H locs ls hP hS hl)
theorem r_zald (C : Cx x k w cc nL own lv ret) {kd n N : Nat} {i : Int32} (hm : (kd, n) ∈ k.1) (he : k.2 (wd w) (wa w) kd n (σ.1 kd n) σ.2 = .inl (wd w 2, N, .inl (σ.1 kd n))) (hi : inb i N = true) (hd : decode cc pc = .ok (.baload, 1)) (h : V x k w nL Q σ (pc + 1) L (.int (σ.1 kd n i.toNatClampNeg) :: st)) : V x k w nL Q σ pc L (.int i :: .ref (wa w kd n) :: st) := by
  obtain ⟨hx, hb, hml, hown, hts, hlo, hr, hR, hK, hD, hko⟩ := C
  obtain ⟨q0, hq0⟩ := List.getElem?_of_mem hm
  intro H locs ls hP hS hl
  have hg := wl_get (w := w) (σ := σ) hq0
  rw [he] at hg
  exact va_zald hx hb hK.1 hP q0 2 hg rfl (inb_vp hi) hd (h H locs ls hP hS hl)
/-- an array of references: its place j holds the cell (kr, j) -/
theorem r_aald (C : Cx x k w cc nL own lv ret) {kd kr t0 N : Nat} {Cn : String} {i : Int32} (hm : (kd, 0) ∈ k.1) (he : k.2 (wd w) (wa w) kd 0 (σ.1 kd 0) σ.2 = .inl (wd w t0, N, .inr (.inr (.inr (.inr (fun j => some (wa w kr j))))))) (ht : (tysA (wd w))[t0]? = some (wd w t0, .object Cn)) (hi : inb i N = true) (hd : decode cc pc = .ok (.aaload, 1)) (h : V x k w nL Q σ (pc + 1) L (.ref (wa w kr i.toNatClampNeg) :: st)) : V x k w nL Q σ pc L (.int i :: .ref (wa w kd 0) :: st) := by
  obtain ⟨hx, hb, hml, hown, hts, hlo, hr, hR, hK, hD, hko⟩ := C
  obtain ⟨q0, hq0⟩ := List.getElem?_of_mem hm
  intro H locs ls hP hS hl
  have hg := wl_get (w := w) (σ := σ) hq0
  rw [he] at hg
  exact va_aldq hx hb hK.1 hP q0 t0 hg ht (inb_vp hi) hd (h H locs ls hP hS hl)
theorem r_alen (C : Cx x k w cc nL own lv ret) {kd n t0 N : Nat} {ty : FieldType} {f : (Nat → Int32) ⊕ (Nat → Int64) ⊕ (Nat → UInt32) ⊕ (Nat → UInt64) ⊕ (Nat → Option Nat)} {v : Int32} (hm : (kd, n) ∈ k.1) (he : k.2 (wd w) (wa w) kd n (σ.1 kd n) σ.2 = .inl (wd w t0, N, f)) (ht : (tysA (wd w))[t0]? = some (wd w t0, ty)) (hv : Int32.ofNat N = v) (hd : decode cc pc = .ok (.arraylength, 1)) (h : V x k w nL Q σ (pc + 1) L (.int v :: st)) : V x k w nL Q σ pc L (.ref (wa w kd n) :: st) := by
  obtain ⟨hx, hb, hml, hown, hts, hlo, hr, hR, hK, hD, hko⟩ := C
  obtain ⟨q0, hq0⟩ := List.getElem?_of_mem hm
  intro H locs ls hP hS hl
  have hg := wl_get (w := w) (σ := σ) hq0
  rw [he] at hg
  exact va_alen hx hb hK.1 hP q0 t0 hg ht hv hd (h H locs ls hP hS hl)
theorem r_iast (C : Cx x k w cc nL own lv ret) {kd n N : Nat} {i v : Int32} (hm : (kd, n) ∈ k.1) (he : ∀ f, k.2 (wd w) (wa w) kd n f σ.2 = .inl (wd w 0, N, .inl f)) (hi : inb i N = true) (hd : decode cc pc = .ok (.iastore, 1)) (h : V x k w nL Q (sX σ kd n i.toNatClampNeg v) (pc + 1) L st) : V x k w nL Q σ pc L (.int v :: .int i :: .ref (wa w kd n) :: st) := by
  obtain ⟨hx, hb, hml, hown, hts, hlo, hr, hR, hK, hD, hko⟩ := C
  obtain ⟨q0, hq0⟩ := List.getElem?_of_mem hm
  intro H locs ls hP hS hl
  have hg := wl_get (w := w) (σ := σ) hq0
  rw [he] at hg
  refine va_iast hx hb hK.1 hP (hD σ) hS q0 0 hg rfl (inb_vp hi) hd (fun H1 locs1 hP1 _ hS1 => h H1 locs1 ls ?_ hS1 hl)
  rw [← he, wl_set hko hq0] at hP1
  exact hP1
theorem r_bast (C : Cx x k w cc nL own lv ret) {kd n N : Nat} {i v : Int32} (hm : (kd, n) ∈ k.1) (he : ∀ f, k.2 (wd w) (wa w) kd n f σ.2 = .inl (wd w 1, N, .inl f)) (hi : inb i N = true) (hd : decode cc pc = .ok (.bastore, 1)) (h : V x k w nL Q (sX σ kd n i.toNatClampNeg (vp_nar .byte v)) (pc + 1) L st) : V x k w nL Q σ pc L (.int v :: .int i :: .ref (wa w kd n) :: st) := by
  obtain ⟨hx, hb, hml, hown, hts, hlo, hr, hR, hK, hD, hko⟩ := C
  obtain ⟨q0, hq0⟩ := List.getElem?_of_mem hm
  intro H locs ls hP hS hl
  have hg := wl_get (w := w) (σ := σ) hq0
  rw [he] at hg
  refine va_bast hx hb hK.1 hP (hD σ) hS q0 1 hg rfl (inb_vp hi) hd (fun H1 locs1 hP1 _ hS1 => h H1 locs1 ls ?_ hS1 hl)
  rw [← he, wl_set hko hq0] at hP1
  exact hP1
theorem r_zast (C : Cx x k w cc nL own lv ret) {kd n N : Nat} {i v : Int32} (hm : (kd, n) ∈ k.1) (he : ∀ f, k.2 (wd w) (wa w) kd n f σ.2 = .inl (wd w 2, N, .inl f)) (hi : inb i N = true) (hd : decode cc pc = .ok (.bastore, 1)) (h : V x k w nL Q (sX σ kd n i.toNatClampNeg (vp_nar .boolean v)) (pc + 1) L st) : V x k w nL Q σ pc L (.int v :: .int i :: .ref (wa w kd n) :: st) := by
  obtain ⟨hx, hb, hml, hown, hts, hlo, hr, hR, hK, hD, hko⟩ := C
  obtain ⟨q0, hq0⟩ := List.getElem?_of_mem hm
  intro H locs ls hP hS hl
  have hg := wl_get (w := w) (σ := σ) hq0
  rw [he] at hg
  refine va_zast hx hb hK.1 hP (hD σ) hS q0 2 hg rfl (inb_vp hi) hd (fun H1 locs1 hP1 _ hS1 => h H1 locs1 ls ?_ hS1 hl)
  rw [← he, wl_set hko hq0] at hP1
  exact hP1
/-- System.arraycopy between two int rows of the world -/
theorem r_acopy (C : Cx x k w cc nL own (lv + 1) ret) {k0 n0 N0 k1 n1 N1 idx : Nat} {sp dp n : Int32} (hm0 : (k0, n0) ∈ k.1) (hm1 : (k1, n1) ∈ k.1) (he0 : k.2 (wd w) (wa w) k0 n0 (σ.1 k0 n0) σ.2 = .inl (wd w 0, N0, .inl (σ.1 k0 n0))) (he1 : ∀ f, k.2 (wd w) (wa w) k1 n1 f σ.2 = .inl (wd w 0, N1, .inl f)) (hl1 : Cond.methodLink own idx arraycopyName ∈ lw_good) (hl2 : Cond.native arraycopyName ∈ lw_good) (hl3 : Cond.static arraycopyName ∈ lw_good) (hl4 : Cond.initialized "java/lang/System" ∈ lw_good)
    (h1 : ¬ sp < 0) (h2 : ¬ dp < 0) (h3 : ¬ n < 0) (h4 : sp.toNatClampNeg + n.toNatClampNeg ≤ N0) (h5 : dp.toNatClampNeg + n.toNatClampNeg ≤ N1) (hd : decode cc pc = .ok (.invokestatic idx, 3)) (h : V x k w nL Q (sR σ k1 n1 (va_cpy (σ.1 k0 n0) (σ.1 k1 n1) sp.toNatClampNeg dp.toNatClampNeg n.toNatClampNeg)) (pc + 3) L []) : V x k w nL Q σ pc L [.int n, .int dp, .ref (wa w k1 n1), .int sp, .ref (wa w k0 n0)] := by
  obtain ⟨hx, hb, hml, hown, hts, hlo, hr, hR, hK, hD, hko⟩ := C
  obtain ⟨q0, hq0⟩ := List.getElem?_of_mem hm0
  obtain ⟨q1, hq1⟩ := List.getElem?_of_mem hm1
  intro H locs ls hP hS hl
  have hg := wl_get (w := w) (σ := σ) hq0
  rw [he0] at hg
  have hg1 := wl_get (w := w) (σ := σ) hq1
  rw [he1] at hg1
  refine va_copyi hx hb (by rw [hml, hl.1]) hown (hts _ hl1) (hts _ hl2) (hts _ hl3) (hts _ hl4) hK.1 hP (hD σ) hS q0 q1 0 0 hg hg1 rfl rfl rfl h1 h2 h3 h4 h5 (fun _ _ => rfl) (by rw [hR.1]; omega) (by rw [hR.2.1, show nativeFrameWords "java/lang/System" "arraycopy" 5 = 7 from by decide +kernel]; simp only [List.map_nil, List.sum_nil]; omega) hd (fun H1 locs1 hP1 _ hS1 => h H1 locs1 ls ?_ hS1 hl)
  rw [← he1, wl_set hko hq1] at hP1
  exact hP1
/-- behind a call -/
theorem r_back (C : Cx x k w cc nL own lv ret) {st0 rest : List Value} {a : Array Value} {rv : Option Value} (hr : ∀ (H : Heap) (locs : List Loc) (ls : Array Slot), va_P (wD w) vwCl (wl k w σ) H → va_S (wA w) (xS x).heap H locs → lv_has ls nL L → va_Run (xP x) (xL x) (xE x) (xR x) (xS x) (xM x) (xA x) (xB x) (xT x) (xC x) H locs (xk x) (xn x) 0 0 (F0 (xM x) pc ls st0) rest (Qg k w rv σ' a) (wA w))
    (h : V x k w nL Q σ' (pc + 3) L (rv.toList ++ rest)) : V x k w nL Q σ pc L st0 := by
  intro H locs ls hP hS hl T hT X
  obtain ⟨v, st₀, t, T', Lo, h0, X', hL, e1, e2, ⟨hv, hp, hz, hk⟩, sq⟩ := hr H locs ls hP hS hl T hT X
  cases hv
  rw [h0] at hz hk
  obtain ⟨t2, a1, b1⟩ := h T'.heap (locs ++ Lo) ls (by rw [e1]; exact hp) ⟨Nat.le_trans hS.1 (by rw [e1]; exact hz), fun q h1 h2 => by rw [e1, hk q (Nat.lt_of_lt_of_le h1 hS.1) h2]; exact hS.2.1 q h1 h2, fun q hq => by
      rcases List.mem_append.mp hq with h | h
      · exact hS.2.2 q h
      · exact hL q h⟩ hl T' rfl X'
  exact ⟨t2, sq t2 a1, b1⟩
theorem Wd.blind {av : List Value} : FrameBlind (va_Pc av (Wd k w σ)) := fun a U g mk q => ⟨q.1, q.2.1, q.2.2.1.calling, q.2.2.2⟩
theorem Wd.at (hK : Kn w (xS x)) (hD : ∀ σ, va_D (wA w) (wl k w σ)) {H : Heap} {locs : List Loc} (hP : va_P (wD w) vwCl (wl k w σ) H) (hS : va_S (wA w) (xS x).heap H locs) {av : List Value} : ∀ U : State, U.heap = H → (xS x).WarmedH U.vm → va_Pc av (Wd k w σ) av.toArray U := fun U hU hW => ⟨rfl, by rw [hU]; exact hP, hK.to hS hU hW, hD σ⟩
/-- invokevirtual -/
theorem r_callV (C : Cx x k w cc nL own lv ret) {y : MethodName} {bytes : ByteArray} {maxL n idx l2 kd m2 ci : Nat} {rt : Option FieldType} {Cn : String} {As rest : List Value} {rv : Option Value} {q : vw_C} {fs : List Value} (hM : Cm (xL x) y (.code y bytes maxL rt) l2 k w (.ref (wa w kd m2) :: As) σ rv σ') (hm : (kd, m2) ∈ k.1) (he : k.2 (wd w) (wa w) kd m2 (σ.1 kd m2) σ.2 = .inr (ci, fs)) (hc : vwCl[ci]? = some q) (hCn : q.1 = Cn) (h1 : Cond.methodLink own idx y ∈ lw_good) (h2 : Cond.instanceMethod y ∈ lw_good) (h3 : Cond.selects Cn y y ∈ lw_good) (h4 : Cond.initialized Cn ∈ lw_good) (h5 : Cond.code y bytes maxL rt ∈ lw_good)
    (hy : y.cls = Cn ∧ y.cls ≠ "java/lang/invoke/MethodHandle" ∧ y.cls ≠ "java/lang/invoke/VarHandle" ∧ (parseMethodDescriptor y.desc).map (fun d => d.parameters.length) = some n) (hn : As.length = n) (hlv : l2 + 1 ≤ lv) (hml2 : maxL ≤ 21) {st0 : List Value} (hst : st0 = As.reverse ++ .ref (wa w kd m2) :: rest) (hW : (rest.map fun v => v.category).sum ≤ 8) (hd : decode cc pc = .ok (.invokevirtual idx, 3)) (h : V x k w nL Q σ' (pc + 3) L (rv.toList ++ rest)) : V x k w nL Q σ pc L st0 := by
  have C' := C
  obtain ⟨hx, hb, hml, hown, hts, hlo, hr, hR, hK, hD, hko⟩ := C
  obtain ⟨q0, hq0⟩ := List.getElem?_of_mem hm
  subst hCn
  refine r_back C' (a := (Value.ref (wa w kd m2) :: As).toArray) (rest := rest) (rv := rv) (σ' := σ') (fun H locs ls hP hS hl => ?_) h
  have hg := wl_get (w := w) (σ := σ) hq0
  rw [he] at hg
  exact va_runV (As := As) (rest := rest) ⟨hx, hb, hml, hown, hts⟩ hM (cwV n hts (lw_gV h1 h2 h3 h4 h5) rfl rfl rfl hy ⟨by rw [hR.1]; exact hlv, by rw [hR.2.1]; show 8 + (maxL + 11) + 40 * l2 ≤ 40 * lv; omega⟩) ⟨Wd.blind, va_recv hK.1 hP hc hg, Wd.at hK hD hP hS⟩ rfl hn hl.1 hst (lv_room hW) hd ⟨hR.2.2.1, hR.2.2.2⟩
/-- invokestatic -/
theorem r_callS (C : Cx x k w cc nL own lv ret) {y : MethodName} {bytes : ByteArray} {maxL n idx l2 : Nat} {rt : Option FieldType} {As rest : List Value} {rv : Option Value} (hM : Cm (xL x) y (.code y bytes maxL rt) l2 k w As σ rv σ') (h1 : Cond.methodLink own idx y ∈ lw_good) (h2 : Cond.static y ∈ lw_good) (h4 : Cond.initialized y.cls ∈ lw_good) (h5 : Cond.code y bytes maxL rt ∈ lw_good)
    (hy : y.cls ≠ "java/lang/invoke/MethodHandle" ∧ y.cls ≠ "java/lang/invoke/VarHandle" ∧ (parseMethodDescriptor y.desc).map (fun d => d.parameters.length) = some n) (hn : As.length = n) (hlv : l2 + 1 ≤ lv) (hml2 : maxL ≤ 21) {st0 : List Value} (hst : st0 = As.reverse ++ rest) (hW : (rest.map fun v => v.category).sum ≤ 8) (hd : decode cc pc = .ok (.invokestatic idx, 3)) (h : V x k w nL Q σ' (pc + 3) L (rv.toList ++ rest)) : V x k w nL Q σ pc L st0 := by
  have C' := C
  obtain ⟨hx, hb, hml, hown, hts, hlo, hr, hR, hK, hD, hko⟩ := C
  refine r_back C' (a := As.toArray) (rest := rest) (rv := rv) (σ' := σ') (fun H locs ls hP hS hl => ?_) h
  exact va_runS (As := As) (rest := rest) ⟨hx, hb, hml, hown, hts⟩ hM ⟨callB_of n hts (lw_gN h5) rfl rfl rfl (hts _ h4) (hts _ h1) hy ⟨by rw [hR.1]; exact hlv, by rw [hR.2.1]; show 8 + (maxL + 11) + 40 * l2 ≤ 40 * lv; omega⟩, hts _ h2⟩ ⟨Wd.blind, Wd.at hK hD hP hS⟩ rfl hn hl.1 hst (lv_room hW) hd ⟨hR.2.2.1, hR.2.2.2⟩
/-- invokestatic of a private method of the nest -/
theorem r_callSN (C : Cx x k w cc nL own lv ret) {y : MethodName} {host : String} {bytes : ByteArray} {maxL n idx l2 : Nat} {rt : Option FieldType} {As rest : List Value} {rv : Option Value} (hM : Cm (xL x) y (.code y bytes maxL rt) l2 k w As σ rv σ') (h1 : va_Nw (.methodLinkNest own idx y host) (xS x)) (h2 : Cond.static y ∈ lw_good) (h4 : Cond.initialized y.cls ∈ lw_good) (h5 : Cond.code y bytes maxL rt ∈ lw_good)
    (hy : y.cls ≠ "java/lang/invoke/MethodHandle" ∧ y.cls ≠ "java/lang/invoke/VarHandle" ∧ (parseMethodDescriptor y.desc).map (fun d => d.parameters.length) = some n) (hn : As.length = n) (hlv : l2 + 1 ≤ lv) (hml2 : maxL ≤ 21) {st0 : List Value} (hst : st0 = As.reverse ++ rest) (hW : (rest.map fun v => v.category).sum ≤ 8) (hd : decode cc pc = .ok (.invokestatic idx, 3)) (h : V x k w nL Q σ' (pc + 3) L (rv.toList ++ rest)) : V x k w nL Q σ pc L st0 := by
  have C' := C
  obtain ⟨hx, hb, hml, hown, hts, hlo, hr, hR, hK, hD, hko⟩ := C
  refine r_back C' (a := As.toArray) (rest := rest) (rv := rv) (σ' := σ') (fun H locs ls hP hS hl => ?_) h
  exact va_runSN (As := As) (rest := rest) ⟨hx, hb, hml, hown, hts⟩ hM ⟨va_cnB n hts (lw_gN h5) rfl rfl rfl h1 (hts _ h4) hy ⟨by rw [hR.1]; exact hlv, by rw [hR.2.1]; show 8 + (maxL + 11) + 40 * l2 ≤ 40 * lv; omega⟩, hts _ h2, trivial⟩ ⟨Wd.blind, Wd.at hK hD hP hS⟩ rfl hn hl.1 hst (lv_room hW) hd ⟨hR.2.2.1, hR.2.2.2⟩
theorem r_iret (C : Cx x k w cc nL own lv (some .int)) {v : Int32} (hd : decode cc pc = .ok (.ireturn, 1)) : V x k w nL (QM x k w (some (.int v)) σ) σ pc L [.int v] :=
  fun H locs ls hP hS hl => W.iret C.1 C.2.1 C.2.2.2.2.2.2.1 (fun t ht hW => ⟨rfl, by rw [ht]; exact hP, hS.F ht⟩) hS.2.2 hd C.2.2.2.2.2.1
theorem r_zret (C : Cx x k w cc nL own lv (some .boolean)) {v : Int32} (hn : narrow .boolean (.int v) = .int v) (hd : decode cc pc = .ok (.ireturn, 1)) : V x k w nL (QM x k w (some (.int v)) σ) σ pc L [.int v] :=
  fun H locs ls hP hS hl => W.zret C.1 C.2.1 C.2.2.2.2.2.2.1 hn (fun t ht hW => ⟨rfl, by rw [ht]; exact hP, hS.F ht⟩) hS.2.2 hd C.2.2.2.2.2.1
theorem r_lret (C : Cx x k w cc nL own lv (some .long)) {v : Int64} (hd : decode cc pc = .ok (.lreturn, 1)) : V x k w nL (QM x k w (some (.long v)) σ) σ pc L [.long v] :=
  fun H locs ls hP hS hl => W.lret C.1 C.2.1 C.2.2.2.2.2.2.1 (fun t ht hW => ⟨rfl, by rw [ht]; exact hP, hS.F ht⟩) hS.2.2 hd C.2.2.2.2.2.1
theorem r_vret (C : Cx x k w cc nL own lv none) (hd : decode cc pc = .ok (.return_, 1)) : V x k w nL (QM x k w none σ) σ pc L [] :=
  fun H locs ls hP hS hl => W.vret C.1 C.2.1 C.2.2.2.2.2.2.1 (fun t ht hW => ⟨rfl, by rw [ht]; exact hP, hS.F ht⟩) hS.2.2 hd C.2.2.2.2.2.1
theorem r_aret {rt : FieldType} (C : Cx x k w cc nL own lv (some rt)) {a : Nat} (hrt : (∃ n, rt = .object n) ∨ ∃ t, rt = .array t) (hd : decode cc pc = .ok (.areturn, 1)) : V x k w nL (QM x k w (some (.ref a)) σ) σ pc L [.ref a] :=
  fun H locs ls hP hS hl => W.aret C.1 C.2.1 C.2.2.2.2.2.2.1 hrt (Or.inr ⟨a, rfl⟩) (fun t ht hW => ⟨rfl, by rw [ht]; exact hP, hS.F ht⟩) hS.2.2 hd C.2.2.2.2.2.1
/-- a number with 0 or 1 -/
theorem nb_ite {c : Prop} [Decidable c] {a b : Int32} (ha : narrow .boolean (.int a) = .int a) (hb : narrow .boolean (.int b) = .int b) : narrow .boolean (.int (if c then a else b)) = .int (if c then a else b) := by
  split
  · exact ha
  · exact hb
end
theorem nb_01 {v : Int32} (h : v = 0 ∨ v = 1) : narrow .boolean (.int v) = .int v := by
  rcases h with rfl | rfl <;> rfl
theorem ip {α : Type} {c : Prop} [Decidable c] {A B x : α} (h : (if c then A else B) = x) (hc : c) : A = x := (if_pos hc).symm.trans h
theorem iq {α : Type} {c : Prop} [Decidable c] {A B x : α} (h : (if c then A else B) = x) (hc : ¬ c) : B = x := (if_neg hc).symm.trans h
theorem gdE {α : Type} {c : Prop} [Decidable c] {A : Option α} {x : α} (h : (if c then A else none) = some x) : c ∧ A = some x := by
  by_cases hc : c
  · exact ⟨hc, (if_pos hc).symm.trans h⟩
  · rw [if_neg hc] at h; cases h
theorem bdE {α β : Type} {o : Option α} {g : α → Option β} {x : β} (h : Option.bind o g = some x) : ∃ q, o = some q ∧ g q = some x := by
  cases o with
  | none => cases h
  | some q => exact ⟨q, rfl, h⟩

