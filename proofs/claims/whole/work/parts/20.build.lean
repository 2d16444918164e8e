/-! ===== building: constructors, with exact addresses ===== -/
abbrev Gc : Type := Nat → Nat → va_E
def wlG (ks : List (Nat × Nat)) (w : Wp) (g : Gc) : va_W := ks.map (fun q => (wa w q.1 q.2, g q.1 q.2))
def gU (g : Gc) (kd n : Nat) (e : va_E) : Gc := fun a b => if a = kd ∧ b = n then e else g a b
theorem gU_self (g : Gc) (kd n : Nat) (e : va_E) : gU g kd n e kd n = e := by simp [gU]
theorem gU_ne (g : Gc) (kd n : Nat) (e : va_E) {a b : Nat} (h : ¬ (a = kd ∧ b = n)) : gU g kd n e a b = g a b := by simp [gU, h]
theorem wlG_congr {ks : List (Nat × Nat)} {w : Wp} {g g' : Gc} (h : ∀ q ∈ ks, g q.1 q.2 = g' q.1 q.2) : wlG ks w g = wlG ks w g' := by
  unfold wlG
  apply List.map_congr_left
  intro q hq
  rw [h q hq]
theorem wlG_get {ks : List (Nat × Nat)} {w : Wp} {g : Gc} {q0 kd n : Nat} (h : ks[q0]? = some (kd, n)) : (wlG ks w g)[q0]? = some (wa w kd n, g kd n) := by
  unfold wlG
  rw [List.getElem?_map, h]
  rfl
theorem wlG_push {ks : List (Nat × Nat)} {w : Wp} {g : Gc} {kd n : Nat} {e : va_E} (h : (kd, n) ∉ ks) : wlG (ks ++ [(kd, n)]) w (gU g kd n e) = wlG ks w g ++ [(wa w kd n, e)] := by
  unfold wlG
  rw [List.map_append]
  congr 1
  · apply List.map_congr_left
    intro q hq
    have hne : ¬ (q.1 = kd ∧ q.2 = n) := fun z => h (by rw [← z.1, ← z.2]; exact hq)
    rw [gU_ne _ _ _ _ hne]
  · simp [gU]
theorem wlG_set {A : Nat → Prop} {ks : List (Nat × Nat)} {w : Wp} {g : Gc} {q0 kd n : Nat} {e : va_E} (hD : va_D A (wlG ks w g)) (h : ks[q0]? = some (kd, n)) : (wlG ks w g).set q0 (wa w kd n, e) = wlG ks w (gU g kd n e) := by
  apply List.ext_getElem?
  intro i
  by_cases hi : i = q0
  · subst hi
    have hl : i < (wlG ks w g).length := (List.getElem?_eq_some_iff.mp (wlG_get (w := w) (g := g) h)).1
    rw [List.getElem?_set_self hl, wlG_get h, gU_self]
  · rw [List.getElem?_set_ne (Ne.symm hi)]
    cases hq : ks[i]? with
    | none => unfold wlG; rw [List.getElem?_map, List.getElem?_map, hq]; rfl
    | some q =>
      have hne : ¬ (q.1 = kd ∧ q.2 = n) := fun z => hi (hD.1 i q0 _ _ (wlG_get (w := w) (g := g) hq) (wlG_get (w := w) (g := g) h) (by rw [z.1, z.2]))
      rw [wlG_get (kd := q.1) (n := q.2) hq, wlG_get (kd := q.1) (n := q.2) hq, gU_ne _ _ _ _ hne]
theorem wlG_D {A : Nat → Prop} {ks : List (Nat × Nat)} {w : Wp} {g g' : Gc} (h : va_D A (wlG ks w g)) : va_D A (wlG ks w g') := by
  have key : ∀ (i : Nat) (z : Nat × va_E), (wlG ks w g')[i]? = some z → ∃ z', (wlG ks w g)[i]? = some z' ∧ z'.1 = z.1 := by
    intro i z hz
    unfold wlG at hz ⊢
    rw [List.getElem?_map] at hz ⊢
    cases hq : ks[i]? with
    | none => rw [hq] at hz; cases hz
    | some q => rw [hq] at hz; cases hz; exact ⟨_, rfl, rfl⟩
  refine ⟨fun i j p q hp hq e => ?_, fun i q hq => ?_⟩
  · obtain ⟨p', h1, h2⟩ := key i p hp
    obtain ⟨q', h3, h4⟩ := key j q hq
    exact h.1 i j p' q' h1 h3 (by rw [h2, h4, e])
  · obtain ⟨q', h1, h2⟩ := key i q hq
    rw [← h2]
    exact h.2 i q' h1
abbrev nb_1 : Cond := .fieldLinkNest "QuarrelBook$Rules" 18 "QuarrelBook" "POWERS_OF_3" "[I" "QuarrelBook"
abbrev nb_2 : Cond := .fieldLinkNest "QuarrelBook$Rules" 21 "QuarrelBook" "SETS_WITH" "[I" "QuarrelBook"
abbrev nb_3 : Cond := .methodLinkNest "QuarrelBook$Book" 53 yX3_init "QuarrelBook"
abbrev nb_4 : Cond := .methodLinkNest "QuarrelBook$Master" 33 yX4_init "QuarrelBook"
abbrev nb_5 : Cond := .methodLinkNest "QuarrelBook$Page" 31 yX5_init "QuarrelBook"
abbrev nb_6 : Cond := .methodLinkNest "QuarrelBook" 62 yX7_init "QuarrelBook"
abbrev nb_7 : Cond := .methodLinkNest "QuarrelBook" 63 yX10_init "QuarrelBook"
def sw5 (j : Nat) : Int32 := match j with
  | 0 => -1431655766
  | 1 => -858993460
  | 2 => -252645136
  | 3 => -16711936
  | _ => -65536
def KnA (U : State) : Prop := va_AO "QuarrelBook$Row" U ∧ va_AO "QuarrelBook$Text" U ∧ va_AO "QuarrelBook$Master" U ∧ va_AO "QuarrelBook$Saying" U ∧ va_AO "QuarrelBook$Move" U
theorem KnA.moved {u U : State} (hvm : u.vm.Alike U.vm) (h : KnA u) : KnA U := ⟨h.1.moved hvm, h.2.1.moved hvm, h.2.2.1.moved hvm, h.2.2.2.1.moved hvm, h.2.2.2.2.moved hvm⟩
def KnB (w : Wp) (U : State) : Prop := Kn w U ∧ va_Nw nb_1 U ∧ va_Nw nb_2 U ∧ va_Nw nb_3 U ∧ va_Nw nb_4 U ∧ va_Nw nb_5 U ∧ va_Nw nb_6 U ∧ va_Nw nb_7 U ∧ KnA U ∧ ∃ t : Nat, va_Z "QuarrelBook" "SETS_WITH" "[I" (.ref t) (wA w) U U.heap ∧ va_T .int t 5 (fun j => .int (sw5 j)) (wA w) U U.heap
theorem KnB.to {w : Wp} {s U : State} {H : Heap} {locs : List Loc} (h : KnB w s) (hS : va_S (wA w) s.heap H locs) (hU : U.heap = H) (hW : s.WarmedH U.vm) : KnB w U := by
  obtain ⟨h0, h1, h2, h3, h4, h5, h6, h7, ha, t, h8, h9⟩ := h
  refine ⟨h0.to hS hU hW, va_Nw.warmF hW h1, va_Nw.warmF hW h2, va_Nw.warmM hW h3, va_Nw.warmM hW h4, va_Nw.warmM hW h5, va_Nw.warmM hW h6, va_Nw.warmM hW h7, ha.moved hW.alike, t, ?_, ?_⟩
  · rw [hU]; exact (h8.kept (fun a p q => hS.2.1 a p q)).moved hW.alike
  · rw [hU]; exact (h9.kept (fun a p q => hS.2.1 a p q)).moved hW.alike
theorem KnB.calling {w : Wp} {U : State} {g : JFrame} {mk : MethodId} {a : Array Value} (h : KnB w U) : KnB w (U.calling g mk a) := by
  obtain ⟨h0, h1, h2, h3, h4, h5, h6, h7, ha, t, h8, h9⟩ := h
  exact ⟨h0.calling, va_Nw.same (u := U) (U := U.calling g mk a) rfl rfl h1, va_Nw.same (u := U) (U := U.calling g mk a) rfl rfl h2, va_Nw.same (u := U) (U := U.calling g mk a) rfl rfl h3, va_Nw.same (u := U) (U := U.calling g mk a) rfl rfl h4, va_Nw.same (u := U) (U := U.calling g mk a) rfl rfl h5, va_Nw.same (u := U) (U := U.calling g mk a) rfl rfl h6, va_Nw.same (u := U) (U := U.calling g mk a) rfl rfl h7, KnA.moved (u := U) (U := U.calling g mk a) (Vm.Alike.refl U.vm) ha, t, va_Z.moved (u := U) (U := U.calling g mk a) (Vm.Alike.refl U.vm) h8, va_T.moved (u := U) (U := U.calling g mk a) (Vm.Alike.refl U.vm) h9⟩
abbrev rmB (lv mc ms : Nat) : Room := { frames := lv, cells := mc, slots := ms, locals := 40 * lv }
def WdB (w : Wp) (ks : List (Nat × Nat)) (g : Gc) (z : Nat) (U : State) : Prop := U.heap.size = z ∧ va_P (wD w) vwCl (wlG ks w g) U.heap ∧ KnB w U ∧ va_D (wA w) (wlG ks w g) ∧ ∀ q, z ≤ q → wA w q
def QgB (w : Wp) (ks : List (Nat × Nat)) (g : Gc) : Array Value → State → Outcome → State → Prop := fun _ st oc t => oc = .returned none ∧ va_P (wD w) vwCl (wlG ks w g) t.heap ∧ va_D (wA w) (wlG ks w g) ∧ va_F (wA w) st t
/-- a constructor's contract -/
def CmB (l : Launch) (y : MethodName) (c0 : Cond) (lv mc ms : Nat) (w : Wp) (av : List Value) (ks : List (Nat × Nat)) (g : Gc) (z : Nat) (ks' : List (Nat × Nat)) (g' : Gc) : Prop :=
  Met l y (c0 :: lw_good) (rmB lv mc ms) (va_Pc av (WdB w ks g z)) (QgB w ks' g') mc ms (wA w)
def CxB (x : Ctx) (w : Wp) (cc : ByteArray) (nL : Nat) (own : String) (lv mc ms z : Nat) : Prop :=
  (xP x).tables.exec = Jvm.exec ∧ (xC x).code = cc ∧ (xC x).maxLocals = nL ∧ (xS x).vm.findClass own = some (xM x).cls ∧ (∀ q ∈ lw_good, q.before (xA x) (xS x) = true) ∧ (xT x).locks = false ∧ (xT x).sig.returnType = none ∧ ((xR x).frames = lv ∧ (xR x).locals = 40 * lv ∧ (xR x).cells = mc ∧ (xR x).slots = ms) ∧ KnB w (xS x) ∧ (∀ q, (xS x).heap.size ≤ q → wA w q) ∧ (xT x).name = "<init>" ∧ (xS x).heap.size = z
abbrev Wb (x : Ctx) (H : Heap) (locs : List Loc) (c m : Nat) (Q : State → Prop) (g : JFrame) : Prop := W (xP x) (xL x) (xE x) (xR x) (xS x) (xM x) (xA x) (xB x) (xT x) (xC x) H locs c m Q g
def VB (x : Ctx) (w : Wp) (nL : Nat) (Q : State → Prop) (ks : List (Nat × Nat)) (g : Gc) (c m : Nat) (pc : Nat) (L : List (Nat × Value)) (st : List Value) : Prop :=
  ∀ (H : Heap) (locs : List Loc) (ls : Array Slot), va_P (wD w) vwCl (wlG ks w g) H → va_D (wA w) (wlG ks w g) → va_S (wA w) (xS x).heap H locs → lv_has ls nL L → Wb x H locs c m Q (F0 (xM x) pc ls st)
abbrev QB (x : Ctx) (w : Wp) (ks : List (Nat × Nat)) (g : Gc) (mc ms : Nat) : State → Prop := MQ (xB x) (QgB w ks g) (xA x) (xS x) mc ms (wA w)
theorem CmB.of {l : Launch} {y : MethodName} {cc : ByteArray} {nL lv mc ms : Nat} {own : String} {w : Wp} {av : List Value} {ks ks' : List (Nat × Nat)} {g g' : Gc} {z : Nat} {L : List (Nat × Value)} (hy : plainName y.cls = true) (ho : y.cls = own) (hn : y.name = "<init>") (hL : (lg_sl av).length ≤ nL) (hl : lv_args 0 av = L)
    (h : ∀ x : Ctx, xL x = l → CxB x w cc nL own lv mc ms z → VB x w nL (QB x w ks' g' mc ms) ks g 0 0 0 L []) : CmB l y (.code y cc nL none) lv mc ms w av ks g z ks' g' := by
  refine Met.ofW (cc := cc) (maxL := nL) (ret := none) hy rfl ?_
  intro p e s m args below meth c s₁ B hml hv
  obtain ⟨rfl, hz, hP, hK, hD, hA⟩ := hv
  have hts := atoms_spec (ws := Cond.code y cc nL none :: lw_good) B.pre
  have hown : s.vm.findClass y.cls = some m.cls := findClass_of_methodNamed B.named
  have hnm : meth.name = y.name := (name_of_methodNamed B.named B.method).1
  have hls := lv_entry av (n := nL) hL
  rw [lg_entry_eq]
  rw [hl] at hls
  exact h (p, l, e, rmB lv mc ms, s, m, av.toArray, below, meth, c, 0, 0) rfl ⟨B.exec, B.bytes, hml, by rw [← ho]; exact hown, fun q hq => hts q (List.mem_cons_of_mem _ hq), B.notSynchronized, B.returns, ⟨rfl, rfl, rfl, rfl⟩, hK, fun q hq => hA q (by rw [← hz]; exact hq), hnm.trans hn, hz⟩ s.heap [] _ hP hD va_S.rf hls
theorem W_size {p : Program} {l : Launch} {e : Env} {R : Room} {s : State} {m : MethodId} {args : Array Value} {below : List Frame} {meth : Method} {c : Code} {H : Heap} {locs : List Loc} {cells slots : Nat} {Q : State → Prop} {g : JFrame} (h : H.size ≤ s.heap.size + cells → W p l e R s m args below meth c H locs cells slots Q g) : W p l e R s m args below meth c H locs cells slots Q g := fun T hT X => h (by rw [← hT]; exact X.same.2.2.1) T hT X
section
variable {x : Ctx} {w : Wp} {cc : ByteArray} {nL lv mc ms : Nat} {own : String} {Q : State → Prop} {ks : List (Nat × Nat)} {g : Gc} {z c m pc : Nat} {L L' : List (Nat × Value)} {st : List Value}
theorem b_sub (js : List Nat) (hl : lv_pick L js = L') (h : VB x w nL Q ks g c m pc L' st) : VB x w nL Q ks g c m pc L st := fun H locs ls hP hD hS hls => h H locs ls hP hD hS (lv_sub hls js hl)
theorem b_eqG {g' : Gc} (he : ∀ q ∈ ks, g q.1 q.2 = g' q.1 q.2) (h : VB x w nL Q ks g' c m pc L st) : VB x w nL Q ks g c m pc L st := by
  intro H locs ls hP hD hS hls
  rw [wlG_congr he] at hP hD
  exact h H locs ls hP hD hS hls
theorem b_iconst (C : CxB x w cc nL own lv mc ms z) {n : Int} {v : Int32} (hd : decode cc pc = .ok (.iconst n, 1)) (hv : Int32.ofInt n = v) (h : VB x w nL Q ks g c m (pc + 1) L (.int v :: st)) : VB x w nL Q ks g c m (pc) L (st) := fun H locs ls hP hD hS hl => lv_iconst C.1 C.2.1 hd hv (h H locs ls hP hD hS hl)
theorem b_bipush (C : CxB x w cc nL own lv mc ms z) {n : Int} {v : Int32} (hd : decode cc pc = .ok (.bipush n, 2)) (hv : (Int8.ofInt n).toInt32 = v) (h : VB x w nL Q ks g c m (pc + 2) L (.int v :: st)) : VB x w nL Q ks g c m (pc) L (st) := fun H locs ls hP hD hS hl => lv_bipush C.1 C.2.1 hd hv (h H locs ls hP hD hS hl)
theorem b_sipush (C : CxB x w cc nL own lv mc ms z) {n : Int} {v : Int32} (hd : decode cc pc = .ok (.sipush n, 3)) (hv : (Int16.ofInt n).toInt32 = v) (h : VB x w nL Q ks g c m (pc + 3) L (.int v :: st)) : VB x w nL Q ks g c m (pc) L (st) := fun H locs ls hP hD hS hl => lv_sipush C.1 C.2.1 hd hv (h H locs ls hP hD hS hl)
theorem b_lconst (C : CxB x w cc nL own lv mc ms z) {n : Fin 2} {v : Int64} (hd : decode cc pc = .ok (.lconst n, 1)) (hv : Int64.ofNat (n : Nat) = v) (h : VB x w nL Q ks g c m (pc + 1) L (.long v :: st)) : VB x w nL Q ks g c m (pc) L (st) := fun H locs ls hP hD hS hl => lv_lconst C.1 C.2.1 hd hv (h H locs ls hP hD hS hl)
theorem b_iload_n (C : CxB x w cc nL own lv mc ms z) {q : Fin 4} {i : Nat} {v : Int32} (hd : decode cc pc = .ok (.iload_n q, 1)) (hi : (q : Nat) = i) (j : Nat) (hj : L[j]? = some (i, .int v)) (h : VB x w nL Q ks g c m (pc + 1) L (.int v :: st)) : VB x w nL Q ks g c m (pc) L (st) := fun H locs ls hP hD hS hl => lv_iload_n C.1 C.2.1 hd hi (lv_at hl j hj) (h H locs ls hP hD hS hl)
theorem b_aload_n (C : CxB x w cc nL own lv mc ms z) {q : Fin 4} {i : Nat} {v : Nat} (hd : decode cc pc = .ok (.aload_n q, 1)) (hi : (q : Nat) = i) (j : Nat) (hj : L[j]? = some (i, .ref v)) (h : VB x w nL Q ks g c m (pc + 1) L (.ref v :: st)) : VB x w nL Q ks g c m (pc) L (st) := fun H locs ls hP hD hS hl => lv_aload_n C.1 C.2.1 hd hi (lv_at hl j hj) (h H locs ls hP hD hS hl)
theorem b_istore_n (C : CxB x w cc nL own lv mc ms z) {q : Fin 4} {i : Nat} {v : Int32} (hd : decode cc pc = .ok (.istore_n q, 1)) (hi : (q : Nat) = i) (hn : i < nL) (hl' : (i, Value.int v) :: L.filter (fun q => !(q.1 == i) && !(q.1 + 1 == i && q.2.category == 2)) = L') (h : VB x w nL Q ks g c m (pc + 1) L' (st)) : VB x w nL Q ks g c m (pc) L (.int v :: st) := fun H locs ls hP hD hS hl => lv_istore_n C.1 C.2.1 hd hi hl hn hl' (fun ls' hls => h H locs ls' hP hD hS hls)
theorem b_iinc (C : CxB x w cc nL own lv mc ms z) {i j : Nat} {n : Int} {a v : Int32} (hd : decode cc pc = .ok (.iinc i n, 3)) (hj : L[j]? = some (i, .int a)) (hv : a + Int32.ofInt n = v) (hn : i < nL) (hl' : (i, Value.int v) :: L.filter (fun q => !(q.1 == i) && !(q.1 + 1 == i && q.2.category == 2)) = L') (h : VB x w nL Q ks g c m (pc + 3) L' (st)) : VB x w nL Q ks g c m (pc) L (st) := fun H locs ls hP hD hS hl => lv_iinc C.1 C.2.1 hd hl hj hv hn hl' (fun ls' hls => h H locs ls' hP hD hS hls)
theorem b_dup (C : CxB x w cc nL own lv mc ms z) {a : Value} (hd : decode cc pc = .ok (.dup, 1)) (hc : a.category = 1) (h : VB x w nL Q ks g c m (pc + 1) L (a :: a :: st)) : VB x w nL Q ks g c m (pc) L (a :: st) := fun H locs ls hP hD hS hl => lv_dup C.1 C.2.1 hd hc (h H locs ls hP hD hS hl)
theorem b_goto (C : CxB x w cc nL own lv mc ms z) {off : Int} {tgt : Nat} (hd : decode cc pc = .ok (.goto off, 3)) (ht : (pc : Int) + off = (tgt : Int)) (h : VB x w nL Q ks g c m (tgt) L (st)) : VB x w nL Q ks g c m (pc) L (st) := fun H locs ls hP hD hS hl => lv_goto C.1 C.2.1 hd ht (h H locs ls hP hD hS hl)
theorem b_icmp_ge (C : CxB x w cc nL own lv mc ms z) {a b : Int32} {off : Int} {tgt : Nat} (hd : decode cc pc = .ok (.if_icmp .ge off, 3)) (ht : (pc : Int) + off = (tgt : Int)) (h1 : b ≤ a → VB x w nL Q ks g c m (tgt) L (st)) (h2 : ¬ b ≤ a → VB x w nL Q ks g c m (pc + 3) L (st)) : VB x w nL Q ks g c m (pc) L (.int b :: .int a :: st) := fun H locs ls hP hD hS hl => lv_icmp_ge C.1 C.2.1 hd ht (fun q => h1 q H locs ls hP hD hS hl) (fun q => h2 q H locs ls hP hD hS hl)
/-- new -/
theorem b_new (C : CxB x w cc nL own lv mc ms z) (kd n : Nat) {ci idx N : Nat} {Cn : String} {T : u_T} {fs : List Value} (hl : Cond.classLink own idx Cn ∈ lw_good) (hi : Cond.instantiable Cn N ∈ lw_good) (hn : Cond.initialized Cn ∈ lw_good) (hin : ∀ q ∈ u_ws Cn T N, q ∈ lw_good) (ty : Nat → FieldType) (hty : ∀ k, k < N → parseFieldDescriptor (T k).2.2.1 = some (ty k)) (hc : vwCl[ci]? = some (Cn, T, N)) (hfs : ∀ j, j < N → defaultValue (ty j) = vp_V fs j) (hz : wa w kd n = z + c) (hlow : c = 0 ∨ ∃ q ∈ ks, wa w q.1 q.2 + 1 = z + c) (hcs : c + 1 ≤ mc) (hsl : m + N ≤ ms) (hd : decode cc pc = .ok (.new idx, 3)) (h : VB x w nL Q (ks ++ [(kd, n)]) (gU g kd n (.inr (ci, fs))) (c + 1) (m + N) (pc + 3) L (.ref (wa w kd n) :: st)) : VB x w nL Q ks g c m pc L st := by
  obtain ⟨hx, hb, hml, hown, hts, hlo, hr, hR, hK, hA, hin2, hz0⟩ := C
  intro H locs ls hP hD hS hls
  have hKn := hK.1.1.1 ci _ hc
  refine W_size (fun hup => ?_)
  have hsz : H.size = z + c := by
    have h0 := hS.1
    rcases hlow with rfl | ⟨q, hq, hqz⟩
    · omega
    · obtain ⟨q0, hq0⟩ := List.getElem?_of_mem hq
      have := (hP q0 _ (wlG_get hq0)).lt
      dsimp only at this
      omega
  have hnin : (kd, n) ∉ ks := fun hm => by
    obtain ⟨q0, hq0⟩ := List.getElem?_of_mem hm
    have := (hP q0 _ (wlG_get hq0)).lt
    dsimp only at this
    omega
  refine W.newcK hx hb hown (hts _ hl) (hts _ hi) (hts _ hn) rfl hd (by rw [hR.2.2.1]; exact hcs) (by rw [hR.2.2.2]; exact hsl) hKn.2.1 rfl fun H1 kC hkC e1 z1 o1 => ?_
  have hk : ∀ (k : Nat) (y : Nat × va_E), (wlG ks w g)[k]? = some y → H1[y.1]? = H[y.1]? := fun k y hy => o1 y.1 ((hP k y hy).lt)
  have hP1 : va_P (wD w) vwCl (wlG ks w g ++ [(H.size, .inr (ci, fs))]) H1 := (hP.kept hk).app (fun k y hy => by
    have hz0 : k < 1 := (List.getElem?_eq_some_iff.mp hy).1
    rw [show k = 0 by omega] at hy
    cases hy
    exact ⟨_, hc, (u_born ty hts hin hKn hkC e1 hty).to hfs⟩)
  have hD1 : va_D (wA w) (wlG ks w g ++ [(H.size, .inr (ci, fs))]) := hD.push hP rfl (hA _ hS.1)
  rw [hsz, ← hz, ← wlG_push hnin] at hP1 hD1
  have e2 : (Value.ref H.size) = .ref (wa w kd n) := by rw [hsz, hz]
  rw [e2]
  exact h H1 locs ls hP1 hD1 ⟨Nat.le_trans hS.1 (by omega), fun y h1 h2 => (o1 y (Nat.lt_of_lt_of_le h1 hS.1)).trans (hS.2.1 y h1 h2), hS.2.2⟩ hls
/-- newarray -/
theorem b_newa (C : CxB x w cc nL own lv mc ms z) (kd n : Nat) {t0 N : Nat} {i : Int32} {atype : ArrayType} (harr : Cond.arrayClass (newarray.typeOf atype) ∈ lw_good) (ht : (tysA (wd w))[t0]? = some (wd w t0, newarray.typeOf atype)) (hra : ∀ (U : State) (cA : ClassId), va_RA U cA (newarray.typeOf atype) → U.vm.findClass ("[" ++ (newarray.typeOf atype).toString) = some cA) (ha : ∀ cA : ClassId, vp_cell cA (N, .inl (fun _ => 0)) = arrV cA N (fun _ => defaultValue (newarray.typeOf atype))) (hi : ¬ i < 0) (hN : i.toNatClampNeg = N) (hby : N * componentBytes (newarray.typeOf atype) ≤ 536870912) (hz : wa w kd n = z + c) (hlow : c = 0 ∨ ∃ q ∈ ks, wa w q.1 q.2 + 1 = z + c) (hcs : c + 1 ≤ mc) (hsl : m + N ≤ ms) (hd : decode cc pc = .ok (.newarray atype, 2)) (h : VB x w nL Q (ks ++ [(kd, n)]) (gU g kd n (.inl (wd w t0, N, .inl (fun _ => 0)))) (c + 1) (m + N) (pc + 2) L (.ref (wa w kd n) :: st)) : VB x w nL Q ks g c m pc L (.int i :: st) := by
  obtain ⟨hx, hb, hml, hown, hts, hlo, hr, hR, hK, hA, hin2, hz0⟩ := C
  intro H locs ls hP hD hS hls
  refine W_size (fun hup => ?_)
  have hsz : H.size = z + c := by
    have h0 := hS.1
    rcases hlow with rfl | ⟨q, hq, hqz⟩
    · omega
    · obtain ⟨q0, hq0⟩ := List.getElem?_of_mem hq
      have := (hP q0 _ (wlG_get hq0)).lt
      dsimp only at this
      omega
  have hnin : (kd, n) ∉ ks := fun hm => by
    obtain ⟨q0, hq0⟩ := List.getElem?_of_mem hm
    have := (hP q0 _ (wlG_get hq0)).lt
    dsimp only at this
    omega
  refine va_newaK hx hb (hts _ harr) rfl hd rfl hi hN hby (by rw [hR.2.2.1]; exact hcs) (by rw [hR.2.2.2]; exact hsl) rfl fun H1 cA e1 z1 o1 hAr hNm => ?_
  have hcA : cA = wd w t0 := Option.some.inj (hNm.symm.trans (hra _ _ (hK.1.1.2 t0 _ ht).2))
  subst hcA
  have hk : ∀ (k : Nat) (y : Nat × va_E), (wlG ks w g)[k]? = some y → H1[y.1]? = H[y.1]? := fun k y hy => o1 y.1 ((hP k y hy).lt)
  have hP1 : va_P (wD w) vwCl (wlG ks w g ++ [(H.size, .inl (wd w t0, N, .inl (fun _ => 0)))]) H1 := (hP.kept hk).app (fun k y hy => by
    have hz0 : k < 1 := (List.getElem?_eq_some_iff.mp hy).1
    rw [show k = 0 by omega] at hy
    cases hy
    show H1[H.size]? = some (vp_cell (wd w t0) (N, .inl (fun _ => 0)))
    rw [ha]
    exact e1)
  have hD1 : va_D (wA w) (wlG ks w g ++ [(H.size, .inl (wd w t0, N, .inl (fun _ => 0)))]) := hD.push hP rfl (hA _ hS.1)
  rw [hsz, ← hz, ← wlG_push hnin] at hP1 hD1
  have e2 : (Value.ref H.size) = .ref (wa w kd n) := by rw [hsz, hz]
  rw [e2]
  exact h H1 locs ls hP1 hD1 ⟨Nat.le_trans hS.1 (by omega), fun y h1 h2 => (o1 y (Nat.lt_of_lt_of_le h1 hS.1)).trans (hS.2.1 y h1 h2), hS.2.2⟩ hls
/-- anewarray -/
theorem b_anew (C : CxB x w cc nL own lv mc ms z) (kd n : Nat) {t0 N idx : Nat} {i : Int32} {Cn : String} (hl : Cond.classLink own idx Cn ∈ lw_good) (hov : va_AO Cn (xS x)) (ht : (tysA (wd w))[t0]? = some (wd w t0, .object Cn)) (hi : ¬ i < 0) (hN : i.toNatClampNeg = N) (hby : N * 4 ≤ 536870912) (hz : wa w kd n = z + c) (hlow : c = 0 ∨ ∃ q ∈ ks, wa w q.1 q.2 + 1 = z + c) (hcs : c + 1 ≤ mc) (hsl : m + N ≤ ms) (hd : decode cc pc = .ok (.anewarray idx, 3)) (h : VB x w nL Q (ks ++ [(kd, n)]) (gU g kd n (.inl (wd w t0, N, .inr (.inr (.inr (.inr (fun _ => none))))))) (c + 1) (m + N) (pc + 3) L (.ref (wa w kd n) :: st)) : VB x w nL Q ks g c m pc L (.int i :: st) := by
  obtain ⟨hx, hb, hml, hown, hts, hlo, hr, hR, hK, hA, hin2, hz0⟩ := C
  intro H locs ls hP hD hS hls
  refine W_size (fun hup => ?_)
  have hsz : H.size = z + c := by
    have h0 := hS.1
    rcases hlow with rfl | ⟨q, hq, hqz⟩
    · omega
    · obtain ⟨q0, hq0⟩ := List.getElem?_of_mem hq
      have := (hP q0 _ (wlG_get hq0)).lt
      dsimp only at this
      omega
  have hnin : (kd, n) ∉ ks := fun hm => by
    obtain ⟨q0, hq0⟩ := List.getElem?_of_mem hm
    have := (hP q0 _ (wlG_get hq0)).lt
    dsimp only at this
    omega
  subst hN
  refine W.anew hx hb hown (hts _ hl) (va_AO.use hov) rfl hd rfl hi hby (by rw [hR.2.2.1]; exact hcs) (by rw [hR.2.2.2]; exact hsl) fun cA kA comp f1 f2 f3 f4 => ?_
  have hcA : cA = wd w t0 := by
    obtain ⟨kA', comp', -, -, -, h4⟩ := (hK.1.1.2 t0 _ ht).2
    exact Option.some.inj (f1.symm.trans h4)
  subst hcA
  generalize hH1 : H.push ({ cls := wd w t0, slots := Array.replicate i.toNatClampNeg .null, vm := .none } : Cell) = H1
  have z1 : H1.size = H.size + 1 := by rw [← hH1, Array.size_push]
  have e1 : H1[H.size]? = some (arrV (wd w t0) i.toNatClampNeg (fun _ => .null)) := by rw [← hH1, Array.getElem?_push_size, ← arrV_new]
  have o1 : ∀ q : Nat, q < H.size → H1[q]? = H[q]? := fun q hq => by rw [← hH1, Array.getElem?_push, if_neg (Nat.ne_of_lt hq)]
  have hk : ∀ (k : Nat) (y : Nat × va_E), (wlG ks w g)[k]? = some y → H1[y.1]? = H[y.1]? := fun k y hy => o1 y.1 ((hP k y hy).lt)
  have hP1 : va_P (wD w) vwCl (wlG ks w g ++ [(H.size, .inl (wd w t0, i.toNatClampNeg, .inr (.inr (.inr (.inr (fun _ => none))))))]) H1 := (hP.kept hk).app (fun k y hy => by
    have hz0 : k < 1 := (List.getElem?_eq_some_iff.mp hy).1
    rw [show k = 0 by omega] at hy
    cases hy
    exact e1)
  have hD1 : va_D (wA w) (wlG ks w g ++ [(H.size, .inl (wd w t0, i.toNatClampNeg, .inr (.inr (.inr (.inr (fun _ => none))))))]) := hD.push hP rfl (hA _ hS.1)
  rw [hsz, ← hz, ← wlG_push hnin] at hP1 hD1
  have e2 : (Value.ref H.size) = .ref (wa w kd n) := by rw [hsz, hz]
  rw [e2]
  exact h H1 locs ls hP1 hD1 ⟨Nat.le_trans hS.1 (by omega), fun y h1 h2 => (o1 y (Nat.lt_of_lt_of_le h1 hS.1)).trans (hS.2.1 y h1 h2), hS.2.2⟩ hls
/-- Object.<init> -/
theorem b_obj (C : CxB x w cc nL own lv mc ms z) {idx a : Nat} (h1 : Cond.methodLink own idx Lib.objectInit ∈ lw_good) (h2 : Cond.instanceMethod Lib.objectInit ∈ lw_good) (h3 : Cond.code Lib.objectInit ⟨#[0xb1]⟩ 1 none ∈ lw_good) (hlv : 1 ≤ lv) (hd : decode cc pc = .ok (.invokespecial idx, 3)) (h : VB x w nL Q ks g c m (pc + 3) L []) : VB x w nL Q ks g c m pc L [.ref a] := by
  obtain ⟨hx, hb, hml, hown, hts, hlo, hr, hR, hK, hA, hin2, hz0⟩ := C
  intro H locs ls hP hD hS hls
  refine W.objInit hx hb hown (hts _ h1) (hts _ h2) (hts _ h3) rfl (by rw [hml]; exact hls.1) rfl hd (by rw [hR.1]; exact hlv) ?_ (h H locs ls hP hD hS hls)
  rw [hR.2.1]
  have q := lv_room (m := xM x) (pc := pc) (ls := ls) (rest := [.ref a]) (st := []) (Nat.zero_le 8)
  omega
/-- getfield -/
theorem b_get (C : CxB x w cc nL own lv mc ms z) {kd n ci idx N : Nat} {Cn ref : String} {T : u_T} {fs : List Value} {v : Value} (hm : (kd, n) ∈ ks) (he : g kd n = .inr (ci, fs)) (hc : vwCl[ci]? = some (Cn, T, N)) (hin : ∀ q ∈ u_ws Cn T N, q ∈ lw_good) (j : Nat) (hj : j < N) (hlk : Cond.fieldLink own idx ref (T j).2.1 (T j).2.2.1 ∈ lw_good) (hrf : (T j).1 = ref) (hv : fs[j]? = some v) (hd : decode cc pc = .ok (.getfield idx, 3)) (h : VB x w nL Q ks g c m (pc + 3) L (v :: st)) : VB x w nL Q ks g c m pc L (.ref (wa w kd n) :: st) := by
  obtain ⟨hx, hb, hml, hown, hts, hlo, hr, hR, hK, hA, hin2, hz0⟩ := C
  obtain ⟨q0, hq0⟩ := List.getElem?_of_mem hm
  intro H locs ls hP hD hS hl
  have hg := wlG_get (w := w) (g := g) hq0
  rw [he] at hg
  exact va_get (D := wD w) (T := T) (N := N) hx hb hts hin hown hK.1.1 hP q0 hg hc j hj (hts _ hlk) (fun z hz => by rw [← hrf]; exact hz) hv hd (h H locs ls hP hD hS hl)
/-- putfield -/
theorem b_put (C : CxB x w cc nL own lv mc ms z) {kd n ci idx N : Nat} {Cn ref : String} {T : u_T} {fs : List Value} {v : Value} {ty : FieldType} (hm : (kd, n) ∈ ks) (he : g kd n = .inr (ci, fs)) (hc : vwCl[ci]? = some (Cn, T, N)) (hin : ∀ q ∈ u_ws Cn T N, q ∈ lw_good) (ty0 : Nat → FieldType) (hty : ∀ k, k < N → parseFieldDescriptor (T k).2.2.1 = some (ty0 k)) (hnm : ∀ a, a < N → ∀ b, b < N → a ≠ b → (T a).2.1 ≠ (T b).2.1) (j : Nat) (hj : j < N) (hlk : Cond.fieldLink own idx ref (T j).2.1 (T j).2.2.1 ∈ lw_good) (hrf : (T j).1 = ref) (ho : (T j).1 = own) (hde : parseFieldDescriptor (T j).2.2.1 = some ty) (hn : narrow ty v = v) (hfit : fits ty v = true) (hlf : j < fs.length) (hd : decode cc pc = .ok (.putfield idx, 3)) (h : VB x w nL Q ks (gU g kd n (.inr (ci, fs.set j v))) c m (pc + 3) L st) : VB x w nL Q ks g c m pc L (v :: .ref (wa w kd n) :: st) := by
  obtain ⟨hx, hb, hml, hown, hts, hlo, hr, hR, hK, hA, hin2, hz0⟩ := C
  obtain ⟨q0, hq0⟩ := List.getElem?_of_mem hm
  intro H locs ls hP hD hS hl
  have hg := wlG_get (w := w) (g := g) hq0
  rw [he] at hg
  by_cases hfin : (T j).2.2.2 = true
  · refine va_putF (D := wD w) (T := T) (N := N) hx hb hts hin ty0 hty hnm hown hK.1.1 hP hD hS q0 hg hc j hj (hts _ hlk) (fun z hz => by rw [← hrf]; exact hz) hfin hin2 ho hde hn hfit hlf hd (fun H1 locs1 hP1 hD1 hS1 => ?_)
    rw [wlG_set hD hq0] at hP1 hD1
    exact h H1 locs1 ls hP1 hD1 hS1 hl
  · refine va_put (D := wD w) (T := T) (N := N) hx hb hts hin ty0 hty hnm hown hK.1.1 hP hD hS q0 hg hc j hj (hts _ hlk) (fun z hz => by rw [← hrf]; exact hz) (by simpa using hfin) hde hn hfit hlf hd (fun H1 locs1 hP1 hD1 hS1 => ?_)
    rw [wlG_set hD hq0] at hP1 hD1
    exact h H1 locs1 ls hP1 hD1 hS1 hl
/-- aastore -/
theorem b_aast (C : CxB x w cc nL own lv mc ms z) {ka na kd n ci t0 N : Nat} {i : Int32} {r : vw_C} {vs : List Value} {f : Nat → Option Nat} (hma : (ka, na) ∈ ks) (hm : (kd, n) ∈ ks) (hea : g ka na = .inl (wd w t0, N, .inr (.inr (.inr (.inr f))))) (he : g kd n = .inr (ci, vs)) (ht : (tysA (wd w))[t0]? = some (wd w t0, .object r.1)) (hc : vwCl[ci]? = some r) (hi : inb i N = true) (hd : decode cc pc = .ok (.aastore, 1)) (h : VB x w nL Q ks (gU g ka na (.inl (wd w t0, N, .inr (.inr (.inr (.inr (va_up f i.toNatClampNeg (some (wa w kd n))))))))) c m (pc + 1) L st) : VB x w nL Q ks g c m pc L (.ref (wa w kd n) :: .int i :: .ref (wa w ka na) :: st) := by
  obtain ⟨hx, hb, hml, hown, hts, hlo, hr, hR, hK, hA, hin2, hz0⟩ := C
  obtain ⟨q0, hq0⟩ := List.getElem?_of_mem hma
  obtain ⟨q1, hq1⟩ := List.getElem?_of_mem hm
  intro H locs ls hP hD hS hl
  have hg := wlG_get (w := w) (g := g) hq0
  rw [hea] at hg
  have hg1 := wlG_get (w := w) (g := g) hq1
  rw [he] at hg1
  refine va_astq hx hb hK.1.1 hP hD hS q0 t0 q1 ci hg ht hg1 hc (inb_vp hi) hd (fun H1 locs1 hP1 hD1 hS1 => ?_)
  rw [wlG_set hD hq0] at hP1 hD1
  exact h H1 locs1 ls hP1 hD1 hS1 hl
theorem WdB.blind {av : List Value} {ks : List (Nat × Nat)} {g : Gc} {z : Nat} : FrameBlind (va_Pc av (WdB w ks g z)) := fun a U gg mk q => ⟨q.1, q.2.1, q.2.2.1, q.2.2.2.1.calling, q.2.2.2.2⟩
/-- invokespecial of a constructor; nest: the link is a nest mate's -/
theorem b_callI (C : CxB x w cc nL own lv mc ms z) {ks' : List (Nat × Nat)} {g' : Gc} {y : MethodName} {bytes : ByteArray} {maxL n idx l2 mc2 ms2 a z2 : Nat} {As rest : List Value} (hM : CmB (xL x) y (.code y bytes maxL none) l2 mc2 ms2 w (.ref a :: As) ks g z2 ks' g') (hl : Cond.methodLink own idx y ∈ lw_good ∨ va_Nw (.methodLinkNest own idx y "QuarrelBook") (xS x)) (h2 : Cond.instanceMethod y ∈ lw_good) (h4 : Cond.initialized y.cls ∈ lw_good) (h5 : Cond.code y bytes maxL none ∈ lw_good)
    (hy : y.cls ≠ "java/lang/invoke/MethodHandle" ∧ y.cls ≠ "java/lang/invoke/VarHandle" ∧ (parseMethodDescriptor y.desc).map (fun d => d.parameters.length) = some n) (hy1 : y.name = "<init>") (hn : As.length = n) (hlv : l2 + 1 ≤ lv) (hml2 : maxL ≤ 21) (hz2 : z2 = z + c) (hlow : c = 0 ∨ ∃ q ∈ ks, wa w q.1 q.2 + 1 = z + c) (hcs : c + mc2 ≤ mc) (hsl : m + ms2 ≤ ms) {st0 : List Value} (hst : st0 = As.reverse ++ .ref a :: rest) (hW : (rest.map fun v => v.category).sum ≤ 8) (hd : decode cc pc = .ok (.invokespecial idx, 3)) (h : VB x w nL Q ks' g' (c + mc2) (m + ms2) (pc + 3) L rest) : VB x w nL Q ks g c m pc L st0 := by
  obtain ⟨hx, hb, hml, hown, hts, hlo, hr, hR, hK, hA, hin2, hz0⟩ := C
  intro H locs ls hP hD hS hls
  refine W_size (fun hup => ?_)
  have hsz : H.size = z + c := by
    have h0 := hS.1
    rcases hlow with rfl | ⟨q, hq, hqz⟩
    · omega
    · obtain ⟨q0, hq0⟩ := List.getElem?_of_mem hq
      have := (hP q0 _ (wlG_get hq0)).lt
      dsimp only at this
      omega
  have hrm : (rmB l2 mc2 ms2).frames + 1 ≤ (xR x).frames ∧ 8 + (maxL + 11) + (rmB l2 mc2 ms2).locals ≤ (xR x).locals := ⟨by rw [hR.1]; exact hlv, by rw [hR.2.1]; show 8 + (maxL + 11) + 40 * l2 ≤ 40 * lv; omega⟩
  have hpre : PreS (xS x) H (va_Pc (.ref a :: As) (WdB w ks g z2)) (.ref a :: As) := ⟨WdB.blind, fun U hU hW1 => ⟨rfl, by rw [hU, hsz, hz2], by rw [hU]; exact hP, hK.to hS hU hW1, hD, fun q hq => hA q (by omega)⟩⟩
  have run : va_Run (xP x) (xL x) (xE x) (xR x) (xS x) (xM x) (xA x) (xB x) (xT x) (xC x) H locs c m mc2 ms2 (F0 (xM x) pc ls st0) rest (QgB w ks' g' (Value.ref a :: As).toArray) (wA w) := by
    rcases hl with hl | hl
    · exact va_runI (As := As) (rest := rest) ⟨hx, hb, hml, hown, hts⟩ hM (cwI n hts (lw_gN h5) rfl rfl rfl (hts _ h4) (hts _ hl) (hts _ h2) hy1 hy hrm) hpre rfl hn hls.1 hst (lv_room hW) hd ⟨by rw [hR.2.2.1]; exact hcs, by rw [hR.2.2.2]; exact hsl⟩
    · exact va_runIN (As := As) (rest := rest) ⟨hx, hb, hml, hown, hts⟩ hM ⟨va_cnB n hts (lw_gN h5) rfl rfl rfl hl (hts _ h4) hy hrm, hy1, hts _ h2⟩ hpre rfl hn hls.1 hst (lv_room hW) hd ⟨by rw [hR.2.2.1]; exact hcs, by rw [hR.2.2.2]; exact hsl⟩
  intro T hT X
  obtain ⟨v, st₀, t, T', Lo, h0, X', hL, e1, e2, ⟨hv, hp, hd2, hz, hk⟩, sq⟩ := run T hT X
  cases hv
  rw [h0] at hz hk
  obtain ⟨t2, a1, b1⟩ := h T'.heap (locs ++ Lo) ls (by rw [e1]; exact hp) hd2 ⟨Nat.le_trans hS.1 (by rw [e1]; exact hz), fun q h1 h2 => by rw [e1, hk q (Nat.lt_of_lt_of_le h1 hS.1) h2]; exact hS.2.1 q h1 h2, fun q hq => by
      rcases List.mem_append.mp hq with h | h
      · exact hS.2.2 q h
      · exact hL q h⟩ hls T' rfl X'
  exact ⟨t2, sq t2 a1, b1⟩
theorem b_vret (C : CxB x w cc nL own lv mc ms z) (hd : decode cc pc = .ok (.return_, 1)) : VB x w nL (QB x w ks g c m) ks g c m pc L [] :=
  fun H locs ls hP hD hS hl => W.vret C.1 C.2.1 C.2.2.2.2.2.2.1 (fun t ht hW => ⟨rfl, by rw [ht]; exact hP, hD, hS.F ht⟩) hS.2.2 hd C.2.2.2.2.2.1
end
