set_option maxRecDepth 100000 in
theorem q_23 : (Jvm.Cond.methodLink "QuarrelBook" (3 : Nat) ({ cls := "java/lang/Object", name := "<init>", desc := "()V" } : Jvm.MethodName)) ∈ lw_good := lw_mem 23 (by decide +kernel) rfl
set_option maxRecDepth 100000 in
theorem q_26 : (Jvm.Cond.classLink "QuarrelBook" (9 : Nat) "QuarrelBook$Row") ∈ lw_good := lw_mem 26 (by decide +kernel) rfl
set_option maxRecDepth 100000 in
theorem q_28 : (Jvm.Cond.classLink "QuarrelBook" (15 : Nat) "QuarrelBook$Text") ∈ lw_good := lw_mem 28 (by decide +kernel) rfl
set_option maxRecDepth 100000 in
theorem q_30 : (Jvm.Cond.classLink "QuarrelBook" (21 : Nat) "QuarrelBook$Book") ∈ lw_good := lw_mem 30 (by decide +kernel) rfl
set_option maxRecDepth 100000 in
theorem q_31 : (Jvm.Cond.instantiable "QuarrelBook$Book" (8 : Nat)) ∈ lw_good := lw_mem 31 (by decide +kernel) rfl
set_option maxRecDepth 100000 in
theorem q_32 : (Jvm.Cond.methodLink "QuarrelBook" (23 : Nat) ({ cls := "QuarrelBook$Book", name := "<init>", desc := "()V" } : Jvm.MethodName)) ∈ lw_good := lw_mem 32 (by decide +kernel) rfl
set_option maxRecDepth 100000 in
theorem q_33 : (Jvm.Cond.instanceMethod ({ cls := "QuarrelBook$Book", name := "<init>", desc := "()V" } : Jvm.MethodName)) ∈ lw_good := lw_mem 33 (by decide +kernel) rfl
set_option maxRecDepth 100000 in
theorem q_34 : (Jvm.Cond.code ({ cls := "QuarrelBook$Book", name := "<init>", desc := "()V" } : Jvm.MethodName) prog_3_method_1_code (2 : Nat) (Option.none : Option Jvm.ClassFile.FieldType)) ∈ lw_good := lw_mem 34 (by decide +kernel) rfl
set_option maxRecDepth 100000 in
theorem q_35 : (Jvm.Cond.methodLink "QuarrelBook$Book" (3 : Nat) ({ cls := "java/lang/Object", name := "<init>", desc := "()V" } : Jvm.MethodName)) ∈ lw_good := lw_mem 35 (by decide +kernel) rfl
set_option maxRecDepth 100000 in
theorem q_36 : (Jvm.Cond.classLink "QuarrelBook$Book" (9 : Nat) "QuarrelBook$Rules") ∈ lw_good := lw_mem 36 (by decide +kernel) rfl
set_option maxRecDepth 100000 in
theorem q_37 : (Jvm.Cond.instantiable "QuarrelBook$Rules" (2 : Nat)) ∈ lw_good := lw_mem 37 (by decide +kernel) rfl
set_option maxRecDepth 100000 in
theorem q_38 : (Jvm.Cond.methodLink "QuarrelBook$Book" (11 : Nat) ({ cls := "QuarrelBook$Rules", name := "<init>", desc := "()V" } : Jvm.MethodName)) ∈ lw_good := lw_mem 38 (by decide +kernel) rfl
set_option maxRecDepth 100000 in
theorem q_39 : (Jvm.Cond.instanceMethod ({ cls := "QuarrelBook$Rules", name := "<init>", desc := "()V" } : Jvm.MethodName)) ∈ lw_good := lw_mem 39 (by decide +kernel) rfl
set_option maxRecDepth 100000 in
theorem q_40 : (Jvm.Cond.code ({ cls := "QuarrelBook$Rules", name := "<init>", desc := "()V" } : Jvm.MethodName) prog_10_method_1_code (4 : Nat) (Option.none : Option Jvm.ClassFile.FieldType)) ∈ lw_good := lw_mem 40 (by decide +kernel) rfl
set_option maxRecDepth 100000 in
theorem q_55 : (Jvm.Cond.classLink "QuarrelBook$Book" (18 : Nat) "QuarrelBook$Bench") ∈ lw_good := lw_mem 55 (by decide +kernel) rfl
set_option maxRecDepth 100000 in
theorem q_56 : (Jvm.Cond.instantiable "QuarrelBook$Bench" (12 : Nat)) ∈ lw_good := lw_mem 56 (by decide +kernel) rfl
set_option maxRecDepth 100000 in
theorem q_57 : (Jvm.Cond.methodLink "QuarrelBook$Book" (20 : Nat) ({ cls := "QuarrelBook$Bench", name := "<init>", desc := "(LQuarrelBook$Rules;)V" } : Jvm.MethodName)) ∈ lw_good := lw_mem 57 (by decide +kernel) rfl
set_option maxRecDepth 100000 in
theorem q_58 : (Jvm.Cond.instanceMethod ({ cls := "QuarrelBook$Bench", name := "<init>", desc := "(LQuarrelBook$Rules;)V" } : Jvm.MethodName)) ∈ lw_good := lw_mem 58 (by decide +kernel) rfl
set_option maxRecDepth 100000 in
theorem q_59 : (Jvm.Cond.code ({ cls := "QuarrelBook$Bench", name := "<init>", desc := "(LQuarrelBook$Rules;)V" } : Jvm.MethodName) prog_2_method_1_code (2 : Nat) (Option.none : Option Jvm.ClassFile.FieldType)) ∈ lw_good := lw_mem 59 (by decide +kernel) rfl
set_option maxRecDepth 100000 in
theorem q_108 : (Jvm.Cond.classLink "QuarrelBook$Book" (35 : Nat) "QuarrelBook$Master") ∈ lw_good := lw_mem 108 (by decide +kernel) rfl
set_option maxRecDepth 100000 in
theorem q_110 : (Jvm.Cond.classLink "QuarrelBook$Book" (44 : Nat) "QuarrelBook$Saying") ∈ lw_good := lw_mem 110 (by decide +kernel) rfl
set_option maxRecDepth 100000 in
theorem q_112 : (Jvm.Cond.instantiable "QuarrelBook$Master" (7 : Nat)) ∈ lw_good := lw_mem 112 (by decide +kernel) rfl
set_option maxRecDepth 100000 in
theorem q_114 : (Jvm.Cond.instanceMethod ({ cls := "QuarrelBook$Master", name := "<init>", desc := "()V" } : Jvm.MethodName)) ∈ lw_good := lw_mem 114 (by decide +kernel) rfl
set_option maxRecDepth 100000 in
theorem q_115 : (Jvm.Cond.code ({ cls := "QuarrelBook$Master", name := "<init>", desc := "()V" } : Jvm.MethodName) prog_5_method_1_code (1 : Nat) (Option.none : Option Jvm.ClassFile.FieldType)) ∈ lw_good := lw_mem 115 (by decide +kernel) rfl
set_option maxRecDepth 100000 in
theorem q_198 : (Jvm.Cond.instantiable "QuarrelBook$Saying" (6 : Nat)) ∈ lw_good := lw_mem 198 (by decide +kernel) rfl
set_option maxRecDepth 100000 in
theorem q_199 : (Jvm.Cond.methodLink "QuarrelBook$Book" (54 : Nat) ({ cls := "QuarrelBook$Saying", name := "<init>", desc := "()V" } : Jvm.MethodName)) ∈ lw_good := lw_mem 199 (by decide +kernel) rfl
set_option maxRecDepth 100000 in
theorem q_200 : (Jvm.Cond.instanceMethod ({ cls := "QuarrelBook$Saying", name := "<init>", desc := "()V" } : Jvm.MethodName)) ∈ lw_good := lw_mem 200 (by decide +kernel) rfl
set_option maxRecDepth 100000 in
theorem q_201 : (Jvm.Cond.code ({ cls := "QuarrelBook$Saying", name := "<init>", desc := "()V" } : Jvm.MethodName) prog_11_method_1_code (1 : Nat) (Option.none : Option Jvm.ClassFile.FieldType)) ∈ lw_good := lw_mem 201 (by decide +kernel) rfl
set_option maxRecDepth 100000 in
theorem q_202 : (Jvm.Cond.methodLink "QuarrelBook$Saying" (3 : Nat) ({ cls := "java/lang/Object", name := "<init>", desc := "()V" } : Jvm.MethodName)) ∈ lw_good := lw_mem 202 (by decide +kernel) rfl
set_option maxRecDepth 100000 in
theorem q_203 : (Jvm.Cond.methodLink "QuarrelBook$Saying" (31 : Nat) ({ cls := "java/util/Arrays", name := "fill", desc := "([II)V" } : Jvm.MethodName)) ∈ lw_good := lw_mem 203 (by decide +kernel) rfl
set_option maxRecDepth 100000 in
theorem q_281 : (Jvm.Cond.classLink "QuarrelBook" (28 : Nat) "QuarrelBook$Page") ∈ lw_good := lw_mem 281 (by decide +kernel) rfl
set_option maxRecDepth 100000 in
theorem q_282 : (Jvm.Cond.instantiable "QuarrelBook$Page" (5 : Nat)) ∈ lw_good := lw_mem 282 (by decide +kernel) rfl
set_option maxRecDepth 100000 in
theorem q_283 : (Jvm.Cond.methodLink "QuarrelBook" (30 : Nat) ({ cls := "QuarrelBook$Page", name := "<init>", desc := "(LQuarrelBook$Book;)V" } : Jvm.MethodName)) ∈ lw_good := lw_mem 283 (by decide +kernel) rfl
set_option maxRecDepth 100000 in
theorem q_284 : (Jvm.Cond.instanceMethod ({ cls := "QuarrelBook$Page", name := "<init>", desc := "(LQuarrelBook$Book;)V" } : Jvm.MethodName)) ∈ lw_good := lw_mem 284 (by decide +kernel) rfl
set_option maxRecDepth 100000 in
theorem q_285 : (Jvm.Cond.code ({ cls := "QuarrelBook$Page", name := "<init>", desc := "(LQuarrelBook$Book;)V" } : Jvm.MethodName) prog_8_method_1_code (3 : Nat) (Option.none : Option Jvm.ClassFile.FieldType)) ∈ lw_good := lw_mem 285 (by decide +kernel) rfl
set_option maxRecDepth 100000 in
theorem q_286 : (Jvm.Cond.methodLink "QuarrelBook$Page" (3 : Nat) ({ cls := "java/lang/Object", name := "<init>", desc := "()V" } : Jvm.MethodName)) ∈ lw_good := lw_mem 286 (by decide +kernel) rfl
set_option maxRecDepth 100000 in
theorem q_287 : (Jvm.Cond.classLink "QuarrelBook$Page" (9 : Nat) "QuarrelBook$Move") ∈ lw_good := lw_mem 287 (by decide +kernel) rfl
set_option maxRecDepth 100000 in
theorem q_289 : (Jvm.Cond.instantiable "QuarrelBook$Move" (4 : Nat)) ∈ lw_good := lw_mem 289 (by decide +kernel) rfl
set_option maxRecDepth 100000 in
theorem q_291 : (Jvm.Cond.instanceMethod ({ cls := "QuarrelBook$Move", name := "<init>", desc := "()V" } : Jvm.MethodName)) ∈ lw_good := lw_mem 291 (by decide +kernel) rfl
set_option maxRecDepth 100000 in
theorem q_292 : (Jvm.Cond.code ({ cls := "QuarrelBook$Move", name := "<init>", desc := "()V" } : Jvm.MethodName) prog_7_method_1_code (1 : Nat) (Option.none : Option Jvm.ClassFile.FieldType)) ∈ lw_good := lw_mem 292 (by decide +kernel) rfl
set_option maxRecDepth 100000 in
theorem q_332 : (Jvm.Cond.classLink "QuarrelBook" (37 : Nat) "QuarrelBook$Court") ∈ lw_good := lw_mem 332 (by decide +kernel) rfl
set_option maxRecDepth 100000 in
theorem q_333 : (Jvm.Cond.instantiable "QuarrelBook$Court" (2 : Nat)) ∈ lw_good := lw_mem 333 (by decide +kernel) rfl
set_option maxRecDepth 100000 in
theorem q_334 : (Jvm.Cond.methodLink "QuarrelBook" (39 : Nat) ({ cls := "QuarrelBook$Court", name := "<init>", desc := "(LQuarrelBook$Book;)V" } : Jvm.MethodName)) ∈ lw_good := lw_mem 334 (by decide +kernel) rfl
set_option maxRecDepth 100000 in
theorem q_335 : (Jvm.Cond.instanceMethod ({ cls := "QuarrelBook$Court", name := "<init>", desc := "(LQuarrelBook$Book;)V" } : Jvm.MethodName)) ∈ lw_good := lw_mem 335 (by decide +kernel) rfl
set_option maxRecDepth 100000 in
theorem q_336 : (Jvm.Cond.code ({ cls := "QuarrelBook$Court", name := "<init>", desc := "(LQuarrelBook$Book;)V" } : Jvm.MethodName) prog_4_method_1_code (2 : Nat) (Option.none : Option Jvm.ClassFile.FieldType)) ∈ lw_good := lw_mem 336 (by decide +kernel) rfl
set_option maxRecDepth 100000 in
theorem q_346 : (Jvm.Cond.instantiable "QuarrelBook$Row" (2 : Nat)) ∈ lw_good := lw_mem 346 (by decide +kernel) rfl
set_option maxRecDepth 100000 in
theorem q_348 : (Jvm.Cond.instanceMethod ({ cls := "QuarrelBook$Row", name := "<init>", desc := "()V" } : Jvm.MethodName)) ∈ lw_good := lw_mem 348 (by decide +kernel) rfl
set_option maxRecDepth 100000 in
theorem q_349 : (Jvm.Cond.code ({ cls := "QuarrelBook$Row", name := "<init>", desc := "()V" } : Jvm.MethodName) prog_9_method_1_code (1 : Nat) (Option.none : Option Jvm.ClassFile.FieldType)) ∈ lw_good := lw_mem 349 (by decide +kernel) rfl
set_option maxRecDepth 100000 in
theorem q_360 : (Jvm.Cond.instantiable "QuarrelBook$Text" (4 : Nat)) ∈ lw_good := lw_mem 360 (by decide +kernel) rfl
set_option maxRecDepth 100000 in
theorem q_362 : (Jvm.Cond.instanceMethod ({ cls := "QuarrelBook$Text", name := "<init>", desc := "()V" } : Jvm.MethodName)) ∈ lw_good := lw_mem 362 (by decide +kernel) rfl
set_option maxRecDepth 100000 in
theorem q_363 : (Jvm.Cond.code ({ cls := "QuarrelBook$Text", name := "<init>", desc := "()V" } : Jvm.MethodName) prog_12_method_1_code (1 : Nat) (Option.none : Option Jvm.ClassFile.FieldType)) ∈ lw_good := lw_mem 363 (by decide +kernel) rfl
/-! loops that make objects -/
def cellsL (K : List Nat) (i : Nat) : List (Nat × Nat) := (List.range i).flatMap (fun j => K.map (fun k => (k, j)))
theorem cellsL_s (K : List Nat) (i : Nat) : cellsL K (i + 1) = cellsL K i ++ K.map (fun k => (k, i)) := by
  unfold cellsL
  rw [List.range_succ, List.flatMap_append]
  simp
theorem cellsL_m {K : List Nat} {i a b : Nat} : (a, b) ∈ cellsL K i ↔ a ∈ K ∧ b < i := by
  unfold cellsL
  rw [List.mem_flatMap]
  constructor
  · rintro ⟨j, hj, h⟩
    rw [List.mem_map] at h
    obtain ⟨k, hk, e⟩ := h
    cases e
    exact ⟨hk, List.mem_range.mp hj⟩
  · rintro ⟨h1, h2⟩
    exact ⟨b, List.mem_range.mpr h2, List.mem_map.mpr ⟨a, h1, rfl⟩⟩
abbrev rfs (f : Nat → Option Nat) : (Nat → Int32) ⊕ (Nat → Int64) ⊕ (Nat → UInt32) ⊕ (Nat → UInt64) ⊕ (Nat → Option Nat) := .inr (.inr (.inr (.inr f)))
/-- while objects are made: i of them stand, the row ka has them -/
def gI (g : Gc) (w : Wp) (ka t0 N kr : Nat) (K : List Nat) (i : Nat) : Gc := fun a b => if a = ka ∧ b = 0 then .inl (wd w t0, N, rfs (fun j => if j < i then some (wa w kr j) else none)) else if a ∈ K ∧ b < i then fin w a b else g a b
theorem gI_0 {g : Gc} {w : Wp} {ka t0 N kr : Nat} {K : List Nat} (h : g ka 0 = .inl (wd w t0, N, rfs (fun _ => none))) (a b : Nat) : g a b = gI g w ka t0 N kr K 0 a b := by
  unfold gI
  by_cases h1 : a = ka ∧ b = 0
  · obtain ⟨rfl, rfl⟩ := h1
    simp [h]
  · simp [h1]
theorem gI_a {g : Gc} {w : Wp} {ka t0 N kr : Nat} {K : List Nat} {i : Nat} : gI g w ka t0 N kr K i ka 0 = .inl (wd w t0, N, rfs (fun j => if j < i then some (wa w kr j) else none)) := by simp [gI]
theorem gI_o {g : Gc} {w : Wp} {ka t0 N kr : Nat} {K : List Nat} {i a b : Nat} (h1 : a ≠ ka) (h2 : a ∉ K) : gI g w ka t0 N kr K i a b = g a b := by simp [gI, h1, h2]
theorem gI_in {g : Gc} {w : Wp} {ka t0 N kr : Nat} {K : List Nat} {i a b : Nat} (h1 : a ≠ ka) (h2 : a ∈ K) (h3 : b < i) : gI g w ka t0 N kr K i a b = fin w a b := by simp [gI, h1, h2, h3]
/-- one more object -/
theorem gI_s {g : Gc} {w : Wp} {ka t0 N kr : Nat} {K : List Nat} {i : Nat} {e : va_E} (hk : ka ∉ K) (a b : Nat) : gU (gO (gU (gI g w ka t0 N kr K i) kr i e) w (K.map (fun k => (k, i)))) ka 0 (.inl (wd w t0, N, rfs (va_up (fun j => if j < i then some (wa w kr j) else none) i (some (wa w kr i))))) a b = gI g w ka t0 N kr K (i + 1) a b ∨ (a = kr ∧ b = i ∧ kr ∉ K) := by
  by_cases h1 : a = ka ∧ b = 0
  · obtain ⟨rfl, rfl⟩ := h1
    left
    rw [gU_self, gI_a]
    have e1 : va_up (fun j => if j < i then some (wa w kr j) else none) i (some (wa w kr i)) = (fun j => if j < i + 1 then some (wa w kr j) else none) := by
      funext j
      unfold va_up
      by_cases hj : j = i
      · simp [hj]
      · by_cases hj2 : j < i
        · rw [if_neg hj]; dsimp only; rw [if_pos hj2, if_pos (by omega)]
        · rw [if_neg hj]; dsimp only; rw [if_neg hj2, if_neg (by omega)]
    rw [e1]
  · rw [gU_ne _ _ _ _ h1]
    by_cases h2 : a ∈ K ∧ b = i
    · obtain ⟨h2, rfl⟩ := h2
      left
      rw [gO_in (S := K.map (fun k => (k, b))) (a := a) (b := b) (List.mem_map.mpr ⟨a, h2, rfl⟩), gI_in (fun (h : a = ka) => hk (by rw [← h]; exact h2)) h2 (Nat.lt_succ_self b)]
    · have h3 : (a, b) ∉ K.map (fun k => (k, i)) := fun h => by
        obtain ⟨k, hk', e'⟩ := List.mem_map.mp h
        cases e'
        exact h2 ⟨hk', rfl⟩
      rw [gO_out h3]
      by_cases h4 : a = kr ∧ b = i
      · right
        refine ⟨h4.1, h4.2, fun h => h2 ⟨h4.1 ▸ h, h4.2⟩⟩
      · left
        rw [gU_ne _ _ _ _ h4]
        unfold gI
        rw [if_neg h1, if_neg h1]
        by_cases h5 : a ∈ K ∧ b < i
        · rw [if_pos h5, if_pos ⟨h5.1, by omega⟩]
        · rw [if_neg h5, if_neg (fun h => h5 ⟨h.1, by
            have : b ≠ i := fun e' => h2 ⟨h.1, e'⟩
            omega⟩)]
theorem gI_0' {ks : List (Nat × Nat)} {g : Gc} {w : Wp} {ka t0 N kr : Nat} {K : List Nat} (h : g ka 0 = .inl (wd w t0, N, rfs (fun _ => none))) : ∀ q ∈ ks, g q.1 q.2 = gI g w ka t0 N kr K 0 q.1 q.2 := fun q _ => gI_0 h q.1 q.2
section
variable {x : Ctx} {w : Wp} {cc : ByteArray} {nL lv mc ms : Nat} {own : String} {Q : State → Prop} {ks ks2 : List (Nat × Nat)} {g : Gc} {z c m pc : Nat} {L L' : List (Nat × Value)} {st : List Value}
theorem b_ks (h : ks2 = ks) (hx : VB x w nL Q ks2 g c m pc L st) : VB x w nL Q ks g c m pc L st := by
  rw [← h]; exact hx
theorem b_eqA {g' : Gc} (he : ∀ q ∈ ks, ∀ (a : Nat) (H : Heap), va_at (wD w) vwCl (a, g q.1 q.2) H → va_at (wD w) vwCl (a, g' q.1 q.2) H) (h : VB x w nL Q ks g' c m pc L st) : VB x w nL Q ks g c m pc L st := by
  intro H locs ls hP hD hS hls
  refine h H locs ls (fun i y hy => ?_) (wlG_D hD) hS hls
  unfold wlG at hy
  rw [List.getElem?_map] at hy
  cases hq : ks[i]? with
  | none => rw [hq] at hy; cases hy
  | some q =>
    rw [hq] at hy
    cases hy
    exact he q (List.mem_of_getElem? hq) _ _ (hP i _ (wlG_get (kd := q.1) (n := q.2) hq))
theorem gI_end {ka t0 N kr : Nat} {K : List Nat} (hf : fin w ka 0 = .inl (wd w t0, N, rfs (fun j => some (wa w kr j)))) : ∀ q ∈ ks, ∀ (a : Nat) (H : Heap), va_at (wD w) vwCl (a, gI g w ka t0 N kr K N q.1 q.2) H → va_at (wD w) vwCl (a, gO g w ((ka, 0) :: cellsL K N) q.1 q.2) H := by
  intro q _ a H h
  by_cases h1 : q.1 = ka ∧ q.2 = 0
  · rw [h1.1, h1.2, gI_a] at h
    rw [h1.1, h1.2, gO_in List.mem_cons_self, hf]
    have e : arrV (wd w t0) N (fun j => va_rf (if j < N then some (wa w kr j) else none)) = arrV (wd w t0) N (fun j => va_rf (some (wa w kr j))) := by
      unfold arrV
      congr 2
      funext j
      simp [j.isLt]
    have h' : H[a]? = some (arrV (wd w t0) N (fun j => va_rf (if j < N then some (wa w kr j) else none))) := h
    rw [e] at h'
    exact h'
  · by_cases h2 : q.1 ∈ K ∧ q.2 < N
    · have e1 : gI g w ka t0 N kr K N q.1 q.2 = fin w q.1 q.2 := by simp [gI, h1, h2]
      have e2 : gO g w ((ka, 0) :: cellsL K N) q.1 q.2 = fin w q.1 q.2 := gO_in (List.mem_cons_of_mem _ (cellsL_m.mpr h2))
      rw [e1] at h; rw [e2]; exact h
    · have e1 : gI g w ka t0 N kr K N q.1 q.2 = g q.1 q.2 := by simp [gI, h1, h2]
      have e2 : gO g w ((ka, 0) :: cellsL K N) q.1 q.2 = g q.1 q.2 := gO_out (fun hm => by
        rcases List.mem_cons.mp hm with e | e
        · exact h1 ⟨congrArg Prod.fst e, congrArg Prod.snd e⟩
        · exact h2 (cellsL_m.mp e))
      rw [e1] at h; rw [e2]; exact h
def kF (g : Gc) (kd n N : Nat) : Cl := fun d _ k' n' y _ => if k' = kd ∧ n' = n then .inl (d 0, N, .inl y) else g k' n'
theorem kF_wl {kd n N : Nat} {f : Nat → Int32} {σ : St} (hf : σ.1 kd n = f) : wl (ks, kF g kd n N) w σ = wlG ks w (gU g kd n (.inl (wd w 0, N, .inl f))) := by
  unfold wl wlG kF gU
  apply List.map_congr_left
  intro q _
  by_cases h : q.1 = kd ∧ q.2 = n
  · obtain ⟨h1, h2⟩ := h
    simp [h1, h2, hf]
  · simp [h]
theorem b_fillI (C : CxB x w cc nL own lv mc ms z) {kd n N idx : Nat} {v : Int32} {f : Nat → Int32} (hm : (kd, n) ∈ ks) (he : g kd n = .inl (wd w 0, N, .inl f)) (hN : N < 2147483648) (h1 : Cond.methodLink own idx yJ7_fill_53178 ∈ lw_good) (h2 : Cond.static yJ7_fill_53178 ∈ lw_good) (h4 : Cond.initialized yJ7_fill_53178.cls ∈ lw_good) (h5 : Cond.code yJ7_fill_53178 cJ7_fill_53178 4 none ∈ lw_good) (hlv : 1 ≤ lv) (hcs : c ≤ mc) (hsl : m ≤ ms) (hW : (st.map fun v => v.category).sum ≤ 8) (hd : decode cc pc = .ok (.invokestatic idx, 3)) (h : VB x w nL Q ks (gU g kd n (.inl (wd w 0, N, .inl (fun j => if j < N then v else f j)))) c m (pc + 3) L st) : VB x w nL Q ks g c m pc L (.int v :: .ref (wa w kd n) :: st) := by
  obtain ⟨hx, hb, hml, hown, hts, hlo, hr, hR, hK, hA, hin2, hz0⟩ := C
  intro H locs ls hP hD hS hls
  have eg : wlG ks w (gU g kd n (.inl (wd w 0, N, .inl f))) = wlG ks w g := wlG_congr (fun q _ => by
    by_cases hq : q.1 = kd ∧ q.2 = n
    · rw [hq.1, hq.2, gU_self, he]
    · rw [gU_ne _ _ _ _ hq])
  have e0 : wl (ks, kF g kd n N) w (fun _ _ => f, fun _ => 0) = wlG ks w g := (kF_wl rfl).trans eg
  have hko : Ko ((ks, kF g kd n N) : Wk) := fun i j q hi hj => hD.1 i j _ _ (wlG_get (kd := q.1) (n := q.2) hi) (wlG_get (kd := q.1) (n := q.2) hj) rfl
  have hM := m_fillI (l := xL x) (k := ((ks, kF g kd n N) : Wk)) (w := w) (σ := (fun _ _ => f, fun _ => 0)) (kd := kd) (n := n) (N := N) (v := v) hm (fun f y => by simp [kF]) hN hko
  have run := va_runS (g := F0 (xM x) pc ls (.int v :: .ref (wa w kd n) :: st)) (cells := c) (slots := m) (H := H) (locs := locs) (p := xP x) (e := xE x) (below := xB x) (meth := xT x) (As := [.ref (wa w kd n), .int v]) (rest := st) ⟨hx, hb, hml, hown, hts⟩ hM ⟨callB_of 2 hts (lw_gN h5) rfl rfl rfl (hts _ h4) (hts _ h1) ⟨by decide +kernel, by decide +kernel, by decide +kernel⟩ ⟨by rw [hR.1]; exact hlv, by rw [hR.2.1]; show 8 + (4 + 11) + 40 * 0 ≤ 40 * lv; omega⟩, hts _ h2⟩ ⟨Wd.blind, fun U hU hW1 => ⟨rfl, by rw [hU, e0]; exact hP, hK.1.to hS hU hW1, by rw [e0]; exact hD⟩⟩ rfl rfl hls.1 rfl (lv_room hW) hd ⟨by rw [hR.2.2.1]; exact hcs, by rw [hR.2.2.2]; exact hsl⟩
  intro T hT X
  obtain ⟨v', st₀, t, T', Lo, h0, X', hL, e1, e2, ⟨hv, hp, hz, hk⟩, sq⟩ := run T hT X
  cases hv
  rw [h0] at hz hk
  have e3 : wl (ks, kF g kd n N) w (fillR (fun _ _ => f, fun _ => 0) kd n N v) = wlG ks w (gU g kd n (.inl (wd w 0, N, .inl (fun j => if j < N then v else f j)))) := kF_wl (by unfold fillR; rw [sR_self])
  rw [e3] at hp
  obtain ⟨t2, a1, b1⟩ := h T'.heap (locs ++ Lo) ls (by rw [e1]; exact hp) (wlG_D hD) ⟨Nat.le_trans hS.1 (by rw [e1]; exact hz), fun q h1 h2 => by rw [e1, hk q (Nat.lt_of_lt_of_le h1 hS.1) h2]; exact hS.2.1 q h1 h2, fun q hq => by
      rcases List.mem_append.mp hq with h | h
      · exact hS.2.2 q h
      · exact hL q h⟩ hls T' rfl X'
  exact ⟨t2, sq t2 a1, b1⟩
end

set_option maxHeartbeats 400000 in
set_option maxRecDepth 100000 in
theorem mb_X9_init {l : Launch} {w : Wp} {b : Nat} (n : Nat) {ks : List (Nat × Nat)} {g : Gc} (hw : wa w = adC b) (hm0 : (26, n) ∈ ks) (he0 : g 26 n = .inr (9, [.int 0, .int 0, .int 0, .int 0, .int 0, .null])) : CmB l yX9_init (.code yX9_init cX9_init 1 none) 1 1 5 w [.ref (wa w 26 n)] ks g (b + offC 27 n) (ks ++ [(27, n)]) (gO g w [(26, n), (27, n)]) := by
  refine CmB.of (own := RX9) (by decide +kernel) rfl rfl (Nat.le_of_ble_eq_true rfl) (L := [(0, .ref (wa w 26 n))]) rfl (fun x hl C => ?_)
  subst hl
  refine b_aload_n C dX9_init_0 rfl 0 rfl ?_
  refine b_obj C q_202 q_24 q_25 (by decide) dX9_init_1 ?_
  refine b_aload_n C dX9_init_4 rfl 0 rfl ?_
  refine b_iconst (v := 0) C dX9_init_5 (by decide) ?_
  refine b_put (ty := tyX9 0) C (by simp [hm0]) he0 rfl iwX9 tyX9 tyX9_ok nmX9 0 (by decide) q_206 rfl rfl (by decide +kernel) rfl rfl (Nat.le_of_ble_eq_true rfl) dX9_init_6 ?_
  refine b_aload_n C dX9_init_9 rfl 0 rfl ?_
  refine b_iconst (v := 0) C dX9_init_10 (by decide) ?_
  refine b_put (ty := tyX9 1) C (by simp [hm0]) (gU_self _ _ _ _) rfl iwX9 tyX9 tyX9_ok nmX9 1 (by decide) q_210 rfl rfl (by decide +kernel) rfl rfl (Nat.le_of_ble_eq_true rfl) dX9_init_11 ?_
  refine b_aload_n C dX9_init_14 rfl 0 rfl ?_
  refine b_iconst (v := 0) C dX9_init_15 (by decide) ?_
  refine b_put (ty := tyX9 2) C (by simp [hm0]) (gU_self _ _ _ _) rfl iwX9 tyX9 tyX9_ok nmX9 2 (by decide) q_213 rfl rfl (by decide +kernel) rfl rfl (Nat.le_of_ble_eq_true rfl) dX9_init_16 ?_
  refine b_aload_n C dX9_init_19 rfl 0 rfl ?_
  refine b_iconst (v := 0) C dX9_init_20 (by decide) ?_
  refine b_put (ty := tyX9 3) C (by simp [hm0]) (gU_self _ _ _ _) rfl iwX9 tyX9 tyX9_ok nmX9 3 (by decide) q_217 rfl rfl (by decide +kernel) rfl rfl (Nat.le_of_ble_eq_true rfl) dX9_init_21 ?_
  refine b_aload_n C dX9_init_24 rfl 0 rfl ?_
  refine b_bipush (v := (-9)) C dX9_init_25 (by decide) ?_
  refine b_put (ty := tyX9 4) C (by simp [hm0]) (gU_self _ _ _ _) rfl iwX9 tyX9 tyX9_ok nmX9 4 (by decide) q_222 rfl rfl (by decide +kernel) rfl rfl (Nat.le_of_ble_eq_true rfl) dX9_init_27 ?_
  refine b_aload_n C dX9_init_30 rfl 0 rfl ?_
  refine b_iconst (v := 5) C dX9_init_31 (by decide) ?_
  refine b_newa (atype := .int) (t0 := 0) (N := 5) C 27 n q_54 rfl (fun _ _ h => h) (fun _ => rfl) (by decide) (by decide) (by decide) (adr hw (by simp only [offC] <;> omega)) (Or.inl rfl) (Nat.le_of_ble_eq_true rfl) (Nat.le_of_ble_eq_true rfl) dX9_init_32 ?_
  refine b_put (ty := tyX9 5) C (by simp [hm0]) ((gU_ne _ _ _ _ (fun z => absurd z.1 (by decide))).trans (gU_self _ _ _ _)) rfl iwX9 tyX9 tyX9_ok nmX9 5 (by decide) q_226 rfl rfl (by decide +kernel) rfl rfl (Nat.le_of_ble_eq_true rfl) dX9_init_34 ?_
  refine b_aload_n C dX9_init_37 rfl 0 rfl ?_
  refine b_get C (by simp [hm0]) (gU_self _ _ _ _) rfl iwX9 5 (by decide) q_226 rfl rfl dX9_init_38 ?_
  refine b_bipush (v := (-9)) C dX9_init_41 (by decide) ?_
  refine b_fillI (kd := 27) (n := n) (N := 5) (v := -9) C (by simp) ((gU_ne _ _ _ _ (fun z => absurd z.1 (by decide))).trans (gU_self _ _ _ _)) (by decide) q_203 q_204 q_8 q_205 (by decide) (by decide) (by decide) (Nat.le_of_ble_eq_true rfl) dX9_init_43 ?_
  refine b_eqG (g' := gO g w [(26, n), (27, n)]) (fun q hq => ?_) (b_vret C dX9_init_46)
  obtain ⟨a, b⟩ := q
  dsimp only
  by_cases h0 : a = 26 ∧ b = n
  · obtain ⟨rfl, rfl⟩ := h0
    exact ((gU_ne _ _ _ _ (fun z => absurd z.1 (by decide))).trans (gU_self _ _ _ _)).trans ((clC_26 (wd w) (wa w) b (i0 26) y0).symm.trans (gO_in (w := w) (by simp)).symm)
  by_cases h1 : a = 27 ∧ b = n
  · obtain ⟨rfl, rfl⟩ := h1
    exact (gU_self _ _ _ _).trans ((clC_27 (wd w) (wa w) b (i0 27) y0).symm.trans (gO_in (w := w) (by simp)).symm)
  exact ((gU_ne _ _ _ _ h1).trans ((gU_ne _ _ _ _ h0).trans ((gU_ne _ _ _ _ h1).trans ((gU_ne _ _ _ _ h0).trans ((gU_ne _ _ _ _ h0).trans ((gU_ne _ _ _ _ h0).trans ((gU_ne _ _ _ _ h0).trans ((gU_ne _ _ _ _ h0).trans (rfl))))))))).trans (gO_out (w := w) (by simp only [List.mem_cons, Prod.mk.injEq, List.not_mem_nil, or_false, not_or]; exact ⟨h0, h1⟩)).symm

set_option maxHeartbeats 1000000 in
set_option maxRecDepth 100000 in
theorem lp_X6_init_35 {x : Ctx} {w : Wp} {b z c0 m0 : Nat} {Q : State → Prop} {ks : List (Nat × Nat)} {g : Gc} {fs : List Value} (hw : wa w = adC b) (C : CxB x w cX6_init 3 RX6 2 41 200 z) (hself : (4, 0) ∈ ks) (hes : g 4 0 = .inr (6, fs)) (hfa : fs[0]? = some (.ref (wa w 17 0))) (harr : (17, 0) ∈ ks) (hea : g 17 0 = .inl (wd w 7, 40, rfs (fun _ => none))) (hz : b + offC 28 0 = z + c0) (hlow : ∃ q ∈ ks, wa w q.1 q.2 + 1 = z + c0) (hcs : c0 + 40 ≤ 41) (hsl : m0 + 160 ≤ 200)
    (h : VB x w 3 Q (ks ++ cellsL [28] 40) (gO g w ((17, 0) :: cellsL [28] 40)) (c0 + 40) (m0 + 160) 60 [(0, .ref (wa w 4 0)), (1, .ref (wa w 3 0)), (2, .int (nI 40))] []) : VB x w 3 Q ks g c0 m0 35 [(0, .ref (wa w 4 0)), (1, .ref (wa w 3 0)), (2, .int 0)] [] := by
  have key : ∀ (r i : Nat), i + r = 40 → VB x w 3 Q (ks ++ cellsL [28] i) (gI g w 17 7 40 28 [28] i) (c0 + 1 * i) (m0 + 4 * i) 35 [(0, .ref (wa w 4 0)), (1, .ref (wa w 3 0)), (2, .int (nI i))] [] := by
    intro r
    induction r with
    | zero =>
      intro i hi
      have e : i = 40 := by omega
      subst e
      refine b_iload_n C dX6_init_35 rfl 2 rfl ?_
      refine b_bipush (v := 40) C dX6_init_36 (by decide) ?_
      refine b_icmp_ge (tgt := 60) C dX6_init_38 (by decide) (fun _ => b_eqA (gI_end rfl) h) (fun q => absurd (by decide) q)
    | succ r ih =>
      intro i hi
      refine b_iload_n C dX6_init_35 rfl 2 rfl ?_
      refine b_bipush (v := 40) C dX6_init_36 (by decide) ?_
      refine b_icmp_ge (tgt := 60) C dX6_init_38 (by decide) (fun q => absurd q (nI_ge (b := 40) (by omega) (by decide))) (fun _ => ?_)
      refine b_aload_n C dX6_init_41 rfl 0 rfl ?_
      refine b_get C (List.mem_append_left _ hself) ((gI_o (by decide) (by decide)).trans hes) rfl iwX6 0 (by decide) q_312 rfl hfa dX6_init_42 ?_
      refine b_iload_n C dX6_init_45 rfl 2 rfl ?_
      have hl0 : c0 + 1 * i = 0 ∨ ∃ q ∈ ks ++ cellsL [28] i, wa w q.1 q.2 + 1 = z + (c0 + 1 * i) := by
        right
        cases i with
        | zero => obtain ⟨q, hq, e⟩ := hlow; exact ⟨q, List.mem_append_left _ hq, by omega⟩
        | succ j => exact ⟨(28, j), List.mem_append_right _ (cellsL_m.mpr ⟨by decide, by omega⟩), lowp hw (by simp only [offC] at hz ⊢; omega)⟩
      refine b_new (ci := 5) (fs := [.int 0, .int 0, .int 0, .int 0]) C 28 i q_287 q_289 q_10 iwX5 tyX5 tyX5_ok rfl (fun j hj => by rcases (show j = 0 ∨ j = 1 ∨ j = 2 ∨ j = 3 by omega) with rfl | rfl | rfl | rfl <;> rfl) (adr hw (by simp only [offC] at hz ⊢; omega)) hl0 (by omega) (by omega) dX6_init_46 ?_
      refine b_dup C dX6_init_49 rfl ?_
      refine b_callI (n := 0) (rest := [.ref (wa w 28 i), .int (nI i), .ref (wa w 17 0)]) C (mb_X5_init i hw (by simp) (gU_self _ _ _ _)) (Or.inr C.2.2.2.2.2.2.2.2.1.2.2.2.2.2.1) q_291 q_10 q_292 ⟨by decide +kernel, by decide +kernel, by decide +kernel⟩ rfl rfl (by decide) (by decide) rfl (Or.inr ⟨(28, i), by simp, lowp hw (by simp only [offC] at hz ⊢; omega)⟩) (by omega) (by omega) rfl (Nat.le_of_ble_eq_true rfl) dX6_init_50 ?_
      have hin : inb (nI i) 40 = true := by
        have h0 : ¬ nI i < 0 := nI_pos (by omega)
        have hc : (nI i).toNatClampNeg = i := nI_clamp (by omega)
        simp only [inb, hc, Bool.and_eq_true, decide_eq_true_eq]
        exact ⟨h0, by omega⟩
      refine b_aast (ka := 17) (na := 0) (kd := 28) (n := i) (t0 := 7) (r := (RX5, TX5, 4)) C (by simp [harr]) (by simp) ((gO_out (by simp)).trans ((gU_ne _ _ _ _ (fun z => absurd z.1 (by decide))).trans gI_a)) ((gO_in (by simp)).trans (clC_28 (wd w) (wa w) i (i0 28) y0)) rfl rfl hin dX6_init_53 ?_
      rw [show (nI i).toNatClampNeg = i from nI_clamp (by omega)]
      refine b_iinc (v := nI (i + 1)) C dX6_init_54 (j := 2) rfl (nI_1 i) (by decide) (L' := [(2, _), (0, _), (1, _)]) rfl ?_
      refine b_goto (tgt := 35) C dX6_init_57 (by decide) ?_
      refine b_sub [1, 2, 0] rfl ?_
      have hx := ih (i + 1) (by omega)
      rw [cellsL_s] at hx
      have e1 : c0 + 1 * (i + 1) = c0 + 1 * i + 1 + 0 := by omega
      have e2 : m0 + 4 * (i + 1) = m0 + 4 * i + 4 + 0 := by omega
      rw [e1, e2] at hx
      refine b_eqG (fun q hq => ?_) (b_ks (by simp) hx)
      rcases gI_s (g := g) (w := w) (ka := 17) (t0 := 7) (N := 40) (kr := 28) (K := [28]) (i := i) (e := .inr (5, [.int 0, .int 0, .int 0, .int 0])) (by decide) q.1 q.2 with hq1 | hq1
      · exact hq1
      · exact absurd (by decide) hq1.2.2
  refine b_eqG (gI_0' (kr := 28) (K := [28]) hea) ?_
  have hx := key 40 0 (by decide)
  simpa [cellsL, nI_0] using hx
set_option maxHeartbeats 400000 in
set_option maxRecDepth 100000 in
theorem mb_X6_init {l : Launch} {w : Wp} {b : Nat} {ks : List (Nat × Nat)} {g : Gc} (hw : wa w = adC b) (hm0 : (4, 0) ∈ ks) (he0 : g 4 0 = .inr (6, [.null, .int 0, .int 0, .int 0, .null])) : CmB l yX6_init (.code yX6_init cX6_init 3 none) 2 41 200 w [.ref (wa w 4 0), .ref (wa w 3 0)] ks g (b + offC 17 0) (ks ++ [(17, 0)] ++ cellsL [28] 40) (gO g w ([(4, 0)] ++ ((17, 0) :: cellsL [28] 40))) := by
  refine CmB.of (own := RX6) (by decide +kernel) rfl rfl (Nat.le_of_ble_eq_true rfl) (L := [(0, .ref (wa w 4 0)), (1, .ref (wa w 3 0))]) rfl (fun x hl C => ?_)
  subst hl
  refine b_aload_n C dX6_init_0 rfl 0 rfl ?_
  refine b_obj C q_286 q_24 q_25 (by decide) dX6_init_1 ?_
  refine b_aload_n C dX6_init_4 rfl 0 rfl ?_
  refine b_bipush (v := 40) C dX6_init_5 (by decide) ?_
  refine b_anew (t0 := 7) (N := 40) C 17 0 q_287 C.2.2.2.2.2.2.2.2.1.2.2.2.2.2.2.2.2.1.2.2.2.2 rfl (by decide) (by decide) (by decide) (adr hw (by simp only [offC] <;> omega)) (Or.inl rfl) (Nat.le_of_ble_eq_true rfl) (Nat.le_of_ble_eq_true rfl) dX6_init_7 ?_
  refine b_put (ty := tyX6 0) C (by simp [hm0]) ((gU_ne _ _ _ _ (fun z => absurd z.1 (by decide))).trans he0) rfl iwX6 tyX6 tyX6_ok nmX6 0 (by decide) q_312 rfl rfl (by decide +kernel) rfl rfl (Nat.le_of_ble_eq_true rfl) dX6_init_10 ?_
  refine b_aload_n C dX6_init_13 rfl 0 rfl ?_
  refine b_iconst (v := 0) C dX6_init_14 (by decide) ?_
  refine b_put (ty := tyX6 1) C (by simp [hm0]) (gU_self _ _ _ _) rfl iwX6 tyX6 tyX6_ok nmX6 1 (by decide) q_314 rfl rfl (by decide +kernel) rfl rfl (Nat.le_of_ble_eq_true rfl) dX6_init_15 ?_
  refine b_aload_n C dX6_init_18 rfl 0 rfl ?_
  refine b_iconst (v := 0) C dX6_init_19 (by decide) ?_
  refine b_put (ty := tyX6 2) C (by simp [hm0]) (gU_self _ _ _ _) rfl iwX6 tyX6 tyX6_ok nmX6 2 (by decide) q_316 rfl rfl (by decide +kernel) rfl rfl (Nat.le_of_ble_eq_true rfl) dX6_init_20 ?_
  refine b_aload_n C dX6_init_23 rfl 0 rfl ?_
  refine b_iconst (v := 0) C dX6_init_24 (by decide) ?_
  refine b_put (ty := tyX6 3) C (by simp [hm0]) (gU_self _ _ _ _) rfl iwX6 tyX6 tyX6_ok nmX6 3 (by decide) q_318 rfl rfl (by decide +kernel) rfl rfl (Nat.le_of_ble_eq_true rfl) dX6_init_25 ?_
  refine b_aload_n C dX6_init_28 rfl 0 rfl ?_
  refine b_aload_n C dX6_init_29 rfl 1 rfl ?_
  refine b_put (ty := tyX6 4) C (by simp [hm0]) (gU_self _ _ _ _) rfl iwX6 tyX6 tyX6_ok nmX6 4 (by decide) q_320 rfl rfl (by decide +kernel) rfl rfl (Nat.le_of_ble_eq_true rfl) dX6_init_30 ?_
  refine b_iconst (v := 0) C dX6_init_33 (by decide) ?_
  refine b_istore_n C dX6_init_34 rfl (by decide) (L' := [(2, _), (0, _), (1, _)]) rfl ?_
  refine b_sub [1, 2, 0] rfl ?_
  refine lp_X6_init_35 hw C (by simp [hm0]) (gU_self _ _ _ _) rfl (by simp) ((gU_ne _ _ _ _ (fun z => absurd z.1 (by decide))).trans ((gU_ne _ _ _ _ (fun z => absurd z.1 (by decide))).trans ((gU_ne _ _ _ _ (fun z => absurd z.1 (by decide))).trans ((gU_ne _ _ _ _ (fun z => absurd z.1 (by decide))).trans ((gU_ne _ _ _ _ (fun z => absurd z.1 (by decide))).trans (gU_self _ _ _ _)))))) (by simp only [offC] <;> omega) ⟨(17, 0), by simp, lowp hw (by simp only [offC] <;> omega)⟩ (by decide) (by decide) ?_
  refine b_eqG (g' := gO g w ([(4, 0)] ++ ((17, 0) :: cellsL [28] 40))) (fun q hq => ?_) (b_vret C dX6_init_60)
  obtain ⟨a, b⟩ := q
  dsimp only
  by_cases hL0 : (a, b) ∈ ((17, 0) :: cellsL [28] 40)
  · exact (gO_in hL0).trans (gO_in (w := w) (List.mem_append_right _ hL0)).symm
  by_cases h0 : a = 4 ∧ b = 0
  · obtain ⟨rfl, rfl⟩ := h0
    exact ((gO_out hL0).trans ((gU_self _ _ _ _))).trans ((clC_4 (wd w) (wa w) 0 (i0 4) y0).symm.trans (gO_in (w := w) (List.mem_append_left _ (by simp))).symm)
  have hno : (a, b) ∉ [(4, 0)] ++ ((17, 0) :: cellsL [28] 40) := by
    intro hm
    rcases List.mem_append.mp hm with hm | hm
    rotate_left
    · exact hL0 hm
    simp only [List.mem_cons, Prod.mk.injEq, List.not_mem_nil, or_false] at hm
    rcases hm with hm
    · exact h0 hm
  exact ((gO_out hL0).trans ((gU_ne _ _ _ _ h0).trans ((gU_ne _ _ _ _ h0).trans ((gU_ne _ _ _ _ h0).trans ((gU_ne _ _ _ _ h0).trans ((gU_ne _ _ _ _ h0).trans ((gU_ne _ _ _ _ (fun z => hL0 (by rw [z.1, z.2]; exact List.mem_cons_self))).trans (rfl)))))))).trans (gO_out (w := w) hno).symm
set_option maxHeartbeats 1000000 in
set_option maxRecDepth 100000 in
theorem lp_X1_init_73 {x : Ctx} {w : Wp} {b z c0 m0 : Nat} {Q : State → Prop} {ks : List (Nat × Nat)} {g : Gc} {fs : List Value} (hw : wa w = adC b) (C : CxB x w cX1_init 2 RX1 3 90 3686 z) (hself : (3, 0) ∈ ks) (hes : g 3 0 = .inr (1, fs)) (hfa : fs[4]? = some (.ref (wa w 15 0))) (harr : (15, 0) ∈ ks) (hea : g 15 0 = .inl (wd w 5, 8, rfs (fun _ => none))) (hz : b + offC 22 0 = z + c0) (hlow : ∃ q ∈ ks, wa w q.1 q.2 + 1 = z + c0) (hcs : c0 + 32 ≤ 90) (hsl : m0 + 2144 ≤ 3686)
    (h : VB x w 2 Q (ks ++ cellsL [22, 23, 24, 25] 8) (gO g w ((15, 0) :: cellsL [22, 23, 24, 25] 8)) (c0 + 32) (m0 + 2144) 98 [(0, .ref (wa w 3 0)), (1, .int (nI 8))] []) : VB x w 2 Q ks g c0 m0 73 [(0, .ref (wa w 3 0)), (1, .int 0)] [] := by
  have key : ∀ (r i : Nat), i + r = 8 → VB x w 2 Q (ks ++ cellsL [22, 23, 24, 25] i) (gI g w 15 5 8 22 [22, 23, 24, 25] i) (c0 + 4 * i) (m0 + 268 * i) 73 [(0, .ref (wa w 3 0)), (1, .int (nI i))] [] := by
    intro r
    induction r with
    | zero =>
      intro i hi
      have e : i = 8 := by omega
      subst e
      refine b_iload_n C dX1_init_73 rfl 1 rfl ?_
      refine b_bipush (v := 8) C dX1_init_74 (by decide) ?_
      refine b_icmp_ge (tgt := 98) C dX1_init_76 (by decide) (fun _ => b_eqA (gI_end rfl) h) (fun q => absurd (by decide) q)
    | succ r ih =>
      intro i hi
      refine b_iload_n C dX1_init_73 rfl 1 rfl ?_
      refine b_bipush (v := 8) C dX1_init_74 (by decide) ?_
      refine b_icmp_ge (tgt := 98) C dX1_init_76 (by decide) (fun q => absurd q (nI_ge (b := 8) (by omega) (by decide))) (fun _ => ?_)
      refine b_aload_n C dX1_init_79 rfl 0 rfl ?_
      refine b_get C (List.mem_append_left _ hself) ((gI_o (by decide) (by decide)).trans hes) rfl iwX1 4 (by decide) q_253 rfl hfa dX1_init_80 ?_
      refine b_iload_n C dX1_init_83 rfl 1 rfl ?_
      have hl0 : c0 + 4 * i = 0 ∨ ∃ q ∈ ks ++ cellsL [22, 23, 24, 25] i, wa w q.1 q.2 + 1 = z + (c0 + 4 * i) := by
        right
        cases i with
        | zero => obtain ⟨q, hq, e⟩ := hlow; exact ⟨q, List.mem_append_left _ hq, by omega⟩
        | succ j => exact ⟨(25, j), List.mem_append_right _ (cellsL_m.mpr ⟨by decide, by omega⟩), lowp hw (by simp only [offC] at hz ⊢; omega)⟩
      refine b_new (ci := 3) (fs := [.int 0, .int 0, .int 0, .int 0, .null, .int 0, .null]) C 22 i q_108 q_112 q_5 iwX3 tyX3 tyX3_ok rfl (fun j hj => by rcases (show j = 0 ∨ j = 1 ∨ j = 2 ∨ j = 3 ∨ j = 4 ∨ j = 5 ∨ j = 6 by omega) with rfl | rfl | rfl | rfl | rfl | rfl | rfl <;> rfl) (adr hw (by simp only [offC] at hz ⊢; omega)) hl0 (by omega) (by omega) dX1_init_84 ?_
      refine b_dup C dX1_init_87 rfl ?_
      refine b_callI (n := 0) (rest := [.ref (wa w 22 i), .int (nI i), .ref (wa w 15 0)]) C (mb_X3_init i hw (by simp) (gU_self _ _ _ _)) (Or.inr C.2.2.2.2.2.2.2.2.1.2.2.2.1) q_114 q_5 q_115 ⟨by decide +kernel, by decide +kernel, by decide +kernel⟩ rfl rfl (by decide) (by decide) (by simp only [offC] at hz ⊢; omega) (Or.inr ⟨(22, i), by simp, lowp hw (by simp only [offC] at hz ⊢; omega)⟩) (by omega) (by omega) rfl (Nat.le_of_ble_eq_true rfl) dX1_init_88 ?_
      have hin : inb (nI i) 8 = true := by
        have h0 : ¬ nI i < 0 := nI_pos (by omega)
        have hc : (nI i).toNatClampNeg = i := nI_clamp (by omega)
        simp only [inb, hc, Bool.and_eq_true, decide_eq_true_eq]
        exact ⟨h0, by omega⟩
      refine b_aast (ka := 15) (na := 0) (kd := 22) (n := i) (t0 := 5) (r := (RX3, TX3, 7)) C (by simp [harr]) (by simp) ((gO_out (by simp)).trans ((gU_ne _ _ _ _ (fun z => absurd z.1 (by decide))).trans gI_a)) ((gO_in (by simp)).trans (clC_22 (wd w) (wa w) i (i0 22) y0)) rfl rfl hin dX1_init_91 ?_
      rw [show (nI i).toNatClampNeg = i from nI_clamp (by omega)]
      refine b_iinc (v := nI (i + 1)) C dX1_init_92 (j := 1) rfl (nI_1 i) (by decide) (L' := [(1, _), (0, _)]) rfl ?_
      refine b_goto (tgt := 73) C dX1_init_95 (by decide) ?_
      refine b_sub [1, 0] rfl ?_
      have hx := ih (i + 1) (by omega)
      rw [cellsL_s] at hx
      have e1 : c0 + 4 * (i + 1) = c0 + 4 * i + 1 + 3 := by omega
      have e2 : m0 + 268 * (i + 1) = m0 + 268 * i + 7 + 261 := by omega
      rw [e1, e2] at hx
      refine b_eqG (fun q hq => ?_) (b_ks (by simp) hx)
      rcases gI_s (g := g) (w := w) (ka := 15) (t0 := 5) (N := 8) (kr := 22) (K := [22, 23, 24, 25]) (i := i) (e := .inr (3, [.int 0, .int 0, .int 0, .int 0, .null, .int 0, .null])) (by decide) q.1 q.2 with hq1 | hq1
      · exact hq1
      · exact absurd (by decide) hq1.2.2
  refine b_eqG (gI_0' (kr := 22) (K := [22, 23, 24, 25]) hea) ?_
  have hx := key 8 0 (by decide)
  simpa [cellsL, nI_0] using hx
set_option maxHeartbeats 1000000 in
set_option maxRecDepth 100000 in
theorem lp_X1_init_100 {x : Ctx} {w : Wp} {b z c0 m0 : Nat} {Q : State → Prop} {ks : List (Nat × Nat)} {g : Gc} {fs : List Value} (hw : wa w = adC b) (C : CxB x w cX1_init 2 RX1 3 90 3686 z) (hself : (3, 0) ∈ ks) (hes : g 3 0 = .inr (1, fs)) (hfa : fs[6]? = some (.ref (wa w 16 0))) (harr : (16, 0) ∈ ks) (hea : g 16 0 = .inl (wd w 6, 24, rfs (fun _ => none))) (hz : b + offC 26 0 = z + c0) (hlow : ∃ q ∈ ks, wa w q.1 q.2 + 1 = z + c0) (hcs : c0 + 48 ≤ 90) (hsl : m0 + 264 ≤ 3686)
    (h : VB x w 2 Q (ks ++ cellsL [26, 27] 24) (gO g w ((16, 0) :: cellsL [26, 27] 24)) (c0 + 48) (m0 + 264) 125 [(0, .ref (wa w 3 0)), (1, .int (nI 24))] []) : VB x w 2 Q ks g c0 m0 100 [(0, .ref (wa w 3 0)), (1, .int 0)] [] := by
  have key : ∀ (r i : Nat), i + r = 24 → VB x w 2 Q (ks ++ cellsL [26, 27] i) (gI g w 16 6 24 26 [26, 27] i) (c0 + 2 * i) (m0 + 11 * i) 100 [(0, .ref (wa w 3 0)), (1, .int (nI i))] [] := by
    intro r
    induction r with
    | zero =>
      intro i hi
      have e : i = 24 := by omega
      subst e
      refine b_iload_n C dX1_init_100 rfl 1 rfl ?_
      refine b_bipush (v := 24) C dX1_init_101 (by decide) ?_
      refine b_icmp_ge (tgt := 125) C dX1_init_103 (by decide) (fun _ => b_eqA (gI_end rfl) h) (fun q => absurd (by decide) q)
    | succ r ih =>
      intro i hi
      refine b_iload_n C dX1_init_100 rfl 1 rfl ?_
      refine b_bipush (v := 24) C dX1_init_101 (by decide) ?_
      refine b_icmp_ge (tgt := 125) C dX1_init_103 (by decide) (fun q => absurd q (nI_ge (b := 24) (by omega) (by decide))) (fun _ => ?_)
      refine b_aload_n C dX1_init_106 rfl 0 rfl ?_
      refine b_get C (List.mem_append_left _ hself) ((gI_o (by decide) (by decide)).trans hes) rfl iwX1 6 (by decide) q_258 rfl hfa dX1_init_107 ?_
      refine b_iload_n C dX1_init_110 rfl 1 rfl ?_
      have hl0 : c0 + 2 * i = 0 ∨ ∃ q ∈ ks ++ cellsL [26, 27] i, wa w q.1 q.2 + 1 = z + (c0 + 2 * i) := by
        right
        cases i with
        | zero => obtain ⟨q, hq, e⟩ := hlow; exact ⟨q, List.mem_append_left _ hq, by omega⟩
        | succ j => exact ⟨(27, j), List.mem_append_right _ (cellsL_m.mpr ⟨by decide, by omega⟩), lowp hw (by simp only [offC] at hz ⊢; omega)⟩
      refine b_new (ci := 9) (fs := [.int 0, .int 0, .int 0, .int 0, .int 0, .null]) C 26 i q_110 q_198 q_7 iwX9 tyX9 tyX9_ok rfl (fun j hj => by rcases (show j = 0 ∨ j = 1 ∨ j = 2 ∨ j = 3 ∨ j = 4 ∨ j = 5 by omega) with rfl | rfl | rfl | rfl | rfl | rfl <;> rfl) (adr hw (by simp only [offC] at hz ⊢; omega)) hl0 (by omega) (by omega) dX1_init_111 ?_
      refine b_dup C dX1_init_114 rfl ?_
      refine b_callI (n := 0) (rest := [.ref (wa w 26 i), .int (nI i), .ref (wa w 16 0)]) C (mb_X9_init i hw (by simp) (gU_self _ _ _ _)) (Or.inl q_199) q_200 q_7 q_201 ⟨by decide +kernel, by decide +kernel, by decide +kernel⟩ rfl rfl (by decide) (by decide) (by simp only [offC] at hz ⊢; omega) (Or.inr ⟨(26, i), by simp, lowp hw (by simp only [offC] at hz ⊢; omega)⟩) (by omega) (by omega) rfl (Nat.le_of_ble_eq_true rfl) dX1_init_115 ?_
      have hin : inb (nI i) 24 = true := by
        have h0 : ¬ nI i < 0 := nI_pos (by omega)
        have hc : (nI i).toNatClampNeg = i := nI_clamp (by omega)
        simp only [inb, hc, Bool.and_eq_true, decide_eq_true_eq]
        exact ⟨h0, by omega⟩
      refine b_aast (ka := 16) (na := 0) (kd := 26) (n := i) (t0 := 6) (r := (RX9, TX9, 6)) C (by simp [harr]) (by simp) ((gO_out (by simp)).trans ((gU_ne _ _ _ _ (fun z => absurd z.1 (by decide))).trans gI_a)) ((gO_in (by simp)).trans (clC_26 (wd w) (wa w) i (i0 26) y0)) rfl rfl hin dX1_init_118 ?_
      rw [show (nI i).toNatClampNeg = i from nI_clamp (by omega)]
      refine b_iinc (v := nI (i + 1)) C dX1_init_119 (j := 1) rfl (nI_1 i) (by decide) (L' := [(1, _), (0, _)]) rfl ?_
      refine b_goto (tgt := 100) C dX1_init_122 (by decide) ?_
      refine b_sub [1, 0] rfl ?_
      have hx := ih (i + 1) (by omega)
      rw [cellsL_s] at hx
      have e1 : c0 + 2 * (i + 1) = c0 + 2 * i + 1 + 1 := by omega
      have e2 : m0 + 11 * (i + 1) = m0 + 11 * i + 6 + 5 := by omega
      rw [e1, e2] at hx
      refine b_eqG (fun q hq => ?_) (b_ks (by simp) hx)
      rcases gI_s (g := g) (w := w) (ka := 16) (t0 := 6) (N := 24) (kr := 26) (K := [26, 27]) (i := i) (e := .inr (9, [.int 0, .int 0, .int 0, .int 0, .int 0, .null])) (by decide) q.1 q.2 with hq1 | hq1
      · exact hq1
      · exact absurd (by decide) hq1.2.2
  refine b_eqG (gI_0' (kr := 26) (K := [26, 27]) hea) ?_
  have hx := key 24 0 (by decide)
  simpa [cellsL, nI_0] using hx
set_option maxHeartbeats 1000000 in
set_option maxRecDepth 100000 in
theorem mb_X1_init {l : Launch} {w : Wp} {b : Nat} {ks : List (Nat × Nat)} {g : Gc} (hw : wa w = adC b) (hm0 : (3, 0) ∈ ks) (he0 : g 3 0 = .inr (1, [.null, .null, .null, .int 0, .null, .int 0, .null, .int 0])) : CmB l yX1_init (.code yX1_init cX1_init 2 none) 3 90 3686 w [.ref (wa w 3 0)] ks g (b + offC 7 0) (ks ++ [(7, 0)] ++ [(8, 0)] ++ [(9, 0)] ++ [(10, 0)] ++ [(11, 0)] ++ [(12, 0)] ++ [(13, 0)] ++ [(14, 0)] ++ [(15, 0)] ++ [(16, 0)] ++ cellsL [22, 23, 24, 25] 8 ++ cellsL [26, 27] 24) (gO g w ([(3, 0), (7, 0), (8, 0), (9, 0), (10, 0), (11, 0), (12, 0), (13, 0), (14, 0)] ++ ((16, 0) :: cellsL [26, 27] 24) ++ ((15, 0) :: cellsL [22, 23, 24, 25] 8))) := by
  refine CmB.of (own := RX1) (by decide +kernel) rfl rfl (Nat.le_of_ble_eq_true rfl) (L := [(0, .ref (wa w 3 0))]) rfl (fun x hl C => ?_)
  subst hl
  refine b_aload_n C dX1_init_0 rfl 0 rfl ?_
  refine b_obj C q_35 q_24 q_25 (by decide) dX1_init_1 ?_
  refine b_aload_n C dX1_init_4 rfl 0 rfl ?_
  refine b_new (ci := 8) (fs := [.null, .null]) C 7 0 q_36 q_37 q_3 iwX8 tyX8 tyX8_ok rfl (fun j hj => by rcases (show j = 0 ∨ j = 1 by omega) with rfl | rfl <;> rfl) (adr hw (by simp only [offC] <;> omega)) (Or.inl rfl) (Nat.le_of_ble_eq_true rfl) (Nat.le_of_ble_eq_true rfl) dX1_init_5 ?_
  refine b_dup C dX1_init_8 rfl ?_
  refine b_callI (n := 0) (rest := [.ref (wa w 7 0), .ref (wa w 3 0)]) C (mb_X8_init hw (by simp [hm0, cellsL_m]) (gU_self _ _ _ _)) (Or.inl q_38) q_39 q_3 q_40 ⟨by decide +kernel, by decide +kernel, by decide +kernel⟩ rfl rfl (by decide) (by decide) (by simp only [offC] <;> omega) (Or.inr ⟨(7, 0), by simp [cellsL_m], lowp hw (by simp only [offC] <;> omega)⟩) (Nat.le_of_ble_eq_true rfl) (Nat.le_of_ble_eq_true rfl) rfl (Nat.le_of_ble_eq_true rfl) dX1_init_9 ?_
  refine b_put (ty := tyX1 0) C (by simp [hm0, cellsL_m]) ((gO_out (by simp)).trans ((gU_ne _ _ _ _ (fun z => absurd z.1 (by decide))).trans he0)) rfl iwX1 tyX1 tyX1_ok nmX1 0 (by decide) q_242 rfl rfl (by decide +kernel) rfl rfl (Nat.le_of_ble_eq_true rfl) dX1_init_12 ?_
  refine b_aload_n C dX1_init_15 rfl 0 rfl ?_
  refine b_new (ci := 0) (fs := [.int 0, .int 0, .int 0, .null, .int 0, .int 0, .int 0, .int 0, .int 0, .null, .null, .null]) C 10 0 q_55 q_56 q_4 iwX0 tyX0 tyX0_ok rfl (fun j hj => by rcases (show j = 0 ∨ j = 1 ∨ j = 2 ∨ j = 3 ∨ j = 4 ∨ j = 5 ∨ j = 6 ∨ j = 7 ∨ j = 8 ∨ j = 9 ∨ j = 10 ∨ j = 11 by omega) with rfl | rfl | rfl | rfl | rfl | rfl | rfl | rfl | rfl | rfl | rfl | rfl <;> rfl) (adr hw (by simp only [offC] <;> omega)) (Or.inr ⟨(9, 0), by simp [cellsL_m], lowp hw (by simp only [offC] <;> omega)⟩) (Nat.le_of_ble_eq_true rfl) (Nat.le_of_ble_eq_true rfl) dX1_init_16 ?_
  refine b_dup C dX1_init_19 rfl ?_
  refine b_aload_n C dX1_init_20 rfl 0 rfl ?_
  refine b_get C (by simp [hm0, cellsL_m]) ((gU_ne _ _ _ _ (fun z => absurd z.1 (by decide))).trans (gU_self _ _ _ _)) rfl iwX1 0 (by decide) q_242 rfl rfl dX1_init_21 ?_
  refine b_callI (n := 1) (rest := [.ref (wa w 10 0), .ref (wa w 3 0)]) C (mb_X0_init hw (by simp [hm0, cellsL_m]) (gU_self _ _ _ _)) (Or.inl q_57) q_58 q_4 q_59 ⟨by decide +kernel, by decide +kernel, by decide +kernel⟩ rfl rfl (by decide) (by decide) (by simp only [offC] <;> omega) (Or.inr ⟨(10, 0), by simp [cellsL_m], lowp hw (by simp only [offC] <;> omega)⟩) (Nat.le_of_ble_eq_true rfl) (Nat.le_of_ble_eq_true rfl) rfl (Nat.le_of_ble_eq_true rfl) dX1_init_24 ?_
  refine b_put (ty := tyX1 1) C (by simp [hm0, cellsL_m]) ((gO_out (by simp)).trans ((gU_ne _ _ _ _ (fun z => absurd z.1 (by decide))).trans (gU_self _ _ _ _))) rfl iwX1 tyX1 tyX1_ok nmX1 1 (by decide) q_246 rfl rfl (by decide +kernel) rfl rfl (Nat.le_of_ble_eq_true rfl) dX1_init_27 ?_
  refine b_aload_n C dX1_init_30 rfl 0 rfl ?_
  refine b_bipush (v := 12) C dX1_init_31 (by decide) ?_
  refine b_newa (atype := .int) (t0 := 0) (N := 12) C 14 0 q_54 rfl (fun _ _ h => h) (fun _ => rfl) (by decide) (by decide) (by decide) (adr hw (by simp only [offC] <;> omega)) (Or.inr ⟨(13, 0), by simp [cellsL_m], lowp hw (by simp only [offC] <;> omega)⟩) (Nat.le_of_ble_eq_true rfl) (Nat.le_of_ble_eq_true rfl) dX1_init_33 ?_
  refine b_put (ty := tyX1 2) C (by simp [hm0, cellsL_m]) ((gU_ne _ _ _ _ (fun z => absurd z.1 (by decide))).trans (gU_self _ _ _ _)) rfl iwX1 tyX1 tyX1_ok nmX1 2 (by decide) q_249 rfl rfl (by decide +kernel) rfl rfl (Nat.le_of_ble_eq_true rfl) dX1_init_35 ?_
  refine b_aload_n C dX1_init_38 rfl 0 rfl ?_
  refine b_iconst (v := 0) C dX1_init_39 (by decide) ?_
  refine b_put (ty := tyX1 3) C (by simp [hm0, cellsL_m]) (gU_self _ _ _ _) rfl iwX1 tyX1 tyX1_ok nmX1 3 (by decide) q_251 rfl rfl (by decide +kernel) rfl rfl (Nat.le_of_ble_eq_true rfl) dX1_init_40 ?_
  refine b_aload_n C dX1_init_43 rfl 0 rfl ?_
  refine b_bipush (v := 8) C dX1_init_44 (by decide) ?_
  refine b_anew (t0 := 5) (N := 8) C 15 0 q_108 C.2.2.2.2.2.2.2.2.1.2.2.2.2.2.2.2.2.1.2.2.1 rfl (by decide) (by decide) (by decide) (adr hw (by simp only [offC] <;> omega)) (Or.inr ⟨(14, 0), by simp [cellsL_m], lowp hw (by simp only [offC] <;> omega)⟩) (Nat.le_of_ble_eq_true rfl) (Nat.le_of_ble_eq_true rfl) dX1_init_46 ?_
  refine b_put (ty := tyX1 4) C (by simp [hm0, cellsL_m]) ((gU_ne _ _ _ _ (fun z => absurd z.1 (by decide))).trans (gU_self _ _ _ _)) rfl iwX1 tyX1 tyX1_ok nmX1 4 (by decide) q_253 rfl rfl (by decide +kernel) rfl rfl (Nat.le_of_ble_eq_true rfl) dX1_init_49 ?_
  refine b_aload_n C dX1_init_52 rfl 0 rfl ?_
  refine b_iconst (v := 0) C dX1_init_53 (by decide) ?_
  refine b_put (ty := tyX1 5) C (by simp [hm0, cellsL_m]) (gU_self _ _ _ _) rfl iwX1 tyX1 tyX1_ok nmX1 5 (by decide) q_255 rfl rfl (by decide +kernel) rfl rfl (Nat.le_of_ble_eq_true rfl) dX1_init_54 ?_
  refine b_aload_n C dX1_init_57 rfl 0 rfl ?_
  refine b_bipush (v := 24) C dX1_init_58 (by decide) ?_
  refine b_anew (t0 := 6) (N := 24) C 16 0 q_110 C.2.2.2.2.2.2.2.2.1.2.2.2.2.2.2.2.2.1.2.2.2.1 rfl (by decide) (by decide) (by decide) (adr hw (by simp only [offC] <;> omega)) (Or.inr ⟨(15, 0), by simp [cellsL_m], lowp hw (by simp only [offC] <;> omega)⟩) (Nat.le_of_ble_eq_true rfl) (Nat.le_of_ble_eq_true rfl) dX1_init_60 ?_
  refine b_put (ty := tyX1 6) C (by simp [hm0, cellsL_m]) ((gU_ne _ _ _ _ (fun z => absurd z.1 (by decide))).trans (gU_self _ _ _ _)) rfl iwX1 tyX1 tyX1_ok nmX1 6 (by decide) q_258 rfl rfl (by decide +kernel) rfl rfl (Nat.le_of_ble_eq_true rfl) dX1_init_63 ?_
  refine b_aload_n C dX1_init_66 rfl 0 rfl ?_
  refine b_iconst (v := 0) C dX1_init_67 (by decide) ?_
  refine b_put (ty := tyX1 7) C (by simp [hm0, cellsL_m]) (gU_self _ _ _ _) rfl iwX1 tyX1 tyX1_ok nmX1 7 (by decide) q_261 rfl rfl (by decide +kernel) rfl rfl (Nat.le_of_ble_eq_true rfl) dX1_init_68 ?_
  refine b_iconst (v := 0) C dX1_init_71 (by decide) ?_
  refine b_istore_n C dX1_init_72 rfl (by decide) (L' := [(1, _), (0, _)]) rfl ?_
  refine b_sub [1, 0] rfl ?_
  refine lp_X1_init_73 hw C (by simp [hm0, cellsL_m]) (gU_self _ _ _ _) rfl (by simp [hm0, cellsL_m]) ((gU_ne _ _ _ _ (fun z => absurd z.1 (by decide))).trans ((gU_ne _ _ _ _ (fun z => absurd z.1 (by decide))).trans ((gU_ne _ _ _ _ (fun z => absurd z.1 (by decide))).trans ((gU_ne _ _ _ _ (fun z => absurd z.1 (by decide))).trans ((gU_ne _ _ _ _ (fun z => absurd z.1 (by decide))).trans (gU_self _ _ _ _)))))) (by simp only [offC] <;> omega) ⟨(16, 0), by simp [cellsL_m], lowp hw (by simp only [offC] <;> omega)⟩ (by decide) (by decide) ?_
  refine b_iconst (v := 0) C dX1_init_98 (by decide) ?_
  refine b_istore_n C dX1_init_99 rfl (by decide) (L' := [(1, _), (0, _)]) rfl ?_
  refine b_sub [1, 0] rfl ?_
  refine lp_X1_init_100 hw C (by simp [hm0, cellsL_m]) ((gO_out (by simp [cellsL_m])).trans (gU_self _ _ _ _)) rfl (by simp [hm0, cellsL_m]) ((gO_out (by simp [cellsL_m])).trans ((gU_ne _ _ _ _ (fun z => absurd z.1 (by decide))).trans ((gU_ne _ _ _ _ (fun z => absurd z.1 (by decide))).trans (gU_self _ _ _ _)))) (by simp only [offC] <;> omega) ⟨(25, 7), by simp [cellsL_m], lowp hw (by simp only [offC] <;> omega)⟩ (by decide) (by decide) ?_
  refine b_eqG (g' := gO g w ([(3, 0), (7, 0), (8, 0), (9, 0), (10, 0), (11, 0), (12, 0), (13, 0), (14, 0)] ++ ((16, 0) :: cellsL [26, 27] 24) ++ ((15, 0) :: cellsL [22, 23, 24, 25] 8))) (fun q hq => ?_) (b_vret C dX1_init_125)
  obtain ⟨a, b⟩ := q
  dsimp only
  by_cases hL0 : (a, b) ∈ ((16, 0) :: cellsL [26, 27] 24)
  · exact (gO_in hL0).trans (gO_in (w := w) (List.mem_append_left _ (List.mem_append_right _ hL0))).symm
  by_cases hL1 : (a, b) ∈ ((15, 0) :: cellsL [22, 23, 24, 25] 8)
  · exact ((gO_out hL0).trans (gO_in hL1)).trans (gO_in (w := w) (List.mem_append_right _ hL1)).symm
  by_cases h0 : a = 3 ∧ b = 0
  · obtain ⟨rfl, rfl⟩ := h0
    exact ((gO_out hL0).trans ((gO_out hL1).trans ((gU_self _ _ _ _)))).trans ((clC_3 (wd w) (wa w) 0 (i0 3) y0).symm.trans (gO_in (w := w) (List.mem_append_left _ (List.mem_append_left _ (by simp)))).symm)
  by_cases h1 : a = 7 ∧ b = 0
  · obtain ⟨rfl, rfl⟩ := h1
    exact ((gO_out hL0).trans ((gO_out hL1).trans (((gU_ne _ _ _ _ (fun z => absurd z.1 (by decide))).trans ((gU_ne _ _ _ _ (fun z => absurd z.1 (by decide))).trans ((gU_ne _ _ _ _ (fun z => absurd z.1 (by decide))).trans ((gU_ne _ _ _ _ (fun z => absurd z.1 (by decide))).trans ((gU_ne _ _ _ _ (fun z => absurd z.1 (by decide))).trans ((gU_ne _ _ _ _ (fun z => absurd z.1 (by decide))).trans ((gU_ne _ _ _ _ (fun z => absurd z.1 (by decide))).trans ((gU_ne _ _ _ _ (fun z => absurd z.1 (by decide))).trans ((gU_ne _ _ _ _ (fun z => absurd z.1 (by decide))).trans ((gU_ne _ _ _ _ (fun z => absurd z.1 (by decide))).trans ((gO_out (by simp)).trans ((gU_ne _ _ _ _ (fun z => absurd z.1 (by decide))).trans ((gU_ne _ _ _ _ (fun z => absurd z.1 (by decide))).trans (gO_in (by simp)))))))))))))))))).trans (gO_in (w := w) (List.mem_append_left _ (List.mem_append_left _ (by simp)))).symm
  by_cases h2 : a = 8 ∧ b = 0
  · obtain ⟨rfl, rfl⟩ := h2
    exact ((gO_out hL0).trans ((gO_out hL1).trans (((gU_ne _ _ _ _ (fun z => absurd z.1 (by decide))).trans ((gU_ne _ _ _ _ (fun z => absurd z.1 (by decide))).trans ((gU_ne _ _ _ _ (fun z => absurd z.1 (by decide))).trans ((gU_ne _ _ _ _ (fun z => absurd z.1 (by decide))).trans ((gU_ne _ _ _ _ (fun z => absurd z.1 (by decide))).trans ((gU_ne _ _ _ _ (fun z => absurd z.1 (by decide))).trans ((gU_ne _ _ _ _ (fun z => absurd z.1 (by decide))).trans ((gU_ne _ _ _ _ (fun z => absurd z.1 (by decide))).trans ((gU_ne _ _ _ _ (fun z => absurd z.1 (by decide))).trans ((gU_ne _ _ _ _ (fun z => absurd z.1 (by decide))).trans ((gO_out (by simp)).trans ((gU_ne _ _ _ _ (fun z => absurd z.1 (by decide))).trans ((gU_ne _ _ _ _ (fun z => absurd z.1 (by decide))).trans (gO_in (by simp)))))))))))))))))).trans (gO_in (w := w) (List.mem_append_left _ (List.mem_append_left _ (by simp)))).symm
  by_cases h3 : a = 9 ∧ b = 0
  · obtain ⟨rfl, rfl⟩ := h3
    exact ((gO_out hL0).trans ((gO_out hL1).trans (((gU_ne _ _ _ _ (fun z => absurd z.1 (by decide))).trans ((gU_ne _ _ _ _ (fun z => absurd z.1 (by decide))).trans ((gU_ne _ _ _ _ (fun z => absurd z.1 (by decide))).trans ((gU_ne _ _ _ _ (fun z => absurd z.1 (by decide))).trans ((gU_ne _ _ _ _ (fun z => absurd z.1 (by decide))).trans ((gU_ne _ _ _ _ (fun z => absurd z.1 (by decide))).trans ((gU_ne _ _ _ _ (fun z => absurd z.1 (by decide))).trans ((gU_ne _ _ _ _ (fun z => absurd z.1 (by decide))).trans ((gU_ne _ _ _ _ (fun z => absurd z.1 (by decide))).trans ((gU_ne _ _ _ _ (fun z => absurd z.1 (by decide))).trans ((gO_out (by simp)).trans ((gU_ne _ _ _ _ (fun z => absurd z.1 (by decide))).trans ((gU_ne _ _ _ _ (fun z => absurd z.1 (by decide))).trans (gO_in (by simp)))))))))))))))))).trans (gO_in (w := w) (List.mem_append_left _ (List.mem_append_left _ (by simp)))).symm
  by_cases h4 : a = 10 ∧ b = 0
  · obtain ⟨rfl, rfl⟩ := h4
    exact ((gO_out hL0).trans ((gO_out hL1).trans (((gU_ne _ _ _ _ (fun z => absurd z.1 (by decide))).trans ((gU_ne _ _ _ _ (fun z => absurd z.1 (by decide))).trans ((gU_ne _ _ _ _ (fun z => absurd z.1 (by decide))).trans ((gU_ne _ _ _ _ (fun z => absurd z.1 (by decide))).trans ((gU_ne _ _ _ _ (fun z => absurd z.1 (by decide))).trans ((gU_ne _ _ _ _ (fun z => absurd z.1 (by decide))).trans ((gU_ne _ _ _ _ (fun z => absurd z.1 (by decide))).trans ((gU_ne _ _ _ _ (fun z => absurd z.1 (by decide))).trans ((gU_ne _ _ _ _ (fun z => absurd z.1 (by decide))).trans ((gU_ne _ _ _ _ (fun z => absurd z.1 (by decide))).trans (gO_in (by simp))))))))))))))).trans (gO_in (w := w) (List.mem_append_left _ (List.mem_append_left _ (by simp)))).symm
  by_cases h5 : a = 11 ∧ b = 0
  · obtain ⟨rfl, rfl⟩ := h5
    exact ((gO_out hL0).trans ((gO_out hL1).trans (((gU_ne _ _ _ _ (fun z => absurd z.1 (by decide))).trans ((gU_ne _ _ _ _ (fun z => absurd z.1 (by decide))).trans ((gU_ne _ _ _ _ (fun z => absurd z.1 (by decide))).trans ((gU_ne _ _ _ _ (fun z => absurd z.1 (by decide))).trans ((gU_ne _ _ _ _ (fun z => absurd z.1 (by decide))).trans ((gU_ne _ _ _ _ (fun z => absurd z.1 (by decide))).trans ((gU_ne _ _ _ _ (fun z => absurd z.1 (by decide))).trans ((gU_ne _ _ _ _ (fun z => absurd z.1 (by decide))).trans ((gU_ne _ _ _ _ (fun z => absurd z.1 (by decide))).trans ((gU_ne _ _ _ _ (fun z => absurd z.1 (by decide))).trans (gO_in (by simp))))))))))))))).trans (gO_in (w := w) (List.mem_append_left _ (List.mem_append_left _ (by simp)))).symm
  by_cases h6 : a = 12 ∧ b = 0
  · obtain ⟨rfl, rfl⟩ := h6
    exact ((gO_out hL0).trans ((gO_out hL1).trans (((gU_ne _ _ _ _ (fun z => absurd z.1 (by decide))).trans ((gU_ne _ _ _ _ (fun z => absurd z.1 (by decide))).trans ((gU_ne _ _ _ _ (fun z => absurd z.1 (by decide))).trans ((gU_ne _ _ _ _ (fun z => absurd z.1 (by decide))).trans ((gU_ne _ _ _ _ (fun z => absurd z.1 (by decide))).trans ((gU_ne _ _ _ _ (fun z => absurd z.1 (by decide))).trans ((gU_ne _ _ _ _ (fun z => absurd z.1 (by decide))).trans ((gU_ne _ _ _ _ (fun z => absurd z.1 (by decide))).trans ((gU_ne _ _ _ _ (fun z => absurd z.1 (by decide))).trans ((gU_ne _ _ _ _ (fun z => absurd z.1 (by decide))).trans (gO_in (by simp))))))))))))))).trans (gO_in (w := w) (List.mem_append_left _ (List.mem_append_left _ (by simp)))).symm
  by_cases h7 : a = 13 ∧ b = 0
  · obtain ⟨rfl, rfl⟩ := h7
    exact ((gO_out hL0).trans ((gO_out hL1).trans (((gU_ne _ _ _ _ (fun z => absurd z.1 (by decide))).trans ((gU_ne _ _ _ _ (fun z => absurd z.1 (by decide))).trans ((gU_ne _ _ _ _ (fun z => absurd z.1 (by decide))).trans ((gU_ne _ _ _ _ (fun z => absurd z.1 (by decide))).trans ((gU_ne _ _ _ _ (fun z => absurd z.1 (by decide))).trans ((gU_ne _ _ _ _ (fun z => absurd z.1 (by decide))).trans ((gU_ne _ _ _ _ (fun z => absurd z.1 (by decide))).trans ((gU_ne _ _ _ _ (fun z => absurd z.1 (by decide))).trans ((gU_ne _ _ _ _ (fun z => absurd z.1 (by decide))).trans ((gU_ne _ _ _ _ (fun z => absurd z.1 (by decide))).trans (gO_in (by simp))))))))))))))).trans (gO_in (w := w) (List.mem_append_left _ (List.mem_append_left _ (by simp)))).symm
  by_cases h8 : a = 14 ∧ b = 0
  · obtain ⟨rfl, rfl⟩ := h8
    exact ((gO_out hL0).trans ((gO_out hL1).trans (((gU_ne _ _ _ _ (fun z => absurd z.1 (by decide))).trans ((gU_ne _ _ _ _ (fun z => absurd z.1 (by decide))).trans ((gU_ne _ _ _ _ (fun z => absurd z.1 (by decide))).trans ((gU_ne _ _ _ _ (fun z => absurd z.1 (by decide))).trans ((gU_ne _ _ _ _ (fun z => absurd z.1 (by decide))).trans ((gU_ne _ _ _ _ (fun z => absurd z.1 (by decide))).trans ((gU_ne _ _ _ _ (fun z => absurd z.1 (by decide))).trans ((gU_ne _ _ _ _ (fun z => absurd z.1 (by decide))).trans (gU_self _ _ _ _)))))))))))).trans ((clC_14 (wd w) (wa w) 0 (i0 14) y0).symm.trans (gO_in (w := w) (List.mem_append_left _ (List.mem_append_left _ (by simp)))).symm)
  have hno : (a, b) ∉ [(3, 0), (7, 0), (8, 0), (9, 0), (10, 0), (11, 0), (12, 0), (13, 0), (14, 0)] ++ ((16, 0) :: cellsL [26, 27] 24) ++ ((15, 0) :: cellsL [22, 23, 24, 25] 8) := by
    intro hm
    rcases List.mem_append.mp hm with hm | hm
    rotate_left
    · exact hL1 hm
    rcases List.mem_append.mp hm with hm | hm
    rotate_left
    · exact hL0 hm
    simp only [List.mem_cons, Prod.mk.injEq, List.not_mem_nil, or_false] at hm
    rcases hm with hm | hm | hm | hm | hm | hm | hm | hm | hm
    · exact h0 hm
    · exact h1 hm
    · exact h2 hm
    · exact h3 hm
    · exact h4 hm
    · exact h5 hm
    · exact h6 hm
    · exact h7 hm
    · exact h8 hm
  exact ((gO_out hL0).trans ((gO_out hL1).trans ((gU_ne _ _ _ _ h0).trans ((gU_ne _ _ _ _ h0).trans ((gU_ne _ _ _ _ (fun z => hL0 (by rw [z.1, z.2]; exact List.mem_cons_self))).trans ((gU_ne _ _ _ _ h0).trans ((gU_ne _ _ _ _ h0).trans ((gU_ne _ _ _ _ (fun z => hL1 (by rw [z.1, z.2]; exact List.mem_cons_self))).trans ((gU_ne _ _ _ _ h0).trans ((gU_ne _ _ _ _ h0).trans ((gU_ne _ _ _ _ h8).trans ((gU_ne _ _ _ _ h0).trans ((gO_out (by simp only [List.mem_cons, Prod.mk.injEq, List.not_mem_nil, or_false, not_or]; exact ⟨h4, h5, h6, h7⟩)).trans ((gU_ne _ _ _ _ h4).trans ((gU_ne _ _ _ _ h0).trans ((gO_out (by simp only [List.mem_cons, Prod.mk.injEq, List.not_mem_nil, or_false, not_or]; exact ⟨h1, h2, h3⟩)).trans ((gU_ne _ _ _ _ h1).trans (rfl)))))))))))))))))).trans (gO_out (w := w) hno).symm
set_option maxHeartbeats 1000000 in
set_option maxRecDepth 100000 in
theorem lp_X11_init_92 {x : Ctx} {w : Wp} {b z c0 m0 : Nat} {Q : State → Prop} {ks : List (Nat × Nat)} {g : Gc} {fs : List Value} (hw : wa w = adC b) (C : CxB x w cX11_init 2 RX11 4 157 4345 z) (hself : (0, 0) ∈ ks) (hes : g 0 0 = .inr (11, fs)) (hfa : fs[0]? = some (.ref (wa w 1 0))) (harr : (1, 0) ∈ ks) (hea : g 1 0 = .inl (wd w 3, 6, rfs (fun _ => none))) (hz : b + offC 18 0 = z + c0) (hlow : ∃ q ∈ ks, wa w q.1 q.2 + 1 = z + c0) (hcs : c0 + 12 ≤ 157) (hsl : m0 + 252 ≤ 4345)
    (h : VB x w 2 Q (ks ++ cellsL [18, 19] 6) (gO g w ((1, 0) :: cellsL [18, 19] 6)) (c0 + 12) (m0 + 252) 117 [(0, .ref (wa w 0 0)), (1, .int (nI 6))] []) : VB x w 2 Q ks g c0 m0 92 [(0, .ref (wa w 0 0)), (1, .int 0)] [] := by
  have key : ∀ (r i : Nat), i + r = 6 → VB x w 2 Q (ks ++ cellsL [18, 19] i) (gI g w 1 3 6 18 [18, 19] i) (c0 + 2 * i) (m0 + 42 * i) 92 [(0, .ref (wa w 0 0)), (1, .int (nI i))] [] := by
    intro r
    induction r with
    | zero =>
      intro i hi
      have e : i = 6 := by omega
      subst e
      refine b_iload_n C dX11_init_92 rfl 1 rfl ?_
      refine b_bipush (v := 6) C dX11_init_93 (by decide) ?_
      refine b_icmp_ge (tgt := 117) C dX11_init_95 (by decide) (fun _ => b_eqA (gI_end rfl) h) (fun q => absurd (by decide) q)
    | succ r ih =>
      intro i hi
      refine b_iload_n C dX11_init_92 rfl 1 rfl ?_
      refine b_bipush (v := 6) C dX11_init_93 (by decide) ?_
      refine b_icmp_ge (tgt := 117) C dX11_init_95 (by decide) (fun q => absurd q (nI_ge (b := 6) (by omega) (by decide))) (fun _ => ?_)
      refine b_aload_n C dX11_init_98 rfl 0 rfl ?_
      refine b_get C (List.mem_append_left _ hself) ((gI_o (by decide) (by decide)).trans hes) rfl iwX11 0 (by decide) q_382 rfl hfa dX11_init_99 ?_
      refine b_iload_n C dX11_init_102 rfl 1 rfl ?_
      have hl0 : c0 + 2 * i = 0 ∨ ∃ q ∈ ks ++ cellsL [18, 19] i, wa w q.1 q.2 + 1 = z + (c0 + 2 * i) := by
        right
        cases i with
        | zero => obtain ⟨q, hq, e⟩ := hlow; exact ⟨q, List.mem_append_left _ hq, by omega⟩
        | succ j => exact ⟨(19, j), List.mem_append_right _ (cellsL_m.mpr ⟨by decide, by omega⟩), lowp hw (by simp only [offC] at hz ⊢; omega)⟩
      refine b_new (ci := 7) (fs := [.null, .int 0]) C 18 i q_26 q_346 q_12 iwX7 tyX7 tyX7_ok rfl (fun j hj => by rcases (show j = 0 ∨ j = 1 by omega) with rfl | rfl <;> rfl) (adr hw (by simp only [offC] at hz ⊢; omega)) hl0 (by omega) (by omega) dX11_init_103 ?_
      refine b_dup C dX11_init_106 rfl ?_
      refine b_callI (n := 0) (rest := [.ref (wa w 18 i), .int (nI i), .ref (wa w 1 0)]) C (mb_X7_init i hw (by simp) (gU_self _ _ _ _)) (Or.inr C.2.2.2.2.2.2.2.2.1.2.2.2.2.2.2.1) q_348 q_12 q_349 ⟨by decide +kernel, by decide +kernel, by decide +kernel⟩ rfl rfl (by decide) (by decide) (by simp only [offC] at hz ⊢; omega) (Or.inr ⟨(18, i), by simp, lowp hw (by simp only [offC] at hz ⊢; omega)⟩) (by omega) (by omega) rfl (Nat.le_of_ble_eq_true rfl) dX11_init_107 ?_
      have hin : inb (nI i) 6 = true := by
        have h0 : ¬ nI i < 0 := nI_pos (by omega)
        have hc : (nI i).toNatClampNeg = i := nI_clamp (by omega)
        simp only [inb, hc, Bool.and_eq_true, decide_eq_true_eq]
        exact ⟨h0, by omega⟩
      refine b_aast (ka := 1) (na := 0) (kd := 18) (n := i) (t0 := 3) (r := (RX7, TX7, 2)) C (by simp [harr]) (by simp) ((gO_out (by simp)).trans ((gU_ne _ _ _ _ (fun z => absurd z.1 (by decide))).trans gI_a)) ((gO_in (by simp)).trans (clC_18 (wd w) (wa w) i (i0 18) y0)) rfl rfl hin dX11_init_110 ?_
      rw [show (nI i).toNatClampNeg = i from nI_clamp (by omega)]
      refine b_iinc (v := nI (i + 1)) C dX11_init_111 (j := 1) rfl (nI_1 i) (by decide) (L' := [(1, _), (0, _)]) rfl ?_
      refine b_goto (tgt := 92) C dX11_init_114 (by decide) ?_
      refine b_sub [1, 0] rfl ?_
      have hx := ih (i + 1) (by omega)
      rw [cellsL_s] at hx
      have e1 : c0 + 2 * (i + 1) = c0 + 2 * i + 1 + 1 := by omega
      have e2 : m0 + 42 * (i + 1) = m0 + 42 * i + 2 + 40 := by omega
      rw [e1, e2] at hx
      refine b_eqG (fun q hq => ?_) (b_ks (by simp) hx)
      rcases gI_s (g := g) (w := w) (ka := 1) (t0 := 3) (N := 6) (kr := 18) (K := [18, 19]) (i := i) (e := .inr (7, [.null, .int 0])) (by decide) q.1 q.2 with hq1 | hq1
      · exact hq1
      · exact absurd (by decide) hq1.2.2
  refine b_eqG (gI_0' (kr := 18) (K := [18, 19]) hea) ?_
  have hx := key 6 0 (by decide)
  simpa [cellsL, nI_0] using hx
set_option maxHeartbeats 1000000 in
set_option maxRecDepth 100000 in
theorem lp_X11_init_119 {x : Ctx} {w : Wp} {b z c0 m0 : Nat} {Q : State → Prop} {ks : List (Nat × Nat)} {g : Gc} {fs : List Value} (hw : wa w = adC b) (C : CxB x w cX11_init 2 RX11 4 157 4345 z) (hself : (0, 0) ∈ ks) (hes : g 0 0 = .inr (11, fs)) (hfa : fs[1]? = some (.ref (wa w 2 0))) (harr : (2, 0) ∈ ks) (hea : g 2 0 = .inl (wd w 4, 4, rfs (fun _ => none))) (hz : b + offC 20 0 = z + c0) (hlow : ∃ q ∈ ks, wa w q.1 q.2 + 1 = z + c0) (hcs : c0 + 8 ≤ 157) (hsl : m0 + 176 ≤ 4345)
    (h : VB x w 2 Q (ks ++ cellsL [20, 21] 4) (gO g w ((2, 0) :: cellsL [20, 21] 4)) (c0 + 8) (m0 + 176) 143 [(0, .ref (wa w 0 0)), (1, .int (nI 4))] []) : VB x w 2 Q ks g c0 m0 119 [(0, .ref (wa w 0 0)), (1, .int 0)] [] := by
  have key : ∀ (r i : Nat), i + r = 4 → VB x w 2 Q (ks ++ cellsL [20, 21] i) (gI g w 2 4 4 20 [20, 21] i) (c0 + 2 * i) (m0 + 44 * i) 119 [(0, .ref (wa w 0 0)), (1, .int (nI i))] [] := by
    intro r
    induction r with
    | zero =>
      intro i hi
      have e : i = 4 := by omega
      subst e
      refine b_iload_n C dX11_init_119 rfl 1 rfl ?_
      refine b_iconst (v := 4) C dX11_init_120 (by decide) ?_
      refine b_icmp_ge (tgt := 143) C dX11_init_121 (by decide) (fun _ => b_eqA (gI_end rfl) h) (fun q => absurd (by decide) q)
    | succ r ih =>
      intro i hi
      refine b_iload_n C dX11_init_119 rfl 1 rfl ?_
      refine b_iconst (v := 4) C dX11_init_120 (by decide) ?_
      refine b_icmp_ge (tgt := 143) C dX11_init_121 (by decide) (fun q => absurd q (nI_ge (b := 4) (by omega) (by decide))) (fun _ => ?_)
      refine b_aload_n C dX11_init_124 rfl 0 rfl ?_
      refine b_get C (List.mem_append_left _ hself) ((gI_o (by decide) (by decide)).trans hes) rfl iwX11 1 (by decide) q_383 rfl hfa dX11_init_125 ?_
      refine b_iload_n C dX11_init_128 rfl 1 rfl ?_
      have hl0 : c0 + 2 * i = 0 ∨ ∃ q ∈ ks ++ cellsL [20, 21] i, wa w q.1 q.2 + 1 = z + (c0 + 2 * i) := by
        right
        cases i with
        | zero => obtain ⟨q, hq, e⟩ := hlow; exact ⟨q, List.mem_append_left _ hq, by omega⟩
        | succ j => exact ⟨(21, j), List.mem_append_right _ (cellsL_m.mpr ⟨by decide, by omega⟩), lowp hw (by simp only [offC] at hz ⊢; omega)⟩
      refine b_new (ci := 10) (fs := [.null, .int 0, .int 0, .int 0]) C 20 i q_28 q_360 q_13 iwX10 tyX10 tyX10_ok rfl (fun j hj => by rcases (show j = 0 ∨ j = 1 ∨ j = 2 ∨ j = 3 by omega) with rfl | rfl | rfl | rfl <;> rfl) (adr hw (by simp only [offC] at hz ⊢; omega)) hl0 (by omega) (by omega) dX11_init_129 ?_
      refine b_dup C dX11_init_132 rfl ?_
      refine b_callI (n := 0) (rest := [.ref (wa w 20 i), .int (nI i), .ref (wa w 2 0)]) C (mb_X10_init i hw (by simp) (gU_self _ _ _ _)) (Or.inr C.2.2.2.2.2.2.2.2.1.2.2.2.2.2.2.2.1) q_362 q_13 q_363 ⟨by decide +kernel, by decide +kernel, by decide +kernel⟩ rfl rfl (by decide) (by decide) (by simp only [offC] at hz ⊢; omega) (Or.inr ⟨(20, i), by simp, lowp hw (by simp only [offC] at hz ⊢; omega)⟩) (by omega) (by omega) rfl (Nat.le_of_ble_eq_true rfl) dX11_init_133 ?_
      have hin : inb (nI i) 4 = true := by
        have h0 : ¬ nI i < 0 := nI_pos (by omega)
        have hc : (nI i).toNatClampNeg = i := nI_clamp (by omega)
        simp only [inb, hc, Bool.and_eq_true, decide_eq_true_eq]
        exact ⟨h0, by omega⟩
      refine b_aast (ka := 2) (na := 0) (kd := 20) (n := i) (t0 := 4) (r := (RX10, TX10, 4)) C (by simp [harr]) (by simp) ((gO_out (by simp)).trans ((gU_ne _ _ _ _ (fun z => absurd z.1 (by decide))).trans gI_a)) ((gO_in (by simp)).trans (clC_20 (wd w) (wa w) i (i0 20) y0)) rfl rfl hin dX11_init_136 ?_
      rw [show (nI i).toNatClampNeg = i from nI_clamp (by omega)]
      refine b_iinc (v := nI (i + 1)) C dX11_init_137 (j := 1) rfl (nI_1 i) (by decide) (L' := [(1, _), (0, _)]) rfl ?_
      refine b_goto (tgt := 119) C dX11_init_140 (by decide) ?_
      refine b_sub [1, 0] rfl ?_
      have hx := ih (i + 1) (by omega)
      rw [cellsL_s] at hx
      have e1 : c0 + 2 * (i + 1) = c0 + 2 * i + 1 + 1 := by omega
      have e2 : m0 + 44 * (i + 1) = m0 + 44 * i + 4 + 40 := by omega
      rw [e1, e2] at hx
      refine b_eqG (fun q hq => ?_) (b_ks (by simp) hx)
      rcases gI_s (g := g) (w := w) (ka := 2) (t0 := 4) (N := 4) (kr := 20) (K := [20, 21]) (i := i) (e := .inr (10, [.null, .int 0, .int 0, .int 0])) (by decide) q.1 q.2 with hq1 | hq1
      · exact hq1
      · exact absurd (by decide) hq1.2.2
  refine b_eqG (gI_0' (kr := 20) (K := [20, 21]) hea) ?_
  have hx := key 4 0 (by decide)
  simpa [cellsL, nI_0] using hx
def ksB : List (Nat × Nat) := [(0, 0)] ++ [(1, 0)] ++ [(2, 0)] ++ [(3, 0)] ++ [(7, 0)] ++ [(8, 0)] ++ [(9, 0)] ++ [(10, 0)] ++ [(11, 0)] ++ [(12, 0)] ++ [(13, 0)] ++ [(14, 0)] ++ [(15, 0)] ++ [(16, 0)] ++ cellsL [22, 23, 24, 25] 8 ++ cellsL [26, 27] 24 ++ [(4, 0)] ++ [(17, 0)] ++ cellsL [28] 40 ++ [(5, 0)] ++ [(6, 0)] ++ cellsL [18, 19] 6 ++ cellsL [20, 21] 4
set_option maxHeartbeats 4000000 in
set_option maxRecDepth 100000 in
theorem mb_X11_init {l : Launch} {w : Wp} {b : Nat} {g : Gc} (hw : wa w = adC b) (he0 : g 0 0 = .inr (11, [.null, .null, .null, .null, .null, .null, .int 0, .int 0, .long 0, .long 0])) : CmB l yX11_init (.code yX11_init cX11_init 2 none) 4 157 4345 w [.ref (wa w 0 0)] [(0, 0)] g (b + offC 1 0) ksB (fin w) := by
  refine CmB.of (own := RX11) (by decide +kernel) rfl rfl (Nat.le_of_ble_eq_true rfl) (L := [(0, .ref (wa w 0 0))]) rfl (fun x hl C => ?_)
  subst hl
  refine b_aload_n C dX11_init_0 rfl 0 rfl ?_
  refine b_obj C q_23 q_24 q_25 (by decide) dX11_init_1 ?_
  refine b_aload_n C dX11_init_4 rfl 0 rfl ?_
  refine b_bipush (v := 6) C dX11_init_5 (by decide) ?_
  refine b_anew (t0 := 3) (N := 6) C 1 0 q_26 C.2.2.2.2.2.2.2.2.1.2.2.2.2.2.2.2.2.1.1 rfl (by decide) (by decide) (by decide) (adr hw (by simp only [offC] <;> omega)) (Or.inl rfl) (Nat.le_of_ble_eq_true rfl) (Nat.le_of_ble_eq_true rfl) dX11_init_7 ?_
  refine b_put (ty := tyX11 0) C (by simp [cellsL_m]) ((gU_ne _ _ _ _ (fun z => absurd z.1 (by decide))).trans he0) rfl iwX11 tyX11 tyX11_ok nmX11 0 (by decide) q_382 rfl rfl (by decide +kernel) rfl rfl (Nat.le_of_ble_eq_true rfl) dX11_init_10 ?_
  refine b_aload_n C dX11_init_13 rfl 0 rfl ?_
  refine b_iconst (v := 4) C dX11_init_14 (by decide) ?_
  refine b_anew (t0 := 4) (N := 4) C 2 0 q_28 C.2.2.2.2.2.2.2.2.1.2.2.2.2.2.2.2.2.1.2.1 rfl (by decide) (by decide) (by decide) (adr hw (by simp only [offC] <;> omega)) (Or.inr ⟨(1, 0), by simp [cellsL_m], lowp hw (by simp only [offC] <;> omega)⟩) (Nat.le_of_ble_eq_true rfl) (Nat.le_of_ble_eq_true rfl) dX11_init_15 ?_
  refine b_put (ty := tyX11 1) C (by simp [cellsL_m]) ((gU_ne _ _ _ _ (fun z => absurd z.1 (by decide))).trans (gU_self _ _ _ _)) rfl iwX11 tyX11 tyX11_ok nmX11 1 (by decide) q_383 rfl rfl (by decide +kernel) rfl rfl (Nat.le_of_ble_eq_true rfl) dX11_init_18 ?_
  refine b_aload_n C dX11_init_21 rfl 0 rfl ?_
  refine b_new (ci := 1) (fs := [.null, .null, .null, .int 0, .null, .int 0, .null, .int 0]) C 3 0 q_30 q_31 q_2 iwX1 tyX1 tyX1_ok rfl (fun j hj => by rcases (show j = 0 ∨ j = 1 ∨ j = 2 ∨ j = 3 ∨ j = 4 ∨ j = 5 ∨ j = 6 ∨ j = 7 by omega) with rfl | rfl | rfl | rfl | rfl | rfl | rfl | rfl <;> rfl) (adr hw (by simp only [offC] <;> omega)) (Or.inr ⟨(2, 0), by simp [cellsL_m], lowp hw (by simp only [offC] <;> omega)⟩) (Nat.le_of_ble_eq_true rfl) (Nat.le_of_ble_eq_true rfl) dX11_init_22 ?_
  refine b_dup C dX11_init_25 rfl ?_
  refine b_callI (n := 0) (rest := [.ref (wa w 3 0), .ref (wa w 0 0)]) C (mb_X1_init hw (by simp [cellsL_m]) (gU_self _ _ _ _)) (Or.inl q_32) q_33 q_2 q_34 ⟨by decide +kernel, by decide +kernel, by decide +kernel⟩ rfl rfl (by decide) (by decide) (by simp only [offC] <;> omega) (Or.inr ⟨(3, 0), by simp [cellsL_m], lowp hw (by simp only [offC] <;> omega)⟩) (Nat.le_of_ble_eq_true rfl) (Nat.le_of_ble_eq_true rfl) rfl (Nat.le_of_ble_eq_true rfl) dX11_init_26 ?_
  refine b_put (ty := tyX11 2) C (by simp [cellsL_m]) ((gO_out (by simp [cellsL_m])).trans ((gU_ne _ _ _ _ (fun z => absurd z.1 (by decide))).trans (gU_self _ _ _ _))) rfl iwX11 tyX11 tyX11_ok nmX11 2 (by decide) q_384 rfl rfl (by decide +kernel) rfl rfl (Nat.le_of_ble_eq_true rfl) dX11_init_29 ?_
  refine b_aload_n C dX11_init_32 rfl 0 rfl ?_
  refine b_new (ci := 6) (fs := [.null, .int 0, .int 0, .int 0, .null]) C 4 0 q_281 q_282 q_9 iwX6 tyX6 tyX6_ok rfl (fun j hj => by rcases (show j = 0 ∨ j = 1 ∨ j = 2 ∨ j = 3 ∨ j = 4 by omega) with rfl | rfl | rfl | rfl | rfl <;> rfl) (adr hw (by simp only [offC] <;> omega)) (Or.inr ⟨(27, 23), by simp [cellsL_m], lowp hw (by simp only [offC] <;> omega)⟩) (Nat.le_of_ble_eq_true rfl) (Nat.le_of_ble_eq_true rfl) dX11_init_33 ?_
  refine b_dup C dX11_init_36 rfl ?_
  refine b_aload_n C dX11_init_37 rfl 0 rfl ?_
  refine b_get C (by simp [cellsL_m]) ((gU_ne _ _ _ _ (fun z => absurd z.1 (by decide))).trans (gU_self _ _ _ _)) rfl iwX11 2 (by decide) q_384 rfl rfl dX11_init_38 ?_
  refine b_callI (n := 1) (rest := [.ref (wa w 4 0), .ref (wa w 0 0)]) C (mb_X6_init hw (by simp [cellsL_m]) (gU_self _ _ _ _)) (Or.inl q_283) q_284 q_9 q_285 ⟨by decide +kernel, by decide +kernel, by decide +kernel⟩ rfl rfl (by decide) (by decide) (by simp only [offC] <;> omega) (Or.inr ⟨(4, 0), by simp [cellsL_m], lowp hw (by simp only [offC] <;> omega)⟩) (Nat.le_of_ble_eq_true rfl) (Nat.le_of_ble_eq_true rfl) rfl (Nat.le_of_ble_eq_true rfl) dX11_init_41 ?_
  refine b_put (ty := tyX11 3) C (by simp [cellsL_m]) ((gO_out (by simp [cellsL_m])).trans ((gU_ne _ _ _ _ (fun z => absurd z.1 (by decide))).trans (gU_self _ _ _ _))) rfl iwX11 tyX11 tyX11_ok nmX11 3 (by decide) q_385 rfl rfl (by decide +kernel) rfl rfl (Nat.le_of_ble_eq_true rfl) dX11_init_44 ?_
  refine b_aload_n C dX11_init_47 rfl 0 rfl ?_
  refine b_new (ci := 2) (fs := [.int 0, .null]) C 5 0 q_332 q_333 q_11 iwX2 tyX2 tyX2_ok rfl (fun j hj => by rcases (show j = 0 ∨ j = 1 by omega) with rfl | rfl <;> rfl) (adr hw (by simp only [offC] <;> omega)) (Or.inr ⟨(28, 39), by simp [cellsL_m], lowp hw (by simp only [offC] <;> omega)⟩) (Nat.le_of_ble_eq_true rfl) (Nat.le_of_ble_eq_true rfl) dX11_init_48 ?_
  refine b_dup C dX11_init_51 rfl ?_
  refine b_aload_n C dX11_init_52 rfl 0 rfl ?_
  refine b_get C (by simp [cellsL_m]) ((gU_ne _ _ _ _ (fun z => absurd z.1 (by decide))).trans (gU_self _ _ _ _)) rfl iwX11 2 (by decide) q_384 rfl rfl dX11_init_53 ?_
  refine b_callI (n := 1) (rest := [.ref (wa w 5 0), .ref (wa w 0 0)]) C (mb_X2_init hw (by simp [cellsL_m]) (gU_self _ _ _ _)) (Or.inl q_334) q_335 q_11 q_336 ⟨by decide +kernel, by decide +kernel, by decide +kernel⟩ rfl rfl (by decide) (by decide) rfl (Or.inr ⟨(5, 0), by simp [cellsL_m], lowp hw (by simp only [offC] <;> omega)⟩) (Nat.le_of_ble_eq_true rfl) (Nat.le_of_ble_eq_true rfl) rfl (Nat.le_of_ble_eq_true rfl) dX11_init_56 ?_
  refine b_put (ty := tyX11 4) C (by simp [cellsL_m]) ((gO_out (by simp)).trans ((gU_ne _ _ _ _ (fun z => absurd z.1 (by decide))).trans (gU_self _ _ _ _))) rfl iwX11 tyX11 tyX11_ok nmX11 4 (by decide) q_386 rfl rfl (by decide +kernel) rfl rfl (Nat.le_of_ble_eq_true rfl) dX11_init_59 ?_
  refine b_aload_n C dX11_init_62 rfl 0 rfl ?_
  refine b_bipush (v := 6) C dX11_init_63 (by decide) ?_
  refine b_newa (atype := .int) (t0 := 0) (N := 6) C 6 0 q_54 rfl (fun _ _ h => h) (fun _ => rfl) (by decide) (by decide) (by decide) (adr hw (by simp only [offC] <;> omega)) (Or.inr ⟨(5, 0), by simp [cellsL_m], lowp hw (by simp only [offC] <;> omega)⟩) (Nat.le_of_ble_eq_true rfl) (Nat.le_of_ble_eq_true rfl) dX11_init_65 ?_
  refine b_put (ty := tyX11 5) C (by simp [cellsL_m]) ((gU_ne _ _ _ _ (fun z => absurd z.1 (by decide))).trans (gU_self _ _ _ _)) rfl iwX11 tyX11 tyX11_ok nmX11 5 (by decide) q_387 rfl rfl (by decide +kernel) rfl rfl (Nat.le_of_ble_eq_true rfl) dX11_init_67 ?_
  refine b_aload_n C dX11_init_70 rfl 0 rfl ?_
  refine b_iconst (v := 0) C dX11_init_71 (by decide) ?_
  refine b_put (ty := tyX11 6) C (by simp [cellsL_m]) (gU_self _ _ _ _) rfl iwX11 tyX11 tyX11_ok nmX11 6 (by decide) q_388 rfl rfl (by decide +kernel) rfl rfl (Nat.le_of_ble_eq_true rfl) dX11_init_72 ?_
  refine b_aload_n C dX11_init_75 rfl 0 rfl ?_
  refine b_iconst (v := 0) C dX11_init_76 (by decide) ?_
  refine b_put (ty := tyX11 7) C (by simp [cellsL_m]) (gU_self _ _ _ _) rfl iwX11 tyX11 tyX11_ok nmX11 7 (by decide) q_389 rfl rfl (by decide +kernel) rfl rfl (Nat.le_of_ble_eq_true rfl) dX11_init_77 ?_
  refine b_aload_n C dX11_init_80 rfl 0 rfl ?_
  refine b_lconst (v := 0) C dX11_init_81 (by decide) ?_
  refine b_put (ty := tyX11 8) C (by simp [cellsL_m]) (gU_self _ _ _ _) rfl iwX11 tyX11 tyX11_ok nmX11 8 (by decide) q_390 rfl rfl (by decide +kernel) rfl rfl (Nat.le_of_ble_eq_true rfl) dX11_init_82 ?_
  refine b_aload_n C dX11_init_85 rfl 0 rfl ?_
  refine b_lconst (v := 1) C dX11_init_86 (by decide) ?_
  refine b_put (ty := tyX11 9) C (by simp [cellsL_m]) (gU_self _ _ _ _) rfl iwX11 tyX11 tyX11_ok nmX11 9 (by decide) q_391 rfl rfl (by decide +kernel) rfl rfl (Nat.le_of_ble_eq_true rfl) dX11_init_87 ?_
  refine b_iconst (v := 0) C dX11_init_90 (by decide) ?_
  refine b_istore_n C dX11_init_91 rfl (by decide) (L' := [(1, _), (0, _)]) rfl ?_
  refine b_sub [1, 0] rfl ?_
  refine lp_X11_init_92 hw C (by simp [cellsL_m]) (gU_self _ _ _ _) rfl (by simp [cellsL_m]) ((gU_ne _ _ _ _ (fun z => absurd z.1 (by decide))).trans ((gU_ne _ _ _ _ (fun z => absurd z.1 (by decide))).trans ((gU_ne _ _ _ _ (fun z => absurd z.1 (by decide))).trans ((gU_ne _ _ _ _ (fun z => absurd z.1 (by decide))).trans ((gU_ne _ _ _ _ (fun z => absurd z.1 (by decide))).trans ((gU_ne _ _ _ _ (fun z => absurd z.1 (by decide))).trans ((gU_ne _ _ _ _ (fun z => absurd z.1 (by decide))).trans ((gO_out (by simp)).trans ((gU_ne _ _ _ _ (fun z => absurd z.1 (by decide))).trans ((gU_ne _ _ _ _ (fun z => absurd z.1 (by decide))).trans ((gO_out (by simp [cellsL_m])).trans ((gU_ne _ _ _ _ (fun z => absurd z.1 (by decide))).trans ((gU_ne _ _ _ _ (fun z => absurd z.1 (by decide))).trans ((gO_out (by simp [cellsL_m])).trans ((gU_ne _ _ _ _ (fun z => absurd z.1 (by decide))).trans ((gU_ne _ _ _ _ (fun z => absurd z.1 (by decide))).trans ((gU_ne _ _ _ _ (fun z => absurd z.1 (by decide))).trans ((gU_ne _ _ _ _ (fun z => absurd z.1 (by decide))).trans (gU_self _ _ _ _))))))))))))))))))) (by simp only [offC] <;> omega) ⟨(6, 0), by simp [cellsL_m], lowp hw (by simp only [offC] <;> omega)⟩ (by decide) (by decide) ?_
  refine b_iconst (v := 0) C dX11_init_117 (by decide) ?_
  refine b_istore_n C dX11_init_118 rfl (by decide) (L' := [(1, _), (0, _)]) rfl ?_
  refine b_sub [1, 0] rfl ?_
  refine lp_X11_init_119 hw C (by simp [cellsL_m]) ((gO_out (by simp [cellsL_m])).trans (gU_self _ _ _ _)) rfl (by simp [cellsL_m]) ((gO_out (by simp [cellsL_m])).trans ((gU_ne _ _ _ _ (fun z => absurd z.1 (by decide))).trans ((gU_ne _ _ _ _ (fun z => absurd z.1 (by decide))).trans ((gU_ne _ _ _ _ (fun z => absurd z.1 (by decide))).trans ((gU_ne _ _ _ _ (fun z => absurd z.1 (by decide))).trans ((gU_ne _ _ _ _ (fun z => absurd z.1 (by decide))).trans ((gU_ne _ _ _ _ (fun z => absurd z.1 (by decide))).trans ((gU_ne _ _ _ _ (fun z => absurd z.1 (by decide))).trans ((gO_out (by simp)).trans ((gU_ne _ _ _ _ (fun z => absurd z.1 (by decide))).trans ((gU_ne _ _ _ _ (fun z => absurd z.1 (by decide))).trans ((gO_out (by simp [cellsL_m])).trans ((gU_ne _ _ _ _ (fun z => absurd z.1 (by decide))).trans ((gU_ne _ _ _ _ (fun z => absurd z.1 (by decide))).trans ((gO_out (by simp [cellsL_m])).trans ((gU_ne _ _ _ _ (fun z => absurd z.1 (by decide))).trans ((gU_ne _ _ _ _ (fun z => absurd z.1 (by decide))).trans (gU_self _ _ _ _)))))))))))))))))) (by simp only [offC] <;> omega) ⟨(19, 5), by simp [cellsL_m], lowp hw (by simp only [offC] <;> omega)⟩ (by decide) (by decide) ?_
  refine b_eqG (g' := fin w) (fun q hq => ?_) (b_vret C dX11_init_143)
  obtain ⟨a, b⟩ := q
  dsimp only
  rcases List.mem_append.mp hq with hq | hq
  rotate_left
  · obtain ⟨hk, hb⟩ := cellsL_m.mp hq
    simp only [List.mem_cons, List.not_mem_nil, or_false] at hk
    rcases hk with rfl | rfl
    · exact (gO_in (by simp [cellsL_m, hb]))
    · exact (gO_in (by simp [cellsL_m, hb]))
  rcases List.mem_append.mp hq with hq | hq
  rotate_left
  · obtain ⟨hk, hb⟩ := cellsL_m.mp hq
    simp only [List.mem_cons, List.not_mem_nil, or_false] at hk
    rcases hk with rfl | rfl
    · exact ((gO_out (by simp [cellsL_m])).trans (gO_in (by simp [cellsL_m, hb])))
    · exact ((gO_out (by simp [cellsL_m])).trans (gO_in (by simp [cellsL_m, hb])))
  rcases List.mem_append.mp hq with hq | hq
  rotate_left
  · cases List.mem_singleton.mp hq
    exact ((gO_out (by simp [cellsL_m])).trans ((gO_out (by simp [cellsL_m])).trans ((gU_ne _ _ _ _ (fun z => absurd z.1 (by decide))).trans ((gU_ne _ _ _ _ (fun z => absurd z.1 (by decide))).trans ((gU_ne _ _ _ _ (fun z => absurd z.1 (by decide))).trans ((gU_ne _ _ _ _ (fun z => absurd z.1 (by decide))).trans ((gU_ne _ _ _ _ (fun z => absurd z.1 (by decide))).trans (gU_self _ _ _ _)))))))).trans (clC_6 (wd w) (wa w) 0 (i0 6) y0).symm
  rcases List.mem_append.mp hq with hq | hq
  rotate_left
  · cases List.mem_singleton.mp hq
    exact ((gO_out (by simp [cellsL_m])).trans ((gO_out (by simp [cellsL_m])).trans ((gU_ne _ _ _ _ (fun z => absurd z.1 (by decide))).trans ((gU_ne _ _ _ _ (fun z => absurd z.1 (by decide))).trans ((gU_ne _ _ _ _ (fun z => absurd z.1 (by decide))).trans ((gU_ne _ _ _ _ (fun z => absurd z.1 (by decide))).trans ((gU_ne _ _ _ _ (fun z => absurd z.1 (by decide))).trans ((gU_ne _ _ _ _ (fun z => absurd z.1 (by decide))).trans ((gU_ne _ _ _ _ (fun z => absurd z.1 (by decide))).trans (gO_in (by simp)))))))))))
  rcases List.mem_append.mp hq with hq | hq
  rotate_left
  · obtain ⟨hk, hb⟩ := cellsL_m.mp hq
    simp only [List.mem_cons, List.not_mem_nil, or_false] at hk
    rcases hk with rfl
    · exact ((gO_out (by simp [cellsL_m])).trans ((gO_out (by simp [cellsL_m])).trans ((gU_ne _ _ _ _ (fun z => absurd z.1 (by decide))).trans ((gU_ne _ _ _ _ (fun z => absurd z.1 (by decide))).trans ((gU_ne _ _ _ _ (fun z => absurd z.1 (by decide))).trans ((gU_ne _ _ _ _ (fun z => absurd z.1 (by decide))).trans ((gU_ne _ _ _ _ (fun z => absurd z.1 (by decide))).trans ((gU_ne _ _ _ _ (fun z => absurd z.1 (by decide))).trans ((gU_ne _ _ _ _ (fun z => absurd z.1 (by decide))).trans ((gO_out (by simp)).trans ((gU_ne _ _ _ _ (fun z => absurd z.1 (by decide))).trans ((gU_ne _ _ _ _ (fun z => absurd z.1 (by decide))).trans (gO_in (by simp [cellsL_m, hb]))))))))))))))
  rcases List.mem_append.mp hq with hq | hq
  rotate_left
  · cases List.mem_singleton.mp hq
    exact ((gO_out (by simp [cellsL_m])).trans ((gO_out (by simp [cellsL_m])).trans ((gU_ne _ _ _ _ (fun z => absurd z.1 (by decide))).trans ((gU_ne _ _ _ _ (fun z => absurd z.1 (by decide))).trans ((gU_ne _ _ _ _ (fun z => absurd z.1 (by decide))).trans ((gU_ne _ _ _ _ (fun z => absurd z.1 (by decide))).trans ((gU_ne _ _ _ _ (fun z => absurd z.1 (by decide))).trans ((gU_ne _ _ _ _ (fun z => absurd z.1 (by decide))).trans ((gU_ne _ _ _ _ (fun z => absurd z.1 (by decide))).trans ((gO_out (by simp)).trans ((gU_ne _ _ _ _ (fun z => absurd z.1 (by decide))).trans ((gU_ne _ _ _ _ (fun z => absurd z.1 (by decide))).trans (gO_in (by simp))))))))))))))
  rcases List.mem_append.mp hq with hq | hq
  rotate_left
  · cases List.mem_singleton.mp hq
    exact ((gO_out (by simp [cellsL_m])).trans ((gO_out (by simp [cellsL_m])).trans ((gU_ne _ _ _ _ (fun z => absurd z.1 (by decide))).trans ((gU_ne _ _ _ _ (fun z => absurd z.1 (by decide))).trans ((gU_ne _ _ _ _ (fun z => absurd z.1 (by decide))).trans ((gU_ne _ _ _ _ (fun z => absurd z.1 (by decide))).trans ((gU_ne _ _ _ _ (fun z => absurd z.1 (by decide))).trans ((gU_ne _ _ _ _ (fun z => absurd z.1 (by decide))).trans ((gU_ne _ _ _ _ (fun z => absurd z.1 (by decide))).trans ((gO_out (by simp)).trans ((gU_ne _ _ _ _ (fun z => absurd z.1 (by decide))).trans ((gU_ne _ _ _ _ (fun z => absurd z.1 (by decide))).trans (gO_in (by simp))))))))))))))
  rcases List.mem_append.mp hq with hq | hq
  rotate_left
  · obtain ⟨hk, hb⟩ := cellsL_m.mp hq
    simp only [List.mem_cons, List.not_mem_nil, or_false] at hk
    rcases hk with rfl | rfl
    · exact ((gO_out (by simp [cellsL_m])).trans ((gO_out (by simp [cellsL_m])).trans ((gU_ne _ _ _ _ (fun z => absurd z.1 (by decide))).trans ((gU_ne _ _ _ _ (fun z => absurd z.1 (by decide))).trans ((gU_ne _ _ _ _ (fun z => absurd z.1 (by decide))).trans ((gU_ne _ _ _ _ (fun z => absurd z.1 (by decide))).trans ((gU_ne _ _ _ _ (fun z => absurd z.1 (by decide))).trans ((gU_ne _ _ _ _ (fun z => absurd z.1 (by decide))).trans ((gU_ne _ _ _ _ (fun z => absurd z.1 (by decide))).trans ((gO_out (by simp)).trans ((gU_ne _ _ _ _ (fun z => absurd z.1 (by decide))).trans ((gU_ne _ _ _ _ (fun z => absurd z.1 (by decide))).trans ((gO_out (by simp [cellsL_m])).trans ((gU_ne _ _ _ _ (fun z => absurd z.1 (by decide))).trans ((gU_ne _ _ _ _ (fun z => absurd z.1 (by decide))).trans (gO_in (by simp [cellsL_m, hb])))))))))))))))))
    · exact ((gO_out (by simp [cellsL_m])).trans ((gO_out (by simp [cellsL_m])).trans ((gU_ne _ _ _ _ (fun z => absurd z.1 (by decide))).trans ((gU_ne _ _ _ _ (fun z => absurd z.1 (by decide))).trans ((gU_ne _ _ _ _ (fun z => absurd z.1 (by decide))).trans ((gU_ne _ _ _ _ (fun z => absurd z.1 (by decide))).trans ((gU_ne _ _ _ _ (fun z => absurd z.1 (by decide))).trans ((gU_ne _ _ _ _ (fun z => absurd z.1 (by decide))).trans ((gU_ne _ _ _ _ (fun z => absurd z.1 (by decide))).trans ((gO_out (by simp)).trans ((gU_ne _ _ _ _ (fun z => absurd z.1 (by decide))).trans ((gU_ne _ _ _ _ (fun z => absurd z.1 (by decide))).trans ((gO_out (by simp [cellsL_m])).trans ((gU_ne _ _ _ _ (fun z => absurd z.1 (by decide))).trans ((gU_ne _ _ _ _ (fun z => absurd z.1 (by decide))).trans (gO_in (by simp [cellsL_m, hb])))))))))))))))))
  rcases List.mem_append.mp hq with hq | hq
  rotate_left
  · obtain ⟨hk, hb⟩ := cellsL_m.mp hq
    simp only [List.mem_cons, List.not_mem_nil, or_false] at hk
    rcases hk with rfl | rfl | rfl | rfl
    · exact ((gO_out (by simp [cellsL_m])).trans ((gO_out (by simp [cellsL_m])).trans ((gU_ne _ _ _ _ (fun z => absurd z.1 (by decide))).trans ((gU_ne _ _ _ _ (fun z => absurd z.1 (by decide))).trans ((gU_ne _ _ _ _ (fun z => absurd z.1 (by decide))).trans ((gU_ne _ _ _ _ (fun z => absurd z.1 (by decide))).trans ((gU_ne _ _ _ _ (fun z => absurd z.1 (by decide))).trans ((gU_ne _ _ _ _ (fun z => absurd z.1 (by decide))).trans ((gU_ne _ _ _ _ (fun z => absurd z.1 (by decide))).trans ((gO_out (by simp)).trans ((gU_ne _ _ _ _ (fun z => absurd z.1 (by decide))).trans ((gU_ne _ _ _ _ (fun z => absurd z.1 (by decide))).trans ((gO_out (by simp [cellsL_m])).trans ((gU_ne _ _ _ _ (fun z => absurd z.1 (by decide))).trans ((gU_ne _ _ _ _ (fun z => absurd z.1 (by decide))).trans (gO_in (by simp [cellsL_m, hb])))))))))))))))))
    · exact ((gO_out (by simp [cellsL_m])).trans ((gO_out (by simp [cellsL_m])).trans ((gU_ne _ _ _ _ (fun z => absurd z.1 (by decide))).trans ((gU_ne _ _ _ _ (fun z => absurd z.1 (by decide))).trans ((gU_ne _ _ _ _ (fun z => absurd z.1 (by decide))).trans ((gU_ne _ _ _ _ (fun z => absurd z.1 (by decide))).trans ((gU_ne _ _ _ _ (fun z => absurd z.1 (by decide))).trans ((gU_ne _ _ _ _ (fun z => absurd z.1 (by decide))).trans ((gU_ne _ _ _ _ (fun z => absurd z.1 (by decide))).trans ((gO_out (by simp)).trans ((gU_ne _ _ _ _ (fun z => absurd z.1 (by decide))).trans ((gU_ne _ _ _ _ (fun z => absurd z.1 (by decide))).trans ((gO_out (by simp [cellsL_m])).trans ((gU_ne _ _ _ _ (fun z => absurd z.1 (by decide))).trans ((gU_ne _ _ _ _ (fun z => absurd z.1 (by decide))).trans (gO_in (by simp [cellsL_m, hb])))))))))))))))))
    · exact ((gO_out (by simp [cellsL_m])).trans ((gO_out (by simp [cellsL_m])).trans ((gU_ne _ _ _ _ (fun z => absurd z.1 (by decide))).trans ((gU_ne _ _ _ _ (fun z => absurd z.1 (by decide))).trans ((gU_ne _ _ _ _ (fun z => absurd z.1 (by decide))).trans ((gU_ne _ _ _ _ (fun z => absurd z.1 (by decide))).trans ((gU_ne _ _ _ _ (fun z => absurd z.1 (by decide))).trans ((gU_ne _ _ _ _ (fun z => absurd z.1 (by decide))).trans ((gU_ne _ _ _ _ (fun z => absurd z.1 (by decide))).trans ((gO_out (by simp)).trans ((gU_ne _ _ _ _ (fun z => absurd z.1 (by decide))).trans ((gU_ne _ _ _ _ (fun z => absurd z.1 (by decide))).trans ((gO_out (by simp [cellsL_m])).trans ((gU_ne _ _ _ _ (fun z => absurd z.1 (by decide))).trans ((gU_ne _ _ _ _ (fun z => absurd z.1 (by decide))).trans (gO_in (by simp [cellsL_m, hb])))))))))))))))))
    · exact ((gO_out (by simp [cellsL_m])).trans ((gO_out (by simp [cellsL_m])).trans ((gU_ne _ _ _ _ (fun z => absurd z.1 (by decide))).trans ((gU_ne _ _ _ _ (fun z => absurd z.1 (by decide))).trans ((gU_ne _ _ _ _ (fun z => absurd z.1 (by decide))).trans ((gU_ne _ _ _ _ (fun z => absurd z.1 (by decide))).trans ((gU_ne _ _ _ _ (fun z => absurd z.1 (by decide))).trans ((gU_ne _ _ _ _ (fun z => absurd z.1 (by decide))).trans ((gU_ne _ _ _ _ (fun z => absurd z.1 (by decide))).trans ((gO_out (by simp)).trans ((gU_ne _ _ _ _ (fun z => absurd z.1 (by decide))).trans ((gU_ne _ _ _ _ (fun z => absurd z.1 (by decide))).trans ((gO_out (by simp [cellsL_m])).trans ((gU_ne _ _ _ _ (fun z => absurd z.1 (by decide))).trans ((gU_ne _ _ _ _ (fun z => absurd z.1 (by decide))).trans (gO_in (by simp [cellsL_m, hb])))))))))))))))))
  rcases List.mem_append.mp hq with hq | hq
  rotate_left
  · cases List.mem_singleton.mp hq
    exact ((gO_out (by simp [cellsL_m])).trans ((gO_out (by simp [cellsL_m])).trans ((gU_ne _ _ _ _ (fun z => absurd z.1 (by decide))).trans ((gU_ne _ _ _ _ (fun z => absurd z.1 (by decide))).trans ((gU_ne _ _ _ _ (fun z => absurd z.1 (by decide))).trans ((gU_ne _ _ _ _ (fun z => absurd z.1 (by decide))).trans ((gU_ne _ _ _ _ (fun z => absurd z.1 (by decide))).trans ((gU_ne _ _ _ _ (fun z => absurd z.1 (by decide))).trans ((gU_ne _ _ _ _ (fun z => absurd z.1 (by decide))).trans ((gO_out (by simp)).trans ((gU_ne _ _ _ _ (fun z => absurd z.1 (by decide))).trans ((gU_ne _ _ _ _ (fun z => absurd z.1 (by decide))).trans ((gO_out (by simp [cellsL_m])).trans ((gU_ne _ _ _ _ (fun z => absurd z.1 (by decide))).trans ((gU_ne _ _ _ _ (fun z => absurd z.1 (by decide))).trans (gO_in (by simp)))))))))))))))))
  rcases List.mem_append.mp hq with hq | hq
  rotate_left
  · cases List.mem_singleton.mp hq
    exact ((gO_out (by simp [cellsL_m])).trans ((gO_out (by simp [cellsL_m])).trans ((gU_ne _ _ _ _ (fun z => absurd z.1 (by decide))).trans ((gU_ne _ _ _ _ (fun z => absurd z.1 (by decide))).trans ((gU_ne _ _ _ _ (fun z => absurd z.1 (by decide))).trans ((gU_ne _ _ _ _ (fun z => absurd z.1 (by decide))).trans ((gU_ne _ _ _ _ (fun z => absurd z.1 (by decide))).trans ((gU_ne _ _ _ _ (fun z => absurd z.1 (by decide))).trans ((gU_ne _ _ _ _ (fun z => absurd z.1 (by decide))).trans ((gO_out (by simp)).trans ((gU_ne _ _ _ _ (fun z => absurd z.1 (by decide))).trans ((gU_ne _ _ _ _ (fun z => absurd z.1 (by decide))).trans ((gO_out (by simp [cellsL_m])).trans ((gU_ne _ _ _ _ (fun z => absurd z.1 (by decide))).trans ((gU_ne _ _ _ _ (fun z => absurd z.1 (by decide))).trans (gO_in (by simp)))))))))))))))))
  rcases List.mem_append.mp hq with hq | hq
  rotate_left
  · cases List.mem_singleton.mp hq
    exact ((gO_out (by simp [cellsL_m])).trans ((gO_out (by simp [cellsL_m])).trans ((gU_ne _ _ _ _ (fun z => absurd z.1 (by decide))).trans ((gU_ne _ _ _ _ (fun z => absurd z.1 (by decide))).trans ((gU_ne _ _ _ _ (fun z => absurd z.1 (by decide))).trans ((gU_ne _ _ _ _ (fun z => absurd z.1 (by decide))).trans ((gU_ne _ _ _ _ (fun z => absurd z.1 (by decide))).trans ((gU_ne _ _ _ _ (fun z => absurd z.1 (by decide))).trans ((gU_ne _ _ _ _ (fun z => absurd z.1 (by decide))).trans ((gO_out (by simp)).trans ((gU_ne _ _ _ _ (fun z => absurd z.1 (by decide))).trans ((gU_ne _ _ _ _ (fun z => absurd z.1 (by decide))).trans ((gO_out (by simp [cellsL_m])).trans ((gU_ne _ _ _ _ (fun z => absurd z.1 (by decide))).trans ((gU_ne _ _ _ _ (fun z => absurd z.1 (by decide))).trans (gO_in (by simp)))))))))))))))))
  rcases List.mem_append.mp hq with hq | hq
  rotate_left
  · cases List.mem_singleton.mp hq
    exact ((gO_out (by simp [cellsL_m])).trans ((gO_out (by simp [cellsL_m])).trans ((gU_ne _ _ _ _ (fun z => absurd z.1 (by decide))).trans ((gU_ne _ _ _ _ (fun z => absurd z.1 (by decide))).trans ((gU_ne _ _ _ _ (fun z => absurd z.1 (by decide))).trans ((gU_ne _ _ _ _ (fun z => absurd z.1 (by decide))).trans ((gU_ne _ _ _ _ (fun z => absurd z.1 (by decide))).trans ((gU_ne _ _ _ _ (fun z => absurd z.1 (by decide))).trans ((gU_ne _ _ _ _ (fun z => absurd z.1 (by decide))).trans ((gO_out (by simp)).trans ((gU_ne _ _ _ _ (fun z => absurd z.1 (by decide))).trans ((gU_ne _ _ _ _ (fun z => absurd z.1 (by decide))).trans ((gO_out (by simp [cellsL_m])).trans ((gU_ne _ _ _ _ (fun z => absurd z.1 (by decide))).trans ((gU_ne _ _ _ _ (fun z => absurd z.1 (by decide))).trans (gO_in (by simp)))))))))))))))))
  rcases List.mem_append.mp hq with hq | hq
  rotate_left
  · cases List.mem_singleton.mp hq
    exact ((gO_out (by simp [cellsL_m])).trans ((gO_out (by simp [cellsL_m])).trans ((gU_ne _ _ _ _ (fun z => absurd z.1 (by decide))).trans ((gU_ne _ _ _ _ (fun z => absurd z.1 (by decide))).trans ((gU_ne _ _ _ _ (fun z => absurd z.1 (by decide))).trans ((gU_ne _ _ _ _ (fun z => absurd z.1 (by decide))).trans ((gU_ne _ _ _ _ (fun z => absurd z.1 (by decide))).trans ((gU_ne _ _ _ _ (fun z => absurd z.1 (by decide))).trans ((gU_ne _ _ _ _ (fun z => absurd z.1 (by decide))).trans ((gO_out (by simp)).trans ((gU_ne _ _ _ _ (fun z => absurd z.1 (by decide))).trans ((gU_ne _ _ _ _ (fun z => absurd z.1 (by decide))).trans ((gO_out (by simp [cellsL_m])).trans ((gU_ne _ _ _ _ (fun z => absurd z.1 (by decide))).trans ((gU_ne _ _ _ _ (fun z => absurd z.1 (by decide))).trans (gO_in (by simp)))))))))))))))))
  rcases List.mem_append.mp hq with hq | hq
  rotate_left
  · cases List.mem_singleton.mp hq
    exact ((gO_out (by simp [cellsL_m])).trans ((gO_out (by simp [cellsL_m])).trans ((gU_ne _ _ _ _ (fun z => absurd z.1 (by decide))).trans ((gU_ne _ _ _ _ (fun z => absurd z.1 (by decide))).trans ((gU_ne _ _ _ _ (fun z => absurd z.1 (by decide))).trans ((gU_ne _ _ _ _ (fun z => absurd z.1 (by decide))).trans ((gU_ne _ _ _ _ (fun z => absurd z.1 (by decide))).trans ((gU_ne _ _ _ _ (fun z => absurd z.1 (by decide))).trans ((gU_ne _ _ _ _ (fun z => absurd z.1 (by decide))).trans ((gO_out (by simp)).trans ((gU_ne _ _ _ _ (fun z => absurd z.1 (by decide))).trans ((gU_ne _ _ _ _ (fun z => absurd z.1 (by decide))).trans ((gO_out (by simp [cellsL_m])).trans ((gU_ne _ _ _ _ (fun z => absurd z.1 (by decide))).trans ((gU_ne _ _ _ _ (fun z => absurd z.1 (by decide))).trans (gO_in (by simp)))))))))))))))))
  rcases List.mem_append.mp hq with hq | hq
  rotate_left
  · cases List.mem_singleton.mp hq
    exact ((gO_out (by simp [cellsL_m])).trans ((gO_out (by simp [cellsL_m])).trans ((gU_ne _ _ _ _ (fun z => absurd z.1 (by decide))).trans ((gU_ne _ _ _ _ (fun z => absurd z.1 (by decide))).trans ((gU_ne _ _ _ _ (fun z => absurd z.1 (by decide))).trans ((gU_ne _ _ _ _ (fun z => absurd z.1 (by decide))).trans ((gU_ne _ _ _ _ (fun z => absurd z.1 (by decide))).trans ((gU_ne _ _ _ _ (fun z => absurd z.1 (by decide))).trans ((gU_ne _ _ _ _ (fun z => absurd z.1 (by decide))).trans ((gO_out (by simp)).trans ((gU_ne _ _ _ _ (fun z => absurd z.1 (by decide))).trans ((gU_ne _ _ _ _ (fun z => absurd z.1 (by decide))).trans ((gO_out (by simp [cellsL_m])).trans ((gU_ne _ _ _ _ (fun z => absurd z.1 (by decide))).trans ((gU_ne _ _ _ _ (fun z => absurd z.1 (by decide))).trans (gO_in (by simp)))))))))))))))))
  rcases List.mem_append.mp hq with hq | hq
  rotate_left
  · cases List.mem_singleton.mp hq
    exact ((gO_out (by simp [cellsL_m])).trans ((gO_out (by simp [cellsL_m])).trans ((gU_ne _ _ _ _ (fun z => absurd z.1 (by decide))).trans ((gU_ne _ _ _ _ (fun z => absurd z.1 (by decide))).trans ((gU_ne _ _ _ _ (fun z => absurd z.1 (by decide))).trans ((gU_ne _ _ _ _ (fun z => absurd z.1 (by decide))).trans ((gU_ne _ _ _ _ (fun z => absurd z.1 (by decide))).trans ((gU_ne _ _ _ _ (fun z => absurd z.1 (by decide))).trans ((gU_ne _ _ _ _ (fun z => absurd z.1 (by decide))).trans ((gO_out (by simp)).trans ((gU_ne _ _ _ _ (fun z => absurd z.1 (by decide))).trans ((gU_ne _ _ _ _ (fun z => absurd z.1 (by decide))).trans ((gO_out (by simp [cellsL_m])).trans ((gU_ne _ _ _ _ (fun z => absurd z.1 (by decide))).trans ((gU_ne _ _ _ _ (fun z => absurd z.1 (by decide))).trans (gO_in (by simp)))))))))))))))))
  rcases List.mem_append.mp hq with hq | hq
  rotate_left
  · cases List.mem_singleton.mp hq
    exact ((gO_out (by simp [cellsL_m])).trans ((gO_out (by simp [cellsL_m])).trans ((gU_ne _ _ _ _ (fun z => absurd z.1 (by decide))).trans ((gU_ne _ _ _ _ (fun z => absurd z.1 (by decide))).trans ((gU_ne _ _ _ _ (fun z => absurd z.1 (by decide))).trans ((gU_ne _ _ _ _ (fun z => absurd z.1 (by decide))).trans ((gU_ne _ _ _ _ (fun z => absurd z.1 (by decide))).trans ((gU_ne _ _ _ _ (fun z => absurd z.1 (by decide))).trans ((gU_ne _ _ _ _ (fun z => absurd z.1 (by decide))).trans ((gO_out (by simp)).trans ((gU_ne _ _ _ _ (fun z => absurd z.1 (by decide))).trans ((gU_ne _ _ _ _ (fun z => absurd z.1 (by decide))).trans ((gO_out (by simp [cellsL_m])).trans ((gU_ne _ _ _ _ (fun z => absurd z.1 (by decide))).trans ((gU_ne _ _ _ _ (fun z => absurd z.1 (by decide))).trans (gO_in (by simp)))))))))))))))))
  rcases List.mem_append.mp hq with hq | hq
  rotate_left
  · cases List.mem_singleton.mp hq
    exact ((gO_out (by simp [cellsL_m])).trans ((gO_out (by simp [cellsL_m])).trans ((gU_ne _ _ _ _ (fun z => absurd z.1 (by decide))).trans ((gU_ne _ _ _ _ (fun z => absurd z.1 (by decide))).trans ((gU_ne _ _ _ _ (fun z => absurd z.1 (by decide))).trans ((gU_ne _ _ _ _ (fun z => absurd z.1 (by decide))).trans ((gU_ne _ _ _ _ (fun z => absurd z.1 (by decide))).trans ((gU_ne _ _ _ _ (fun z => absurd z.1 (by decide))).trans ((gU_ne _ _ _ _ (fun z => absurd z.1 (by decide))).trans ((gO_out (by simp)).trans ((gU_ne _ _ _ _ (fun z => absurd z.1 (by decide))).trans ((gU_ne _ _ _ _ (fun z => absurd z.1 (by decide))).trans ((gO_out (by simp [cellsL_m])).trans ((gU_ne _ _ _ _ (fun z => absurd z.1 (by decide))).trans ((gU_ne _ _ _ _ (fun z => absurd z.1 (by decide))).trans (gO_in (by simp)))))))))))))))))
  rcases List.mem_append.mp hq with hq | hq
  rotate_left
  · cases List.mem_singleton.mp hq
    exact ((gO_out (by simp [cellsL_m])).trans ((gO_out (by simp [cellsL_m])).trans ((gU_ne _ _ _ _ (fun z => absurd z.1 (by decide))).trans ((gU_ne _ _ _ _ (fun z => absurd z.1 (by decide))).trans ((gU_ne _ _ _ _ (fun z => absurd z.1 (by decide))).trans ((gU_ne _ _ _ _ (fun z => absurd z.1 (by decide))).trans ((gU_ne _ _ _ _ (fun z => absurd z.1 (by decide))).trans ((gU_ne _ _ _ _ (fun z => absurd z.1 (by decide))).trans ((gU_ne _ _ _ _ (fun z => absurd z.1 (by decide))).trans ((gO_out (by simp)).trans ((gU_ne _ _ _ _ (fun z => absurd z.1 (by decide))).trans ((gU_ne _ _ _ _ (fun z => absurd z.1 (by decide))).trans ((gO_out (by simp [cellsL_m])).trans ((gU_ne _ _ _ _ (fun z => absurd z.1 (by decide))).trans ((gU_ne _ _ _ _ (fun z => absurd z.1 (by decide))).trans (gO_in (by simp)))))))))))))))))
  rcases List.mem_append.mp hq with hq | hq
  rotate_left
  · cases List.mem_singleton.mp hq
    exact (gO_in (by simp))
  rcases List.mem_append.mp hq with hq | hq
  rotate_left
  · cases List.mem_singleton.mp hq
    exact ((gO_out (by simp [cellsL_m])).trans (gO_in (by simp)))
  cases List.mem_singleton.mp hq
  exact ((gO_out (by simp [cellsL_m])).trans ((gO_out (by simp [cellsL_m])).trans (gU_self _ _ _ _))).trans (clC_0 (wd w) (wa w) 0 (i0 0) y0).symm
