/-! ===== the law: rows with both worlds ===== -/
abbrev Ab (s : State) : Nat → Prop := fun q => s.heap.size ≤ q
def CxL (x : Ctx) (wc wm : Wp) (b Ls : Nat) (xs : Nat → Int32) : Prop :=
  (xP x).tables.exec = Jvm.exec ∧ (xC x).code = code ∧ (xC x).maxLocals = 4 ∧ (xS x).vm.findClass RL = some (xM x).cls ∧ (∀ q ∈ lw_good, q.before (xA x) (xS x) = true) ∧ ((xR x).frames = 11 ∧ (xR x).locals = 428 ∧ xk x ≤ (xR x).cells ∧ xn x ≤ (xR x).slots) ∧ (Kn wc (xS x) ∧ Kn wm (xS x)) ∧ ((∀ σ, va_D (wA wc) (wl WC wc σ)) ∧ ∀ σ, va_D (wA wm) (wl WM wm σ)) ∧ (∀ q, wA wc q → ¬ wA wm q) ∧ (∀ q, wA wc q → (xS x).heap.size ≤ q) ∧ (∀ q, wA wm q → (xS x).heap.size ≤ q) ∧ va_X b Ls xs (xS x) (xS x).heap ∧ b < (xS x).heap.size ∧ Ls ≤ 3072
def VL (x : Ctx) (wc wm : Wp) (Q : State → Prop) (σ τ : St) (pc : Nat) (L : List (Nat × Value)) (st : List Value) : Prop :=
  ∀ (H : Heap) (locs : List Loc) (ls : Array Slot), va_P (wD wc) vwCl (wl WC wc σ) H → va_P (wD wm) vwCl (wl WM wm τ) H → va_S (Ab (xS x)) (xS x).heap H locs → lv_has ls 4 L → Wx x H locs Q (F0 (xM x) pc ls st)
abbrev LL (wc wm : Wp) (b i : Nat) : List (Nat × Value) := [(0, .ref b), (1, .ref (wa wc 0 0)), (2, .ref (wa wm 0 0)), (3, .int (nI i))]
section
variable {x : Ctx} {wc wm : Wp} {b Ls : Nat} {xs : Nat → Int32} {Q : State → Prop} {σ σ' τ τ' : St} {pc i : Nat} {L : List (Nat × Value)} {st : List Value}
theorem l_aload (C : CxL x wc wm b Ls xs) {q : Fin 4} {k : Nat} {v : Nat} (hd : decode code pc = .ok (.aload_n q, 1)) (hi : (q : Nat) = k) (j : Nat) (hj : L[j]? = some (k, .ref v)) (h : VL x wc wm Q σ τ (pc + 1) L (.ref v :: st)) : VL x wc wm Q σ τ pc L st := fun H locs ls hP hM hS hl => lv_aload_n C.1 C.2.1 hd hi (lv_at hl j hj) (h H locs ls hP hM hS hl)
theorem l_arg (C : CxL x wc wm b Ls xs) {j : Nat} {n : Int} (hn : Int32.ofInt n = nI j) (hij : i + j < Ls) (d0 : decode code pc = .ok (.aload_n 0, 1)) (d1 : decode code (pc + 1) = .ok (.iload_n 3, 1)) (d2 : decode code (pc + 1 + 1) = .ok (.iconst n, 1)) (d3 : decode code (pc + 1 + 1 + 1) = .ok (.iadd, 1)) (d4 : decode code (pc + 1 + 1 + 1 + 1) = .ok (.iaload, 1)) (h : VL x wc wm Q σ τ (pc + 5) (LL wc wm b i) (.int (xs (i + j)) :: st)) : VL x wc wm Q σ τ pc (LL wc wm b i) st := by
  obtain ⟨hx, hb, hml, hown, hts, hR, hK, hD, hdis, hac, ham, hX, hbl, hL⟩ := C
  intro H locs ls hP hM hS hl
  refine lv_aload_n hx hb d0 rfl (lv_at hl 0 rfl) ?_
  refine lv_iload_n hx hb d1 rfl (lv_at hl 3 rfl) ?_
  refine lv_iconst (v := nI j) hx hb d2 hn ?_
  refine lv_iadd hx hb d3 ?_
  have e : nI i + nI j = nI (i + j) := nI_add i j
  rw [e]
  have hc : (nI (i + j)).toNatClampNeg = i + j := nI_clamp (by omega)
  refine va_sld hx hb hX hbl (Nat.not_le.mpr hbl) hS (vp_in_nI hij (by omega)) d4 ?_
  rw [hc]
  exact h H locs ls hP hM hS hl
theorem l_icmp_eq (C : CxL x wc wm b Ls xs) {a : Int32} {off : Int} (hd : decode code pc = .ok (.if_icmp .eq off, 3)) (ht : (pc : Int) + off = (1728 : Int)) (h : VL x wc wm Q σ τ 1728 L st) : VL x wc wm Q σ τ pc L (.int a :: .int a :: st) := fun H locs ls hP hM hS hl => lv_icmp_eq (tgt := 1728) C.1 C.2.1 hd ht (fun _ => h H locs ls hP hM hS hl) (fun q => absurd rfl q)
theorem l_lcmp (C : CxL x wc wm b Ls xs) {a : Int64} {off : Int} (hd : decode code pc = .ok (.lcmp, 1)) (hd2 : decode code (pc + 1) = .ok (.ifCond .eq off, 3)) (ht : ((pc + 1 : Nat) : Int) + off = (1728 : Int)) (h : VL x wc wm Q σ τ 1728 L st) : VL x wc wm Q σ τ pc L (.long a :: .long a :: st) := fun H locs ls hP hM hS hl => by
  refine W.lcmp C.1 C.2.1 hd ?_
  refine lv_if_eq (tgt := 1728) C.1 C.2.1 hd2 ht (fun _ => h H locs ls hP hM hS hl) (fun q => absurd ?_ q)
  unfold lg_cmp
  rw [if_neg (fun h => absurd h (by rw [gt_iff_lt]; exact Int64.lt_irrefl)), if_pos rfl]
theorem Kn_at {w : Wp} {s U : State} {H : Heap} {locs : List Loc} (h : Kn w s) (hA : ∀ q, wA w q → s.heap.size ≤ q) (hS : va_S (Ab s) s.heap H locs) (hU : U.heap = H) (hW : s.WarmedH U.vm) : Kn w U :=
  h.to (locs := []) ⟨hS.1, fun q h1 _ => hS.2.1 q h1 (Nat.not_le.mpr h1), fun _ h => by cases h⟩ hU hW
/-- a call of the class -/
theorem l_callC (C : CxL x wc wm b Ls xs) {y : MethodName} {bytes : ByteArray} {maxL n idx l2 : Nat} {rt : Option FieldType} {As rest : List Value} {v : Value} (hM : Cm (xL x) y (.code y bytes maxL rt) l2 WC wc (.ref (wa wc 0 0) :: As) σ (some v) σ') (h1 : Cond.methodLink RL idx y ∈ lw_good) (h2 : Cond.instanceMethod y ∈ lw_good) (h3 : Cond.selects RX11 y y ∈ lw_good) (h4 : Cond.initialized RX11 ∈ lw_good) (h5 : Cond.code y bytes maxL rt ∈ lw_good)
    (hy : y.cls = RX11 ∧ y.cls ≠ "java/lang/invoke/MethodHandle" ∧ y.cls ≠ "java/lang/invoke/VarHandle" ∧ (parseMethodDescriptor y.desc).map (fun d => d.parameters.length) = some n) (hn : As.length = n) (hlv : l2 ≤ 9) (hml2 : maxL ≤ 21) {st0 : List Value} (hst : st0 = As.reverse ++ .ref (wa wc 0 0) :: rest) (hW : (rest.map fun v => v.category).sum ≤ 8) (hd : decode code pc = .ok (.invokevirtual idx, 3)) (h : VL x wc wm Q σ' τ (pc + 3) L (v :: rest)) : VL x wc wm Q σ τ pc L st0 := by
  obtain ⟨hx, hb, hml, hown, hts, hR, hK, hD, hdis, hac, ham, hX, hbl, hL⟩ := C
  obtain ⟨q0, hq0⟩ := List.getElem?_of_mem (show (0, 0) ∈ WC.1 from mc_0)
  intro H locs ls hP hM' hS hl
  have hg := wl_get (w := wc) (σ := σ) hq0
  have run := va_runV (g := F0 (xM x) pc ls st0) (cells := xk x) (slots := xn x) (H := H) (locs := locs) (p := xP x) (e := xE x) (below := xB x) (meth := xT x) (As := As) (rest := rest) ⟨hx, hb, hml, hown, hts⟩ hM (cwV n hts (lw_gV h1 h2 h3 h4 h5) rfl rfl rfl hy ⟨by rw [hR.1]; show l2 + 1 ≤ 11; omega, by rw [hR.2.1]; show 8 + (maxL + 11) + 40 * l2 ≤ 428; omega⟩) ⟨Wd.blind, va_recv hK.1.1 hP (ci := 11) rfl hg, fun U hU hW1 => ⟨rfl, by rw [hU]; exact hP, Kn_at hK.1 hac hS hU hW1, hD.1 σ⟩⟩ rfl hn hl.1 hst (lv_room hW) hd ⟨hR.2.2.1, hR.2.2.2⟩
  intro T hT X
  obtain ⟨v', st₀, t, T', Lo, h0, X', hLo, e1, e2, ⟨hv, hp, hz, hk⟩, sq⟩ := run T hT X
  cases hv
  rw [h0] at hz hk
  have hMk : va_P (wD wm) vwCl (wl WM wm τ) T'.heap := hM'.kept (fun k q hq => by
    have hlt := (hM' k q hq).lt
    rw [e1]
    exact hk q.1 hlt (fun z => hdis q.1 z ((hD.2 τ).2 k q hq)))
  obtain ⟨t2, a1, b1⟩ := h T'.heap (locs ++ Lo) ls (by rw [e1]; exact hp) hMk ⟨Nat.le_trans hS.1 (by rw [e1]; exact hz), fun q h1 h2 => by rw [e1, hk q (Nat.lt_of_lt_of_le h1 hS.1) (fun z => h2 (hac q z))]; exact hS.2.1 q h1 h2, fun q hq => by
      rcases List.mem_append.mp hq with h | h
      · exact hS.2.2 q h
      · exact hac _ (hLo q h)⟩ hl T' rfl X'
  exact ⟨t2, sq t2 a1, b1⟩
/-- a call of the reference -/
theorem l_callM (C : CxL x wc wm b Ls xs) {y : MethodName} {bytes : ByteArray} {maxL n idx l2 : Nat} {rt : Option FieldType} {As rest : List Value} {v : Value} (hM : Cm (xL x) y (.code y bytes maxL rt) l2 WM wm (.ref (wa wm 0 0) :: As) τ (some v) τ') (h1 : Cond.methodLink RL idx y ∈ lw_good) (h2 : Cond.instanceMethod y ∈ lw_good) (h3 : Cond.selects RX12 y y ∈ lw_good) (h4 : Cond.initialized RX12 ∈ lw_good) (h5 : Cond.code y bytes maxL rt ∈ lw_good)
    (hy : y.cls = RX12 ∧ y.cls ≠ "java/lang/invoke/MethodHandle" ∧ y.cls ≠ "java/lang/invoke/VarHandle" ∧ (parseMethodDescriptor y.desc).map (fun d => d.parameters.length) = some n) (hn : As.length = n) (hlv : l2 ≤ 9) (hml2 : maxL ≤ 21) {st0 : List Value} (hst : st0 = As.reverse ++ .ref (wa wm 0 0) :: rest) (hW : (rest.map fun v => v.category).sum ≤ 8) (hd : decode code pc = .ok (.invokevirtual idx, 3)) (h : VL x wc wm Q σ τ' (pc + 3) L (v :: rest)) : VL x wc wm Q σ τ pc L st0 := by
  obtain ⟨hx, hb, hml, hown, hts, hR, hK, hD, hdis, hac, ham, hX, hbl, hL⟩ := C
  obtain ⟨q0, hq0⟩ := List.getElem?_of_mem (show (0, 0) ∈ WM.1 from mm_0)
  intro H locs ls hP hM' hS hl
  have hg := wl_get (w := wm) (σ := τ) hq0
  have run := va_runV (g := F0 (xM x) pc ls st0) (cells := xk x) (slots := xn x) (H := H) (locs := locs) (p := xP x) (e := xE x) (below := xB x) (meth := xT x) (As := As) (rest := rest) ⟨hx, hb, hml, hown, hts⟩ hM (cwV n hts (lw_gV h1 h2 h3 h4 h5) rfl rfl rfl hy ⟨by rw [hR.1]; show l2 + 1 ≤ 11; omega, by rw [hR.2.1]; show 8 + (maxL + 11) + 40 * l2 ≤ 428; omega⟩) ⟨Wd.blind, va_recv hK.2.1 hM' (ci := 12) rfl hg, fun U hU hW1 => ⟨rfl, by rw [hU]; exact hM', Kn_at hK.2 ham hS hU hW1, hD.2 τ⟩⟩ rfl hn hl.1 hst (lv_room hW) hd ⟨hR.2.2.1, hR.2.2.2⟩
  intro T hT X
  obtain ⟨v', st₀, t, T', Lo, h0, X', hLo, e1, e2, ⟨hv, hp, hz, hk⟩, sq⟩ := run T hT X
  cases hv
  rw [h0] at hz hk
  have hMk : va_P (wD wc) vwCl (wl WC wc σ) T'.heap := hP.kept (fun k q hq => by
    have hlt := (hP k q hq).lt
    rw [e1]
    exact hk q.1 hlt (fun z => hdis q.1 ((hD.1 σ).2 k q hq) z))
  obtain ⟨t2, a1, b1⟩ := h T'.heap (locs ++ Lo) ls hMk (by rw [e1]; exact hp) ⟨Nat.le_trans hS.1 (by rw [e1]; exact hz), fun q h1 h2 => by rw [e1, hk q (Nat.lt_of_lt_of_le h1 hS.1) (fun z => h2 (ham q z))]; exact hS.2.1 q h1 h2, fun q hq => by
      rcases List.mem_append.mp hq with h | h
      · exact hS.2.2 q h
      · exact ham _ (hLo q h)⟩ hl T' rfl X'
  exact ⟨t2, sq t2 a1, b1⟩
theorem l_tabIn (C : CxL x wc wm b Ls xs) {dflt lo hi : Int} {offs : Array Int} {len : Nat} {a v : Int32} {off : Int} {tgt : Nat} (hd : decode code pc = .ok (.tableswitch dflt lo hi offs, len)) (hv : a = v) (h1 : ¬ v.toInt < lo) (h2 : ¬ hi < v.toInt) (ho : offs[(v.toInt - lo).toNat]? = some off) (ht : (pc : Int) + off = (tgt : Int)) (h : VL x wc wm Q σ τ tgt L st) : VL x wc wm Q σ τ pc L (.int a :: st) := by
  subst hv
  exact fun H locs ls hP hM hS hl => lv_tableIn C.1 C.2.1 hd h1 h2 ho ht (h H locs ls hP hM hS hl)
theorem l_tabOut (C : CxL x wc wm b Ls xs) {dflt lo hi : Int} {offs : Array Int} {len : Nat} {a : Int32} {tgt : Nat} (hd : decode code pc = .ok (.tableswitch dflt lo hi offs, len)) (h1 : a.toInt < lo ∨ hi < a.toInt) (ht : (pc : Int) + dflt = (tgt : Int)) (h : VL x wc wm Q σ τ tgt L st) : VL x wc wm Q σ τ pc L (.int a :: st) :=
  fun H locs ls hP hM hS hl => lv_tableOut C.1 C.2.1 hd h1 ht (h H locs ls hP hM hS hl)
end
def Stp_0 (I : St → St → Prop) : Prop := ∀ (a1 : Int32) (a2 : Int32) (σ τ : St), I σ τ → ∃ (r : Int32) (σ' τ' : St), (Q_row a1 a2 σ = some (r, σ')) ∧ (M_row a1 a2 τ = some (r, τ')) ∧ I σ' τ'
set_option maxHeartbeats 400000 in
set_option maxRecDepth 100000 in
theorem law_0 {x : Ctx} {wc wm : Wp} {b Ls : Nat} {xs : Nat → Int32} {Q : State → Prop} {σ τ : St} {i : Nat} {I : St → St → Prop} (C : CxL x wc wm b Ls xs) (hi : i + 6 ≤ Ls) (hI : I σ τ) (hs : Stp_0 I) (hk0 : ∀ σ' τ', I σ' τ' → VL x wc wm Q σ' τ' 1728 (LL wc wm b i) []) : VL x wc wm Q σ τ 252 (LL wc wm b i) [] := by
  obtain ⟨r, σ', τ', hC, hM, hI'⟩ := hs (xs (i + 1)) (xs (i + 2)) σ τ hI
  have hk := hk0 σ' τ' hI'
  refine l_aload C dL_law_252 rfl 1 rfl ?_
  refine l_arg (j := 1) C rfl (by omega) dL_law_253 dL_law_254 dL_law_255 dL_law_256 dL_law_257 ?_
  refine l_arg (j := 2) C rfl (by omega) dL_law_258 dL_law_259 dL_law_260 dL_law_261 dL_law_262 ?_
  refine l_callC (n := 2) (As := [.int (xs (i + 1)), .int (xs (i + 2))]) (rest := []) C (m_X11_row hC) q_413 q_414 q_415 q_1 q_416 ⟨rfl, by decide +kernel, by decide +kernel, by decide +kernel⟩ rfl (by decide) (by decide) rfl (Nat.le_of_ble_eq_true rfl) dL_law_263 ?_
  refine l_aload C dL_law_266 rfl 2 rfl ?_
  refine l_arg (j := 1) C rfl (by omega) dL_law_267 dL_law_268 dL_law_269 dL_law_270 dL_law_271 ?_
  refine l_arg (j := 2) C rfl (by omega) dL_law_272 dL_law_273 dL_law_274 dL_law_275 dL_law_276 ?_
  refine l_callM (n := 2) (As := [.int (xs (i + 1)), .int (xs (i + 2))]) (rest := [.int r]) C (m_X12_row hM) q_1095 q_1096 q_1097 q_14 q_1098 ⟨rfl, by decide +kernel, by decide +kernel, by decide +kernel⟩ rfl (by decide) (by decide) rfl (Nat.le_of_ble_eq_true rfl) dL_law_277 ?_
  exact l_icmp_eq C dL_law_280 (by decide) hk
def Stp_1 (I : St → St → Prop) : Prop := ∀ (a1 : Int32) (a2 : Int32) (a3 : Int32) (σ τ : St), I σ τ → ∃ (r : Int32) (σ' τ' : St), (Q_lay a1 a2 a3 σ = some (r, σ')) ∧ (M_lay a1 a2 a3 τ = some (r, τ')) ∧ I σ' τ'
set_option maxHeartbeats 400000 in
set_option maxRecDepth 100000 in
theorem law_1 {x : Ctx} {wc wm : Wp} {b Ls : Nat} {xs : Nat → Int32} {Q : State → Prop} {σ τ : St} {i : Nat} {I : St → St → Prop} (C : CxL x wc wm b Ls xs) (hi : i + 6 ≤ Ls) (hI : I σ τ) (hs : Stp_1 I) (hk0 : ∀ σ' τ', I σ' τ' → VL x wc wm Q σ' τ' 1728 (LL wc wm b i) []) : VL x wc wm Q σ τ 285 (LL wc wm b i) [] := by
  obtain ⟨r, σ', τ', hC, hM, hI'⟩ := hs (xs (i + 1)) (xs (i + 2)) (xs (i + 3)) σ τ hI
  have hk := hk0 σ' τ' hI'
  refine l_aload C dL_law_285 rfl 1 rfl ?_
  refine l_arg (j := 1) C rfl (by omega) dL_law_286 dL_law_287 dL_law_288 dL_law_289 dL_law_290 ?_
  refine l_arg (j := 2) C rfl (by omega) dL_law_291 dL_law_292 dL_law_293 dL_law_294 dL_law_295 ?_
  refine l_arg (j := 3) C rfl (by omega) dL_law_296 dL_law_297 dL_law_298 dL_law_299 dL_law_300 ?_
  refine l_callC (n := 3) (As := [.int (xs (i + 1)), .int (xs (i + 2)), .int (xs (i + 3))]) (rest := []) C (m_X11_lay hC) q_429 q_430 q_431 q_1 q_432 ⟨rfl, by decide +kernel, by decide +kernel, by decide +kernel⟩ rfl (by decide) (by decide) rfl (Nat.le_of_ble_eq_true rfl) dL_law_301 ?_
  refine l_aload C dL_law_304 rfl 2 rfl ?_
  refine l_arg (j := 1) C rfl (by omega) dL_law_305 dL_law_306 dL_law_307 dL_law_308 dL_law_309 ?_
  refine l_arg (j := 2) C rfl (by omega) dL_law_310 dL_law_311 dL_law_312 dL_law_313 dL_law_314 ?_
  refine l_arg (j := 3) C rfl (by omega) dL_law_315 dL_law_316 dL_law_317 dL_law_318 dL_law_319 ?_
  refine l_callM (n := 3) (As := [.int (xs (i + 1)), .int (xs (i + 2)), .int (xs (i + 3))]) (rest := [.int r]) C (m_X12_lay hM) q_1109 q_1110 q_1111 q_14 q_1112 ⟨rfl, by decide +kernel, by decide +kernel, by decide +kernel⟩ rfl (by decide) (by decide) rfl (Nat.le_of_ble_eq_true rfl) dL_law_320 ?_
  exact l_icmp_eq C dL_law_323 (by decide) hk
def Stp_2 (I : St → St → Prop) : Prop := ∀ (a1 : Int32) (σ τ : St), I σ τ → ∃ (r : Int32) (σ' τ' : St), (Q_tear a1 σ = some (r, σ')) ∧ (M_tear a1 τ = some (r, τ')) ∧ I σ' τ'
set_option maxHeartbeats 400000 in
set_option maxRecDepth 100000 in
theorem law_2 {x : Ctx} {wc wm : Wp} {b Ls : Nat} {xs : Nat → Int32} {Q : State → Prop} {σ τ : St} {i : Nat} {I : St → St → Prop} (C : CxL x wc wm b Ls xs) (hi : i + 6 ≤ Ls) (hI : I σ τ) (hs : Stp_2 I) (hk0 : ∀ σ' τ', I σ' τ' → VL x wc wm Q σ' τ' 1728 (LL wc wm b i) []) : VL x wc wm Q σ τ 328 (LL wc wm b i) [] := by
  obtain ⟨r, σ', τ', hC, hM, hI'⟩ := hs (xs (i + 1)) σ τ hI
  have hk := hk0 σ' τ' hI'
  refine l_aload C dL_law_328 rfl 1 rfl ?_
  refine l_arg (j := 1) C rfl (by omega) dL_law_329 dL_law_330 dL_law_331 dL_law_332 dL_law_333 ?_
  refine l_callC (n := 1) (As := [.int (xs (i + 1))]) (rest := []) C (m_X11_tear hC) q_437 q_438 q_439 q_1 q_440 ⟨rfl, by decide +kernel, by decide +kernel, by decide +kernel⟩ rfl (by decide) (by decide) rfl (Nat.le_of_ble_eq_true rfl) dL_law_334 ?_
  refine l_aload C dL_law_337 rfl 2 rfl ?_
  refine l_arg (j := 1) C rfl (by omega) dL_law_338 dL_law_339 dL_law_340 dL_law_341 dL_law_342 ?_
  refine l_callM (n := 1) (As := [.int (xs (i + 1))]) (rest := [.int r]) C (m_X12_tear hM) q_1121 q_1122 q_1123 q_14 q_1124 ⟨rfl, by decide +kernel, by decide +kernel, by decide +kernel⟩ rfl (by decide) (by decide) rfl (Nat.le_of_ble_eq_true rfl) dL_law_343 ?_
  exact l_icmp_eq C dL_law_346 (by decide) hk
def Stp_3 (I : St → St → Prop) : Prop := ∀ (a1 : Int32) (a2 : Int32) (a3 : Int32) (a4 : Int32) (a5 : Int32) (σ τ : St), I σ τ → ∃ (r : Int32) (σ' τ' : St), (Q_copy a1 a2 a3 a4 a5 σ = some (r, σ')) ∧ (M_copy a1 a2 a3 a4 a5 τ = some (r, τ')) ∧ I σ' τ'
set_option maxHeartbeats 400000 in
set_option maxRecDepth 100000 in
theorem law_3 {x : Ctx} {wc wm : Wp} {b Ls : Nat} {xs : Nat → Int32} {Q : State → Prop} {σ τ : St} {i : Nat} {I : St → St → Prop} (C : CxL x wc wm b Ls xs) (hi : i + 6 ≤ Ls) (hI : I σ τ) (hs : Stp_3 I) (hk0 : ∀ σ' τ', I σ' τ' → VL x wc wm Q σ' τ' 1728 (LL wc wm b i) []) : VL x wc wm Q σ τ 351 (LL wc wm b i) [] := by
  obtain ⟨r, σ', τ', hC, hM, hI'⟩ := hs (xs (i + 1)) (xs (i + 2)) (xs (i + 3)) (xs (i + 4)) (xs (i + 5)) σ τ hI
  have hk := hk0 σ' τ' hI'
  refine l_aload C dL_law_351 rfl 1 rfl ?_
  refine l_arg (j := 1) C rfl (by omega) dL_law_352 dL_law_353 dL_law_354 dL_law_355 dL_law_356 ?_
  refine l_arg (j := 2) C rfl (by omega) dL_law_357 dL_law_358 dL_law_359 dL_law_360 dL_law_361 ?_
  refine l_arg (j := 3) C rfl (by omega) dL_law_362 dL_law_363 dL_law_364 dL_law_365 dL_law_366 ?_
  refine l_arg (j := 4) C rfl (by omega) dL_law_367 dL_law_368 dL_law_369 dL_law_370 dL_law_371 ?_
  refine l_arg (j := 5) C rfl (by omega) dL_law_372 dL_law_373 dL_law_374 dL_law_375 dL_law_376 ?_
  refine l_callC (n := 5) (As := [.int (xs (i + 1)), .int (xs (i + 2)), .int (xs (i + 3)), .int (xs (i + 4)), .int (xs (i + 5))]) (rest := []) C (m_X11_copy hC) q_441 q_442 q_443 q_1 q_444 ⟨rfl, by decide +kernel, by decide +kernel, by decide +kernel⟩ rfl (by decide) (by decide) rfl (Nat.le_of_ble_eq_true rfl) dL_law_377 ?_
  refine l_aload C dL_law_380 rfl 2 rfl ?_
  refine l_arg (j := 1) C rfl (by omega) dL_law_381 dL_law_382 dL_law_383 dL_law_384 dL_law_385 ?_
  refine l_arg (j := 2) C rfl (by omega) dL_law_386 dL_law_387 dL_law_388 dL_law_389 dL_law_390 ?_
  refine l_arg (j := 3) C rfl (by omega) dL_law_391 dL_law_392 dL_law_393 dL_law_394 dL_law_395 ?_
  refine l_arg (j := 4) C rfl (by omega) dL_law_396 dL_law_397 dL_law_398 dL_law_399 dL_law_400 ?_
  refine l_arg (j := 5) C rfl (by omega) dL_law_401 dL_law_402 dL_law_403 dL_law_404 dL_law_405 ?_
  refine l_callM (n := 5) (As := [.int (xs (i + 1)), .int (xs (i + 2)), .int (xs (i + 3)), .int (xs (i + 4)), .int (xs (i + 5))]) (rest := [.int r]) C (m_X12_copy hM) q_1125 q_1126 q_1127 q_14 q_1128 ⟨rfl, by decide +kernel, by decide +kernel, by decide +kernel⟩ rfl (by decide) (by decide) rfl (Nat.le_of_ble_eq_true rfl) dL_law_406 ?_
  exact l_icmp_eq C dL_law_409 (by decide) hk
def Stp_4 (I : St → St → Prop) : Prop := ∀ (a1 : Int32) (σ τ : St), I σ τ → ∃ (r : Int32) (σ' τ' : St), (Q_mean a1 σ = some (r, σ')) ∧ (M_mean a1 τ = some (r, τ')) ∧ I σ' τ'
set_option maxHeartbeats 400000 in
set_option maxRecDepth 100000 in
theorem law_4 {x : Ctx} {wc wm : Wp} {b Ls : Nat} {xs : Nat → Int32} {Q : State → Prop} {σ τ : St} {i : Nat} {I : St → St → Prop} (C : CxL x wc wm b Ls xs) (hi : i + 6 ≤ Ls) (hI : I σ τ) (hs : Stp_4 I) (hk0 : ∀ σ' τ', I σ' τ' → VL x wc wm Q σ' τ' 1728 (LL wc wm b i) []) : VL x wc wm Q σ τ 414 (LL wc wm b i) [] := by
  obtain ⟨r, σ', τ', hC, hM, hI'⟩ := hs (xs (i + 1)) σ τ hI
  have hk := hk0 σ' τ' hI'
  refine l_aload C dL_law_414 rfl 1 rfl ?_
  refine l_arg (j := 1) C rfl (by omega) dL_law_415 dL_law_416 dL_law_417 dL_law_418 dL_law_419 ?_
  refine l_callC (n := 1) (As := [.int (xs (i + 1))]) (rest := []) C (m_X11_mean hC) q_452 q_453 q_454 q_1 q_455 ⟨rfl, by decide +kernel, by decide +kernel, by decide +kernel⟩ rfl (by decide) (by decide) rfl (Nat.le_of_ble_eq_true rfl) dL_law_420 ?_
  refine l_aload C dL_law_423 rfl 2 rfl ?_
  refine l_arg (j := 1) C rfl (by omega) dL_law_424 dL_law_425 dL_law_426 dL_law_427 dL_law_428 ?_
  refine l_callM (n := 1) (As := [.int (xs (i + 1))]) (rest := [.int r]) C (m_X12_mean hM) q_1129 q_1130 q_1131 q_14 q_1132 ⟨rfl, by decide +kernel, by decide +kernel, by decide +kernel⟩ rfl (by decide) (by decide) rfl (Nat.le_of_ble_eq_true rfl) dL_law_429 ?_
  exact l_icmp_eq C dL_law_432 (by decide) hk
def Stp_5 (I : St → St → Prop) : Prop := ∀ (a1 : Int32) (a2 : Int32) (σ τ : St), I σ τ → ∃ (r : Int32) (σ' τ' : St), (Q_text a1 a2 σ = some (r, σ')) ∧ (M_text a1 a2 τ = some (r, τ')) ∧ I σ' τ'
set_option maxHeartbeats 400000 in
set_option maxRecDepth 100000 in
theorem law_5 {x : Ctx} {wc wm : Wp} {b Ls : Nat} {xs : Nat → Int32} {Q : State → Prop} {σ τ : St} {i : Nat} {I : St → St → Prop} (C : CxL x wc wm b Ls xs) (hi : i + 6 ≤ Ls) (hI : I σ τ) (hs : Stp_5 I) (hk0 : ∀ σ' τ', I σ' τ' → VL x wc wm Q σ' τ' 1728 (LL wc wm b i) []) : VL x wc wm Q σ τ 437 (LL wc wm b i) [] := by
  obtain ⟨r, σ', τ', hC, hM, hI'⟩ := hs (xs (i + 1)) (xs (i + 2)) σ τ hI
  have hk := hk0 σ' τ' hI'
  refine l_aload C dL_law_437 rfl 1 rfl ?_
  refine l_arg (j := 1) C rfl (by omega) dL_law_438 dL_law_439 dL_law_440 dL_law_441 dL_law_442 ?_
  refine l_arg (j := 2) C rfl (by omega) dL_law_443 dL_law_444 dL_law_445 dL_law_446 dL_law_447 ?_
  refine l_callC (n := 2) (As := [.int (xs (i + 1)), .int (xs (i + 2))]) (rest := []) C (m_X11_text hC) q_460 q_461 q_462 q_1 q_463 ⟨rfl, by decide +kernel, by decide +kernel, by decide +kernel⟩ rfl (by decide) (by decide) rfl (Nat.le_of_ble_eq_true rfl) dL_law_448 ?_
  refine l_aload C dL_law_451 rfl 2 rfl ?_
  refine l_arg (j := 1) C rfl (by omega) dL_law_452 dL_law_453 dL_law_454 dL_law_455 dL_law_456 ?_
  refine l_arg (j := 2) C rfl (by omega) dL_law_457 dL_law_458 dL_law_459 dL_law_460 dL_law_461 ?_
  refine l_callM (n := 2) (As := [.int (xs (i + 1)), .int (xs (i + 2))]) (rest := [.int r]) C (m_X12_text hM) q_1137 q_1138 q_1139 q_14 q_1140 ⟨rfl, by decide +kernel, by decide +kernel, by decide +kernel⟩ rfl (by decide) (by decide) rfl (Nat.le_of_ble_eq_true rfl) dL_law_462 ?_
  exact l_icmp_eq C dL_law_465 (by decide) hk
def Stp_6 (I : St → St → Prop) : Prop := ∀ (a1 : Int32) (a2 : Int32) (a3 : Int32) (σ τ : St), I σ τ → ∃ (r : Int32) (σ' τ' : St), (Q_put a1 a2 a3 σ = some (r, σ')) ∧ (M_put a1 a2 a3 τ = some (r, τ')) ∧ I σ' τ'
set_option maxHeartbeats 400000 in
set_option maxRecDepth 100000 in
theorem law_6 {x : Ctx} {wc wm : Wp} {b Ls : Nat} {xs : Nat → Int32} {Q : State → Prop} {σ τ : St} {i : Nat} {I : St → St → Prop} (C : CxL x wc wm b Ls xs) (hi : i + 6 ≤ Ls) (hI : I σ τ) (hs : Stp_6 I) (hk0 : ∀ σ' τ', I σ' τ' → VL x wc wm Q σ' τ' 1728 (LL wc wm b i) []) : VL x wc wm Q σ τ 470 (LL wc wm b i) [] := by
  obtain ⟨r, σ', τ', hC, hM, hI'⟩ := hs (xs (i + 1)) (xs (i + 2)) (xs (i + 3)) σ τ hI
  have hk := hk0 σ' τ' hI'
  refine l_aload C dL_law_470 rfl 1 rfl ?_
  refine l_arg (j := 1) C rfl (by omega) dL_law_471 dL_law_472 dL_law_473 dL_law_474 dL_law_475 ?_
  refine l_arg (j := 2) C rfl (by omega) dL_law_476 dL_law_477 dL_law_478 dL_law_479 dL_law_480 ?_
  refine l_arg (j := 3) C rfl (by omega) dL_law_481 dL_law_482 dL_law_483 dL_law_484 dL_law_485 ?_
  refine l_callC (n := 3) (As := [.int (xs (i + 1)), .int (xs (i + 2)), .int (xs (i + 3))]) (rest := []) C (m_X11_put hC) q_471 q_472 q_473 q_1 q_474 ⟨rfl, by decide +kernel, by decide +kernel, by decide +kernel⟩ rfl (by decide) (by decide) rfl (Nat.le_of_ble_eq_true rfl) dL_law_486 ?_
  refine l_aload C dL_law_489 rfl 2 rfl ?_
  refine l_arg (j := 1) C rfl (by omega) dL_law_490 dL_law_491 dL_law_492 dL_law_493 dL_law_494 ?_
  refine l_arg (j := 2) C rfl (by omega) dL_law_495 dL_law_496 dL_law_497 dL_law_498 dL_law_499 ?_
  refine l_arg (j := 3) C rfl (by omega) dL_law_500 dL_law_501 dL_law_502 dL_law_503 dL_law_504 ?_
  refine l_callM (n := 3) (As := [.int (xs (i + 1)), .int (xs (i + 2)), .int (xs (i + 3))]) (rest := [.int r]) C (m_X12_put hM) q_1144 q_1145 q_1146 q_14 q_1147 ⟨rfl, by decide +kernel, by decide +kernel, by decide +kernel⟩ rfl (by decide) (by decide) rfl (Nat.le_of_ble_eq_true rfl) dL_law_505 ?_
  exact l_icmp_eq C dL_law_508 (by decide) hk
def Stp_7 (I : St → St → Prop) : Prop := ∀ (a1 : Int32) (σ τ : St), I σ τ → ∃ (r : Int32) (σ' τ' : St), (Q_instance a1 σ = some (r, σ')) ∧ (M_instance a1 τ = some (r, τ')) ∧ I σ' τ'
set_option maxHeartbeats 400000 in
set_option maxRecDepth 100000 in
theorem law_7 {x : Ctx} {wc wm : Wp} {b Ls : Nat} {xs : Nat → Int32} {Q : State → Prop} {σ τ : St} {i : Nat} {I : St → St → Prop} (C : CxL x wc wm b Ls xs) (hi : i + 6 ≤ Ls) (hI : I σ τ) (hs : Stp_7 I) (hk0 : ∀ σ' τ', I σ' τ' → VL x wc wm Q σ' τ' 1728 (LL wc wm b i) []) : VL x wc wm Q σ τ 513 (LL wc wm b i) [] := by
  obtain ⟨r, σ', τ', hC, hM, hI'⟩ := hs (xs (i + 1)) σ τ hI
  have hk := hk0 σ' τ' hI'
  refine l_aload C dL_law_513 rfl 1 rfl ?_
  refine l_arg (j := 1) C rfl (by omega) dL_law_514 dL_law_515 dL_law_516 dL_law_517 dL_law_518 ?_
  refine l_callC (n := 1) (As := [.int (xs (i + 1))]) (rest := []) C (m_X11_instance hC) q_475 q_476 q_477 q_1 q_478 ⟨rfl, by decide +kernel, by decide +kernel, by decide +kernel⟩ rfl (by decide) (by decide) rfl (Nat.le_of_ble_eq_true rfl) dL_law_519 ?_
  refine l_aload C dL_law_522 rfl 2 rfl ?_
  refine l_arg (j := 1) C rfl (by omega) dL_law_523 dL_law_524 dL_law_525 dL_law_526 dL_law_527 ?_
  refine l_callM (n := 1) (As := [.int (xs (i + 1))]) (rest := [.int r]) C (m_X12_instance hM) q_1152 q_1153 q_1154 q_14 q_1155 ⟨rfl, by decide +kernel, by decide +kernel, by decide +kernel⟩ rfl (by decide) (by decide) rfl (Nat.le_of_ble_eq_true rfl) dL_law_528 ?_
  exact l_icmp_eq C dL_law_531 (by decide) hk
def Stp_8 (I : St → St → Prop) : Prop := ∀ (a1 : Int32) (a2 : Int32) (a3 : Int32) (σ τ : St), I σ τ → ∃ (r : Int32) (σ' τ' : St), (Q_master a1 a2 a3 σ = some (r, σ')) ∧ (M_master a1 a2 a3 τ = some (r, τ')) ∧ I σ' τ'
set_option maxHeartbeats 400000 in
set_option maxRecDepth 100000 in
theorem law_8 {x : Ctx} {wc wm : Wp} {b Ls : Nat} {xs : Nat → Int32} {Q : State → Prop} {σ τ : St} {i : Nat} {I : St → St → Prop} (C : CxL x wc wm b Ls xs) (hi : i + 6 ≤ Ls) (hI : I σ τ) (hs : Stp_8 I) (hk0 : ∀ σ' τ', I σ' τ' → VL x wc wm Q σ' τ' 1728 (LL wc wm b i) []) : VL x wc wm Q σ τ 536 (LL wc wm b i) [] := by
  obtain ⟨r, σ', τ', hC, hM, hI'⟩ := hs (xs (i + 1)) (xs (i + 2)) (xs (i + 3)) σ τ hI
  have hk := hk0 σ' τ' hI'
  refine l_aload C dL_law_536 rfl 1 rfl ?_
  refine l_arg (j := 1) C rfl (by omega) dL_law_537 dL_law_538 dL_law_539 dL_law_540 dL_law_541 ?_
  refine l_arg (j := 2) C rfl (by omega) dL_law_542 dL_law_543 dL_law_544 dL_law_545 dL_law_546 ?_
  refine l_arg (j := 3) C rfl (by omega) dL_law_547 dL_law_548 dL_law_549 dL_law_550 dL_law_551 ?_
  refine l_callC (n := 3) (As := [.int (xs (i + 1)), .int (xs (i + 2)), .int (xs (i + 3))]) (rest := []) C (m_X11_master hC) q_483 q_484 q_485 q_1 q_486 ⟨rfl, by decide +kernel, by decide +kernel, by decide +kernel⟩ rfl (by decide) (by decide) rfl (Nat.le_of_ble_eq_true rfl) dL_law_552 ?_
  refine l_aload C dL_law_555 rfl 2 rfl ?_
  refine l_arg (j := 1) C rfl (by omega) dL_law_556 dL_law_557 dL_law_558 dL_law_559 dL_law_560 ?_
  refine l_arg (j := 2) C rfl (by omega) dL_law_561 dL_law_562 dL_law_563 dL_law_564 dL_law_565 ?_
  refine l_arg (j := 3) C rfl (by omega) dL_law_566 dL_law_567 dL_law_568 dL_law_569 dL_law_570 ?_
  refine l_callM (n := 3) (As := [.int (xs (i + 1)), .int (xs (i + 2)), .int (xs (i + 3))]) (rest := [.int r]) C (m_X12_master hM) q_1159 q_1160 q_1161 q_14 q_1162 ⟨rfl, by decide +kernel, by decide +kernel, by decide +kernel⟩ rfl (by decide) (by decide) rfl (Nat.le_of_ble_eq_true rfl) dL_law_571 ?_
  exact l_icmp_eq C dL_law_574 (by decide) hk
def Stp_9 (I : St → St → Prop) : Prop := ∀ (a1 : Int32) (a2 : Int32) (a3 : Int32) (a4 : Int32) (a5 : Int32) (σ τ : St), I σ τ → ∃ (r : Int32) (σ' τ' : St), (Q_saying a1 a2 a3 a4 a5 σ = some (r, σ')) ∧ (M_saying a1 a2 a3 a4 a5 τ = some (r, τ')) ∧ I σ' τ'
set_option maxHeartbeats 400000 in
set_option maxRecDepth 100000 in
theorem law_9 {x : Ctx} {wc wm : Wp} {b Ls : Nat} {xs : Nat → Int32} {Q : State → Prop} {σ τ : St} {i : Nat} {I : St → St → Prop} (C : CxL x wc wm b Ls xs) (hi : i + 6 ≤ Ls) (hI : I σ τ) (hs : Stp_9 I) (hk0 : ∀ σ' τ', I σ' τ' → VL x wc wm Q σ' τ' 1728 (LL wc wm b i) []) : VL x wc wm Q σ τ 579 (LL wc wm b i) [] := by
  obtain ⟨r, σ', τ', hC, hM, hI'⟩ := hs (xs (i + 1)) (xs (i + 2)) (xs (i + 3)) (xs (i + 4)) (xs (i + 5)) σ τ hI
  have hk := hk0 σ' τ' hI'
  refine l_aload C dL_law_579 rfl 1 rfl ?_
  refine l_arg (j := 1) C rfl (by omega) dL_law_580 dL_law_581 dL_law_582 dL_law_583 dL_law_584 ?_
  refine l_arg (j := 2) C rfl (by omega) dL_law_585 dL_law_586 dL_law_587 dL_law_588 dL_law_589 ?_
  refine l_arg (j := 3) C rfl (by omega) dL_law_590 dL_law_591 dL_law_592 dL_law_593 dL_law_594 ?_
  refine l_arg (j := 4) C rfl (by omega) dL_law_595 dL_law_596 dL_law_597 dL_law_598 dL_law_599 ?_
  refine l_arg (j := 5) C rfl (by omega) dL_law_600 dL_law_601 dL_law_602 dL_law_603 dL_law_604 ?_
  refine l_callC (n := 5) (As := [.int (xs (i + 1)), .int (xs (i + 2)), .int (xs (i + 3)), .int (xs (i + 4)), .int (xs (i + 5))]) (rest := []) C (m_X11_saying hC) q_496 q_497 q_498 q_1 q_499 ⟨rfl, by decide +kernel, by decide +kernel, by decide +kernel⟩ rfl (by decide) (by decide) rfl (Nat.le_of_ble_eq_true rfl) dL_law_605 ?_
  refine l_aload C dL_law_608 rfl 2 rfl ?_
  refine l_arg (j := 1) C rfl (by omega) dL_law_609 dL_law_610 dL_law_611 dL_law_612 dL_law_613 ?_
  refine l_arg (j := 2) C rfl (by omega) dL_law_614 dL_law_615 dL_law_616 dL_law_617 dL_law_618 ?_
  refine l_arg (j := 3) C rfl (by omega) dL_law_619 dL_law_620 dL_law_621 dL_law_622 dL_law_623 ?_
  refine l_arg (j := 4) C rfl (by omega) dL_law_624 dL_law_625 dL_law_626 dL_law_627 dL_law_628 ?_
  refine l_arg (j := 5) C rfl (by omega) dL_law_629 dL_law_630 dL_law_631 dL_law_632 dL_law_633 ?_
  refine l_callM (n := 5) (As := [.int (xs (i + 1)), .int (xs (i + 2)), .int (xs (i + 3)), .int (xs (i + 4)), .int (xs (i + 5))]) (rest := [.int r]) C (m_X12_saying hM) q_1167 q_1168 q_1169 q_14 q_1170 ⟨rfl, by decide +kernel, by decide +kernel, by decide +kernel⟩ rfl (by decide) (by decide) rfl (Nat.le_of_ble_eq_true rfl) dL_law_634 ?_
  exact l_icmp_eq C dL_law_637 (by decide) hk
def Stp_10 (I : St → St → Prop) : Prop := ∀ (a1 : Int32) (a2 : Int32) (a3 : Int32) (σ τ : St), I σ τ → ∃ (r : Int32) (σ' τ' : St), (Q_sayings a1 a2 a3 σ = some (r, σ')) ∧ (M_sayings a1 a2 a3 τ = some (r, τ')) ∧ I σ' τ'
set_option maxHeartbeats 400000 in
set_option maxRecDepth 100000 in
theorem law_10 {x : Ctx} {wc wm : Wp} {b Ls : Nat} {xs : Nat → Int32} {Q : State → Prop} {σ τ : St} {i : Nat} {I : St → St → Prop} (C : CxL x wc wm b Ls xs) (hi : i + 6 ≤ Ls) (hI : I σ τ) (hs : Stp_10 I) (hk0 : ∀ σ' τ', I σ' τ' → VL x wc wm Q σ' τ' 1728 (LL wc wm b i) []) : VL x wc wm Q σ τ 642 (LL wc wm b i) [] := by
  obtain ⟨r, σ', τ', hC, hM, hI'⟩ := hs (xs (i + 1)) (xs (i + 2)) (xs (i + 3)) σ τ hI
  have hk := hk0 σ' τ' hI'
  refine l_aload C dL_law_642 rfl 1 rfl ?_
  refine l_arg (j := 1) C rfl (by omega) dL_law_643 dL_law_644 dL_law_645 dL_law_646 dL_law_647 ?_
  refine l_arg (j := 2) C rfl (by omega) dL_law_648 dL_law_649 dL_law_650 dL_law_651 dL_law_652 ?_
  refine l_arg (j := 3) C rfl (by omega) dL_law_653 dL_law_654 dL_law_655 dL_law_656 dL_law_657 ?_
  refine l_callC (n := 3) (As := [.int (xs (i + 1)), .int (xs (i + 2)), .int (xs (i + 3))]) (rest := []) C (m_X11_sayings hC) q_517 q_518 q_519 q_1 q_520 ⟨rfl, by decide +kernel, by decide +kernel, by decide +kernel⟩ rfl (by decide) (by decide) rfl (Nat.le_of_ble_eq_true rfl) dL_law_658 ?_
  refine l_aload C dL_law_661 rfl 2 rfl ?_
  refine l_arg (j := 1) C rfl (by omega) dL_law_662 dL_law_663 dL_law_664 dL_law_665 dL_law_666 ?_
  refine l_arg (j := 2) C rfl (by omega) dL_law_667 dL_law_668 dL_law_669 dL_law_670 dL_law_671 ?_
  refine l_arg (j := 3) C rfl (by omega) dL_law_672 dL_law_673 dL_law_674 dL_law_675 dL_law_676 ?_
  refine l_callM (n := 3) (As := [.int (xs (i + 1)), .int (xs (i + 2)), .int (xs (i + 3))]) (rest := [.int r]) C (m_X12_sayings hM) q_1190 q_1191 q_1192 q_14 q_1193 ⟨rfl, by decide +kernel, by decide +kernel, by decide +kernel⟩ rfl (by decide) (by decide) rfl (Nat.le_of_ble_eq_true rfl) dL_law_677 ?_
  exact l_icmp_eq C dL_law_680 (by decide) hk
def Stp_11 (I : St → St → Prop) : Prop := ∀ (a1 : Int32) (a2 : Int32) (σ τ : St), I σ τ → ∃ (r : Int32) (σ' τ' : St), (Q_told a1 a2 σ = some (r, σ')) ∧ (M_told a1 a2 τ = some (r, τ')) ∧ I σ' τ'
set_option maxHeartbeats 400000 in
set_option maxRecDepth 100000 in
theorem law_11 {x : Ctx} {wc wm : Wp} {b Ls : Nat} {xs : Nat → Int32} {Q : State → Prop} {σ τ : St} {i : Nat} {I : St → St → Prop} (C : CxL x wc wm b Ls xs) (hi : i + 6 ≤ Ls) (hI : I σ τ) (hs : Stp_11 I) (hk0 : ∀ σ' τ', I σ' τ' → VL x wc wm Q σ' τ' 1728 (LL wc wm b i) []) : VL x wc wm Q σ τ 685 (LL wc wm b i) [] := by
  obtain ⟨r, σ', τ', hC, hM, hI'⟩ := hs (xs (i + 1)) (xs (i + 2)) σ τ hI
  have hk := hk0 σ' τ' hI'
  refine l_aload C dL_law_685 rfl 1 rfl ?_
  refine l_arg (j := 1) C rfl (by omega) dL_law_686 dL_law_687 dL_law_688 dL_law_689 dL_law_690 ?_
  refine l_arg (j := 2) C rfl (by omega) dL_law_691 dL_law_692 dL_law_693 dL_law_694 dL_law_695 ?_
  refine l_callC (n := 2) (As := [.int (xs (i + 1)), .int (xs (i + 2))]) (rest := []) C (m_X11_told hC) q_521 q_522 q_523 q_1 q_524 ⟨rfl, by decide +kernel, by decide +kernel, by decide +kernel⟩ rfl (by decide) (by decide) rfl (Nat.le_of_ble_eq_true rfl) dL_law_696 ?_
  refine l_aload C dL_law_699 rfl 2 rfl ?_
  refine l_arg (j := 1) C rfl (by omega) dL_law_700 dL_law_701 dL_law_702 dL_law_703 dL_law_704 ?_
  refine l_arg (j := 2) C rfl (by omega) dL_law_705 dL_law_706 dL_law_707 dL_law_708 dL_law_709 ?_
  refine l_callM (n := 2) (As := [.int (xs (i + 1)), .int (xs (i + 2))]) (rest := [.int r]) C (m_X12_told hM) q_1194 q_1195 q_1196 q_14 q_1197 ⟨rfl, by decide +kernel, by decide +kernel, by decide +kernel⟩ rfl (by decide) (by decide) rfl (Nat.le_of_ble_eq_true rfl) dL_law_710 ?_
  exact l_icmp_eq C dL_law_713 (by decide) hk
def Stp_12 (I : St → St → Prop) : Prop := ∀ (a1 : Int32) (σ τ : St), I σ τ → ∃ (r : Int32) (σ' τ' : St), (Q_traits a1 σ = some r ∧ σ' = σ) ∧ (M_traits a1 τ = some r ∧ τ' = τ) ∧ I σ' τ'
set_option maxHeartbeats 400000 in
set_option maxRecDepth 100000 in
theorem law_12 {x : Ctx} {wc wm : Wp} {b Ls : Nat} {xs : Nat → Int32} {Q : State → Prop} {σ τ : St} {i : Nat} {I : St → St → Prop} (C : CxL x wc wm b Ls xs) (hi : i + 6 ≤ Ls) (hI : I σ τ) (hs : Stp_12 I) (hk0 : ∀ σ' τ', I σ' τ' → VL x wc wm Q σ' τ' 1728 (LL wc wm b i) []) : VL x wc wm Q σ τ 718 (LL wc wm b i) [] := by
  obtain ⟨r, σ', τ', hC, hM, hI'⟩ := hs (xs (i + 1)) σ τ hI
  have hk := hk0 σ' τ' hI'
  obtain ⟨hC, ehC⟩ := hC
  subst ehC
  obtain ⟨hM, ehM⟩ := hM
  subst ehM
  refine l_aload C dL_law_718 rfl 1 rfl ?_
  refine l_arg (j := 1) C rfl (by omega) dL_law_719 dL_law_720 dL_law_721 dL_law_722 dL_law_723 ?_
  refine l_callC (n := 1) (As := [.int (xs (i + 1))]) (rest := []) C (m_X11_traits hC) q_533 q_534 q_535 q_1 q_536 ⟨rfl, by decide +kernel, by decide +kernel, by decide +kernel⟩ rfl (by decide) (by decide) rfl (Nat.le_of_ble_eq_true rfl) dL_law_724 ?_
  refine l_aload C dL_law_727 rfl 2 rfl ?_
  refine l_arg (j := 1) C rfl (by omega) dL_law_728 dL_law_729 dL_law_730 dL_law_731 dL_law_732 ?_
  refine l_callM (n := 1) (As := [.int (xs (i + 1))]) (rest := [.int r]) C (m_X12_traits hM) q_1206 q_1207 q_1208 q_14 q_1209 ⟨rfl, by decide +kernel, by decide +kernel, by decide +kernel⟩ rfl (by decide) (by decide) rfl (Nat.le_of_ble_eq_true rfl) dL_law_733 ?_
  exact l_icmp_eq C dL_law_736 (by decide) hk
def Stp_13 (I : St → St → Prop) : Prop := ∀ (a1 : Int32) (a2 : Int32) (σ τ : St), I σ τ → ∃ (r : Int32) (σ' τ' : St), (Q_life a1 a2 σ = some (r, σ')) ∧ (M_life a1 a2 τ = some (r, τ')) ∧ I σ' τ'
set_option maxHeartbeats 400000 in
set_option maxRecDepth 100000 in
theorem law_13 {x : Ctx} {wc wm : Wp} {b Ls : Nat} {xs : Nat → Int32} {Q : State → Prop} {σ τ : St} {i : Nat} {I : St → St → Prop} (C : CxL x wc wm b Ls xs) (hi : i + 6 ≤ Ls) (hI : I σ τ) (hs : Stp_13 I) (hk0 : ∀ σ' τ', I σ' τ' → VL x wc wm Q σ' τ' 1728 (LL wc wm b i) []) : VL x wc wm Q σ τ 741 (LL wc wm b i) [] := by
  obtain ⟨r, σ', τ', hC, hM, hI'⟩ := hs (xs (i + 1)) (xs (i + 2)) σ τ hI
  have hk := hk0 σ' τ' hI'
  refine l_aload C dL_law_741 rfl 1 rfl ?_
  refine l_arg (j := 1) C rfl (by omega) dL_law_742 dL_law_743 dL_law_744 dL_law_745 dL_law_746 ?_
  refine l_arg (j := 2) C rfl (by omega) dL_law_747 dL_law_748 dL_law_749 dL_law_750 dL_law_751 ?_
  refine l_callC (n := 2) (As := [.int (xs (i + 1)), .int (xs (i + 2))]) (rest := []) C (m_X11_life hC) q_537 q_538 q_539 q_1 q_540 ⟨rfl, by decide +kernel, by decide +kernel, by decide +kernel⟩ rfl (by decide) (by decide) rfl (Nat.le_of_ble_eq_true rfl) dL_law_752 ?_
  refine l_aload C dL_law_755 rfl 2 rfl ?_
  refine l_arg (j := 1) C rfl (by omega) dL_law_756 dL_law_757 dL_law_758 dL_law_759 dL_law_760 ?_
  refine l_arg (j := 2) C rfl (by omega) dL_law_761 dL_law_762 dL_law_763 dL_law_764 dL_law_765 ?_
  refine l_callM (n := 2) (As := [.int (xs (i + 1)), .int (xs (i + 2))]) (rest := [.int r]) C (m_X12_life hM) q_1210 q_1211 q_1212 q_14 q_1213 ⟨rfl, by decide +kernel, by decide +kernel, by decide +kernel⟩ rfl (by decide) (by decide) rfl (Nat.le_of_ble_eq_true rfl) dL_law_766 ?_
  exact l_icmp_eq C dL_law_769 (by decide) hk
def Stp_14 (I : St → St → Prop) : Prop := ∀ (a1 : Int32) (σ τ : St), I σ τ → ∃ (r : Int32) (σ' τ' : St), (Q_fault a1 σ = some (r, σ')) ∧ (M_fault a1 τ = some (r, τ')) ∧ I σ' τ'
set_option maxHeartbeats 400000 in
set_option maxRecDepth 100000 in
theorem law_14 {x : Ctx} {wc wm : Wp} {b Ls : Nat} {xs : Nat → Int32} {Q : State → Prop} {σ τ : St} {i : Nat} {I : St → St → Prop} (C : CxL x wc wm b Ls xs) (hi : i + 6 ≤ Ls) (hI : I σ τ) (hs : Stp_14 I) (hk0 : ∀ σ' τ', I σ' τ' → VL x wc wm Q σ' τ' 1728 (LL wc wm b i) []) : VL x wc wm Q σ τ 774 (LL wc wm b i) [] := by
  obtain ⟨r, σ', τ', hC, hM, hI'⟩ := hs (xs (i + 1)) σ τ hI
  have hk := hk0 σ' τ' hI'
  refine l_aload C dL_law_774 rfl 1 rfl ?_
  refine l_arg (j := 1) C rfl (by omega) dL_law_775 dL_law_776 dL_law_777 dL_law_778 dL_law_779 ?_
  refine l_callC (n := 1) (As := [.int (xs (i + 1))]) (rest := []) C (m_X11_fault hC) q_549 q_550 q_551 q_1 q_552 ⟨rfl, by decide +kernel, by decide +kernel, by decide +kernel⟩ rfl (by decide) (by decide) rfl (Nat.le_of_ble_eq_true rfl) dL_law_780 ?_
  refine l_aload C dL_law_783 rfl 2 rfl ?_
  refine l_arg (j := 1) C rfl (by omega) dL_law_784 dL_law_785 dL_law_786 dL_law_787 dL_law_788 ?_
  refine l_callM (n := 1) (As := [.int (xs (i + 1))]) (rest := [.int r]) C (m_X12_fault hM) q_1222 q_1223 q_1224 q_14 q_1225 ⟨rfl, by decide +kernel, by decide +kernel, by decide +kernel⟩ rfl (by decide) (by decide) rfl (Nat.le_of_ble_eq_true rfl) dL_law_789 ?_
  exact l_icmp_eq C dL_law_792 (by decide) hk
def Stp_15 (I : St → St → Prop) : Prop := ∀ (a1 : Int32) (σ τ : St), I σ τ → ∃ (r : Int32) (σ' τ' : St), (Q_rule a1 σ = some (r, σ')) ∧ (M_rule a1 τ = some (r, τ')) ∧ I σ' τ'
set_option maxHeartbeats 400000 in
set_option maxRecDepth 100000 in
theorem law_15 {x : Ctx} {wc wm : Wp} {b Ls : Nat} {xs : Nat → Int32} {Q : State → Prop} {σ τ : St} {i : Nat} {I : St → St → Prop} (C : CxL x wc wm b Ls xs) (hi : i + 6 ≤ Ls) (hI : I σ τ) (hs : Stp_15 I) (hk0 : ∀ σ' τ', I σ' τ' → VL x wc wm Q σ' τ' 1728 (LL wc wm b i) []) : VL x wc wm Q σ τ 797 (LL wc wm b i) [] := by
  obtain ⟨r, σ', τ', hC, hM, hI'⟩ := hs (xs (i + 1)) σ τ hI
  have hk := hk0 σ' τ' hI'
  refine l_aload C dL_law_797 rfl 1 rfl ?_
  refine l_arg (j := 1) C rfl (by omega) dL_law_798 dL_law_799 dL_law_800 dL_law_801 dL_law_802 ?_
  refine l_callC (n := 1) (As := [.int (xs (i + 1))]) (rest := []) C (m_X11_rule hC) q_570 q_571 q_572 q_1 q_573 ⟨rfl, by decide +kernel, by decide +kernel, by decide +kernel⟩ rfl (by decide) (by decide) rfl (Nat.le_of_ble_eq_true rfl) dL_law_803 ?_
  refine l_aload C dL_law_806 rfl 2 rfl ?_
  refine l_arg (j := 1) C rfl (by omega) dL_law_807 dL_law_808 dL_law_809 dL_law_810 dL_law_811 ?_
  refine l_callM (n := 1) (As := [.int (xs (i + 1))]) (rest := [.int r]) C (m_X12_rule hM) q_1237 q_1238 q_1239 q_14 q_1240 ⟨rfl, by decide +kernel, by decide +kernel, by decide +kernel⟩ rfl (by decide) (by decide) rfl (Nat.le_of_ble_eq_true rfl) dL_law_812 ?_
  exact l_icmp_eq C dL_law_815 (by decide) hk
def Stp_16 (I : St → St → Prop) : Prop := ∀ (a1 : Int32) (a2 : Int32) (σ τ : St), I σ τ → ∃ (r : Int32) (σ' τ' : St), (Q_answers a1 a2 σ = some r ∧ σ' = σ) ∧ (M_answers a1 a2 = some r ∧ τ' = τ) ∧ I σ' τ'
set_option maxHeartbeats 400000 in
set_option maxRecDepth 100000 in
theorem law_16 {x : Ctx} {wc wm : Wp} {b Ls : Nat} {xs : Nat → Int32} {Q : State → Prop} {σ τ : St} {i : Nat} {I : St → St → Prop} (C : CxL x wc wm b Ls xs) (hi : i + 6 ≤ Ls) (hI : I σ τ) (hs : Stp_16 I) (hk0 : ∀ σ' τ', I σ' τ' → VL x wc wm Q σ' τ' 1728 (LL wc wm b i) []) : VL x wc wm Q σ τ 820 (LL wc wm b i) [] := by
  obtain ⟨r, σ', τ', hC, hM, hI'⟩ := hs (xs (i + 1)) (xs (i + 2)) σ τ hI
  have hk := hk0 σ' τ' hI'
  obtain ⟨hC, ehC⟩ := hC
  subst ehC
  obtain ⟨hM, ehM⟩ := hM
  subst ehM
  refine l_aload C dL_law_820 rfl 1 rfl ?_
  refine l_arg (j := 1) C rfl (by omega) dL_law_821 dL_law_822 dL_law_823 dL_law_824 dL_law_825 ?_
  refine l_arg (j := 2) C rfl (by omega) dL_law_826 dL_law_827 dL_law_828 dL_law_829 dL_law_830 ?_
  refine l_callC (n := 2) (As := [.int (xs (i + 1)), .int (xs (i + 2))]) (rest := []) C (m_X11_answers hC) q_574 q_575 q_576 q_1 q_577 ⟨rfl, by decide +kernel, by decide +kernel, by decide +kernel⟩ rfl (by decide) (by decide) rfl (Nat.le_of_ble_eq_true rfl) dL_law_831 ?_
  refine l_aload C dL_law_834 rfl 2 rfl ?_
  refine l_arg (j := 1) C rfl (by omega) dL_law_835 dL_law_836 dL_law_837 dL_law_838 dL_law_839 ?_
  refine l_arg (j := 2) C rfl (by omega) dL_law_840 dL_law_841 dL_law_842 dL_law_843 dL_law_844 ?_
  refine l_callM (n := 2) (As := [.int (xs (i + 1)), .int (xs (i + 2))]) (rest := [.int r]) C (m_X12_answers hM) q_1242 q_1243 q_1244 q_14 q_1245 ⟨rfl, by decide +kernel, by decide +kernel, by decide +kernel⟩ rfl (by decide) (by decide) rfl (Nat.le_of_ble_eq_true rfl) dL_law_845 ?_
  exact l_icmp_eq C dL_law_848 (by decide) hk
def Stp_17 (I : St → St → Prop) : Prop := ∀ (a1 : Int32) (a2 : Int32) (σ τ : St), I σ τ → ∃ (r : Int32) (σ' τ' : St), (Q_fits a1 a2 σ = some r ∧ σ' = σ) ∧ (M_fits a1 a2 τ = some r ∧ τ' = τ) ∧ I σ' τ'
set_option maxHeartbeats 400000 in
set_option maxRecDepth 100000 in
theorem law_17 {x : Ctx} {wc wm : Wp} {b Ls : Nat} {xs : Nat → Int32} {Q : State → Prop} {σ τ : St} {i : Nat} {I : St → St → Prop} (C : CxL x wc wm b Ls xs) (hi : i + 6 ≤ Ls) (hI : I σ τ) (hs : Stp_17 I) (hk0 : ∀ σ' τ', I σ' τ' → VL x wc wm Q σ' τ' 1728 (LL wc wm b i) []) : VL x wc wm Q σ τ 853 (LL wc wm b i) [] := by
  obtain ⟨r, σ', τ', hC, hM, hI'⟩ := hs (xs (i + 1)) (xs (i + 2)) σ τ hI
  have hk := hk0 σ' τ' hI'
  obtain ⟨hC, ehC⟩ := hC
  subst ehC
  obtain ⟨hM, ehM⟩ := hM
  subst ehM
  refine l_aload C dL_law_853 rfl 1 rfl ?_
  refine l_arg (j := 1) C rfl (by omega) dL_law_854 dL_law_855 dL_law_856 dL_law_857 dL_law_858 ?_
  refine l_arg (j := 2) C rfl (by omega) dL_law_859 dL_law_860 dL_law_861 dL_law_862 dL_law_863 ?_
  refine l_callC (n := 2) (As := [.int (xs (i + 1)), .int (xs (i + 2))]) (rest := []) C (m_X11_fits hC) q_582 q_583 q_584 q_1 q_585 ⟨rfl, by decide +kernel, by decide +kernel, by decide +kernel⟩ rfl (by decide) (by decide) rfl (Nat.le_of_ble_eq_true rfl) dL_law_864 ?_
  refine l_aload C dL_law_867 rfl 2 rfl ?_
  refine l_arg (j := 1) C rfl (by omega) dL_law_868 dL_law_869 dL_law_870 dL_law_871 dL_law_872 ?_
  refine l_arg (j := 2) C rfl (by omega) dL_law_873 dL_law_874 dL_law_875 dL_law_876 dL_law_877 ?_
  refine l_callM (n := 2) (As := [.int (xs (i + 1)), .int (xs (i + 2))]) (rest := [.int r]) C (m_X12_fits hM) q_1258 q_1259 q_1260 q_14 q_1261 ⟨rfl, by decide +kernel, by decide +kernel, by decide +kernel⟩ rfl (by decide) (by decide) rfl (Nat.le_of_ble_eq_true rfl) dL_law_878 ?_
  exact l_icmp_eq C dL_law_881 (by decide) hk
def Stp_18 (I : St → St → Prop) : Prop := ∀ (a1 : Int32) (a2 : Int32) (a3 : Int32) (σ τ : St), I σ τ → ∃ (r : Int32) (σ' τ' : St), (Q_prices a1 a2 a3 σ = some (r, σ')) ∧ (M_prices a1 a2 a3 τ = some (r, τ')) ∧ I σ' τ'
set_option maxHeartbeats 400000 in
set_option maxRecDepth 100000 in
theorem law_18 {x : Ctx} {wc wm : Wp} {b Ls : Nat} {xs : Nat → Int32} {Q : State → Prop} {σ τ : St} {i : Nat} {I : St → St → Prop} (C : CxL x wc wm b Ls xs) (hi : i + 6 ≤ Ls) (hI : I σ τ) (hs : Stp_18 I) (hk0 : ∀ σ' τ', I σ' τ' → VL x wc wm Q σ' τ' 1728 (LL wc wm b i) []) : VL x wc wm Q σ τ 886 (LL wc wm b i) [] := by
  obtain ⟨r, σ', τ', hC, hM, hI'⟩ := hs (xs (i + 1)) (xs (i + 2)) (xs (i + 3)) σ τ hI
  have hk := hk0 σ' τ' hI'
  refine l_aload C dL_law_886 rfl 1 rfl ?_
  refine l_arg (j := 1) C rfl (by omega) dL_law_887 dL_law_888 dL_law_889 dL_law_890 dL_law_891 ?_
  refine l_arg (j := 2) C rfl (by omega) dL_law_892 dL_law_893 dL_law_894 dL_law_895 dL_law_896 ?_
  refine l_arg (j := 3) C rfl (by omega) dL_law_897 dL_law_898 dL_law_899 dL_law_900 dL_law_901 ?_
  refine l_callC (n := 3) (As := [.int (xs (i + 1)), .int (xs (i + 2)), .int (xs (i + 3))]) (rest := []) C (m_X11_prices hC) q_603 q_604 q_605 q_1 q_606 ⟨rfl, by decide +kernel, by decide +kernel, by decide +kernel⟩ rfl (by decide) (by decide) rfl (Nat.le_of_ble_eq_true rfl) dL_law_902 ?_
  refine l_aload C dL_law_905 rfl 2 rfl ?_
  refine l_arg (j := 1) C rfl (by omega) dL_law_906 dL_law_907 dL_law_908 dL_law_909 dL_law_910 ?_
  refine l_arg (j := 2) C rfl (by omega) dL_law_911 dL_law_912 dL_law_913 dL_law_914 dL_law_915 ?_
  refine l_arg (j := 3) C rfl (by omega) dL_law_916 dL_law_917 dL_law_918 dL_law_919 dL_law_920 ?_
  refine l_callM (n := 3) (As := [.int (xs (i + 1)), .int (xs (i + 2)), .int (xs (i + 3))]) (rest := [.int r]) C (m_X12_prices hM) q_1266 q_1267 q_1268 q_14 q_1269 ⟨rfl, by decide +kernel, by decide +kernel, by decide +kernel⟩ rfl (by decide) (by decide) rfl (Nat.le_of_ble_eq_true rfl) dL_law_921 ?_
  exact l_icmp_eq C dL_law_924 (by decide) hk
def Stp_19 (I : St → St → Prop) : Prop := ∀ (a1 : Int32) (a2 : Int32) (σ τ : St), I σ τ → ∃ (r : Int32) (σ' τ' : St), (Q_costs a1 a2 σ = some r ∧ σ' = σ) ∧ (M_costs a1 a2 τ = some r ∧ τ' = τ) ∧ I σ' τ'
set_option maxHeartbeats 400000 in
set_option maxRecDepth 100000 in
theorem law_19 {x : Ctx} {wc wm : Wp} {b Ls : Nat} {xs : Nat → Int32} {Q : State → Prop} {σ τ : St} {i : Nat} {I : St → St → Prop} (C : CxL x wc wm b Ls xs) (hi : i + 6 ≤ Ls) (hI : I σ τ) (hs : Stp_19 I) (hk0 : ∀ σ' τ', I σ' τ' → VL x wc wm Q σ' τ' 1728 (LL wc wm b i) []) : VL x wc wm Q σ τ 929 (LL wc wm b i) [] := by
  obtain ⟨r, σ', τ', hC, hM, hI'⟩ := hs (xs (i + 1)) (xs (i + 2)) σ τ hI
  have hk := hk0 σ' τ' hI'
  obtain ⟨hC, ehC⟩ := hC
  subst ehC
  obtain ⟨hM, ehM⟩ := hM
  subst ehM
  refine l_aload C dL_law_929 rfl 1 rfl ?_
  refine l_arg (j := 1) C rfl (by omega) dL_law_930 dL_law_931 dL_law_932 dL_law_933 dL_law_934 ?_
  refine l_arg (j := 2) C rfl (by omega) dL_law_935 dL_law_936 dL_law_937 dL_law_938 dL_law_939 ?_
  refine l_callC (n := 2) (As := [.int (xs (i + 1)), .int (xs (i + 2))]) (rest := []) C (m_X11_costs hC) q_614 q_615 q_616 q_1 q_617 ⟨rfl, by decide +kernel, by decide +kernel, by decide +kernel⟩ rfl (by decide) (by decide) rfl (Nat.le_of_ble_eq_true rfl) dL_law_940 ?_
  refine l_aload C dL_law_943 rfl 2 rfl ?_
  refine l_arg (j := 1) C rfl (by omega) dL_law_944 dL_law_945 dL_law_946 dL_law_947 dL_law_948 ?_
  refine l_arg (j := 2) C rfl (by omega) dL_law_949 dL_law_950 dL_law_951 dL_law_952 dL_law_953 ?_
  refine l_callM (n := 2) (As := [.int (xs (i + 1)), .int (xs (i + 2))]) (rest := [.int r]) C (m_X12_costs hM) q_1273 q_1274 q_1275 q_14 q_1276 ⟨rfl, by decide +kernel, by decide +kernel, by decide +kernel⟩ rfl (by decide) (by decide) rfl (Nat.le_of_ble_eq_true rfl) dL_law_954 ?_
  exact l_icmp_eq C dL_law_957 (by decide) hk
def Stp_20 (I : St → St → Prop) : Prop := ∀ (a1 : Int32) (σ τ : St), I σ τ → ∃ (r : Int32) (σ' τ' : St), (Q_settle a1 σ = some (r, σ')) ∧ (M_settle a1 τ = some (r, τ')) ∧ I σ' τ'
set_option maxHeartbeats 400000 in
set_option maxRecDepth 100000 in
theorem law_20 {x : Ctx} {wc wm : Wp} {b Ls : Nat} {xs : Nat → Int32} {Q : State → Prop} {σ τ : St} {i : Nat} {I : St → St → Prop} (C : CxL x wc wm b Ls xs) (hi : i + 6 ≤ Ls) (hI : I σ τ) (hs : Stp_20 I) (hk0 : ∀ σ' τ', I σ' τ' → VL x wc wm Q σ' τ' 1728 (LL wc wm b i) []) : VL x wc wm Q σ τ 962 (LL wc wm b i) [] := by
  obtain ⟨r, σ', τ', hC, hM, hI'⟩ := hs (xs (i + 1)) σ τ hI
  have hk := hk0 σ' τ' hI'
  refine l_aload C dL_law_962 rfl 1 rfl ?_
  refine l_arg (j := 1) C rfl (by omega) dL_law_963 dL_law_964 dL_law_965 dL_law_966 dL_law_967 ?_
  refine l_callC (n := 1) (As := [.int (xs (i + 1))]) (rest := []) C (m_X11_settle hC) q_631 q_632 q_633 q_1 q_634 ⟨rfl, by decide +kernel, by decide +kernel, by decide +kernel⟩ rfl (by decide) (by decide) rfl (Nat.le_of_ble_eq_true rfl) dL_law_968 ?_
  refine l_aload C dL_law_971 rfl 2 rfl ?_
  refine l_arg (j := 1) C rfl (by omega) dL_law_972 dL_law_973 dL_law_974 dL_law_975 dL_law_976 ?_
  refine l_callM (n := 1) (As := [.int (xs (i + 1))]) (rest := [.int r]) C (m_X12_settle hM) q_1281 q_1282 q_1283 q_14 q_1284 ⟨rfl, by decide +kernel, by decide +kernel, by decide +kernel⟩ rfl (by decide) (by decide) rfl (Nat.le_of_ble_eq_true rfl) dL_law_977 ?_
  exact l_icmp_eq C dL_law_980 (by decide) hk
def Stp_21 (I : St → St → Prop) : Prop := ∀ (a1 : Int32) (σ τ : St), I σ τ → ∃ (r : Int32) (σ' τ' : St), (Q_second a1 σ = some (r, σ')) ∧ (M_second a1 τ = some (r, τ')) ∧ I σ' τ'
set_option maxHeartbeats 400000 in
set_option maxRecDepth 100000 in
theorem law_21 {x : Ctx} {wc wm : Wp} {b Ls : Nat} {xs : Nat → Int32} {Q : State → Prop} {σ τ : St} {i : Nat} {I : St → St → Prop} (C : CxL x wc wm b Ls xs) (hi : i + 6 ≤ Ls) (hI : I σ τ) (hs : Stp_21 I) (hk0 : ∀ σ' τ', I σ' τ' → VL x wc wm Q σ' τ' 1728 (LL wc wm b i) []) : VL x wc wm Q σ τ 985 (LL wc wm b i) [] := by
  obtain ⟨r, σ', τ', hC, hM, hI'⟩ := hs (xs (i + 1)) σ τ hI
  have hk := hk0 σ' τ' hI'
  refine l_aload C dL_law_985 rfl 1 rfl ?_
  refine l_arg (j := 1) C rfl (by omega) dL_law_986 dL_law_987 dL_law_988 dL_law_989 dL_law_990 ?_
  refine l_callC (n := 1) (As := [.int (xs (i + 1))]) (rest := []) C (m_X11_second hC) q_658 q_659 q_660 q_1 q_661 ⟨rfl, by decide +kernel, by decide +kernel, by decide +kernel⟩ rfl (by decide) (by decide) rfl (Nat.le_of_ble_eq_true rfl) dL_law_991 ?_
  refine l_aload C dL_law_994 rfl 2 rfl ?_
  refine l_arg (j := 1) C rfl (by omega) dL_law_995 dL_law_996 dL_law_997 dL_law_998 dL_law_999 ?_
  refine l_callM (n := 1) (As := [.int (xs (i + 1))]) (rest := [.int r]) C (m_X12_second hM) q_1302 q_1303 q_1304 q_14 q_1305 ⟨rfl, by decide +kernel, by decide +kernel, by decide +kernel⟩ rfl (by decide) (by decide) rfl (Nat.le_of_ble_eq_true rfl) dL_law_1000 ?_
  exact l_icmp_eq C dL_law_1003 (by decide) hk
def Stp_22 (I : St → St → Prop) : Prop := ∀ (a1 : Int32) (σ τ : St), I σ τ → ∃ (r : Int32) (σ' τ' : St), (Q_cheap a1 σ = some (r, σ')) ∧ (M_cheap a1 τ = some (r, τ')) ∧ I σ' τ'
set_option maxHeartbeats 400000 in
set_option maxRecDepth 100000 in
theorem law_22 {x : Ctx} {wc wm : Wp} {b Ls : Nat} {xs : Nat → Int32} {Q : State → Prop} {σ τ : St} {i : Nat} {I : St → St → Prop} (C : CxL x wc wm b Ls xs) (hi : i + 6 ≤ Ls) (hI : I σ τ) (hs : Stp_22 I) (hk0 : ∀ σ' τ', I σ' τ' → VL x wc wm Q σ' τ' 1728 (LL wc wm b i) []) : VL x wc wm Q σ τ 1008 (LL wc wm b i) [] := by
  obtain ⟨r, σ', τ', hC, hM, hI'⟩ := hs (xs (i + 1)) σ τ hI
  have hk := hk0 σ' τ' hI'
  refine l_aload C dL_law_1008 rfl 1 rfl ?_
  refine l_arg (j := 1) C rfl (by omega) dL_law_1009 dL_law_1010 dL_law_1011 dL_law_1012 dL_law_1013 ?_
  refine l_callC (n := 1) (As := [.int (xs (i + 1))]) (rest := []) C (m_X11_cheap hC) q_662 q_663 q_664 q_1 q_665 ⟨rfl, by decide +kernel, by decide +kernel, by decide +kernel⟩ rfl (by decide) (by decide) rfl (Nat.le_of_ble_eq_true rfl) dL_law_1014 ?_
  refine l_aload C dL_law_1017 rfl 2 rfl ?_
  refine l_arg (j := 1) C rfl (by omega) dL_law_1018 dL_law_1019 dL_law_1020 dL_law_1021 dL_law_1022 ?_
  refine l_callM (n := 1) (As := [.int (xs (i + 1))]) (rest := [.int r]) C (m_X12_cheap hM) q_1306 q_1307 q_1308 q_14 q_1309 ⟨rfl, by decide +kernel, by decide +kernel, by decide +kernel⟩ rfl (by decide) (by decide) rfl (Nat.le_of_ble_eq_true rfl) dL_law_1023 ?_
  exact l_icmp_eq C dL_law_1026 (by decide) hk
def Stp_23 (I : St → St → Prop) : Prop := ∀ (a1 : Int32) (a2 : Int32) (σ τ : St), I σ τ → ∃ (r : Int32) (σ' τ' : St), (Q_cheapAt a1 a2 σ = some (r, σ')) ∧ (M_cheapAt a1 a2 τ = some (r, τ')) ∧ I σ' τ'
set_option maxHeartbeats 400000 in
set_option maxRecDepth 100000 in
theorem law_23 {x : Ctx} {wc wm : Wp} {b Ls : Nat} {xs : Nat → Int32} {Q : State → Prop} {σ τ : St} {i : Nat} {I : St → St → Prop} (C : CxL x wc wm b Ls xs) (hi : i + 6 ≤ Ls) (hI : I σ τ) (hs : Stp_23 I) (hk0 : ∀ σ' τ', I σ' τ' → VL x wc wm Q σ' τ' 1728 (LL wc wm b i) []) : VL x wc wm Q σ τ 1031 (LL wc wm b i) [] := by
  obtain ⟨r, σ', τ', hC, hM, hI'⟩ := hs (xs (i + 1)) (xs (i + 2)) σ τ hI
  have hk := hk0 σ' τ' hI'
  refine l_aload C dL_law_1031 rfl 1 rfl ?_
  refine l_arg (j := 1) C rfl (by omega) dL_law_1032 dL_law_1033 dL_law_1034 dL_law_1035 dL_law_1036 ?_
  refine l_arg (j := 2) C rfl (by omega) dL_law_1037 dL_law_1038 dL_law_1039 dL_law_1040 dL_law_1041 ?_
  refine l_callC (n := 2) (As := [.int (xs (i + 1)), .int (xs (i + 2))]) (rest := []) C (m_X11_cheapAt hC) q_670 q_671 q_672 q_1 q_673 ⟨rfl, by decide +kernel, by decide +kernel, by decide +kernel⟩ rfl (by decide) (by decide) rfl (Nat.le_of_ble_eq_true rfl) dL_law_1042 ?_
  refine l_aload C dL_law_1045 rfl 2 rfl ?_
  refine l_arg (j := 1) C rfl (by omega) dL_law_1046 dL_law_1047 dL_law_1048 dL_law_1049 dL_law_1050 ?_
  refine l_arg (j := 2) C rfl (by omega) dL_law_1051 dL_law_1052 dL_law_1053 dL_law_1054 dL_law_1055 ?_
  refine l_callM (n := 2) (As := [.int (xs (i + 1)), .int (xs (i + 2))]) (rest := [.int r]) C (m_X12_cheapAt hM) q_1314 q_1315 q_1316 q_14 q_1317 ⟨rfl, by decide +kernel, by decide +kernel, by decide +kernel⟩ rfl (by decide) (by decide) rfl (Nat.le_of_ble_eq_true rfl) dL_law_1056 ?_
  exact l_icmp_eq C dL_law_1059 (by decide) hk
def Stp_24 (I : St → St → Prop) : Prop := ∀  (σ τ : St), I σ τ → ∃ (r : Int32) (σ' τ' : St), (Q_all σ = some (r, σ')) ∧ (M_all τ = some (r, τ')) ∧ I σ' τ'
set_option maxHeartbeats 400000 in
set_option maxRecDepth 100000 in
theorem law_24 {x : Ctx} {wc wm : Wp} {b Ls : Nat} {xs : Nat → Int32} {Q : State → Prop} {σ τ : St} {i : Nat} {I : St → St → Prop} (C : CxL x wc wm b Ls xs) (hi : i + 6 ≤ Ls) (hI : I σ τ) (hs : Stp_24 I) (hk0 : ∀ σ' τ', I σ' τ' → VL x wc wm Q σ' τ' 1728 (LL wc wm b i) []) : VL x wc wm Q σ τ 1064 (LL wc wm b i) [] := by
  obtain ⟨r, σ', τ', hC, hM, hI'⟩ := hs  σ τ hI
  have hk := hk0 σ' τ' hI'
  refine l_aload C dL_law_1064 rfl 1 rfl ?_
  refine l_callC (n := 0) (As := []) (rest := []) C (m_X11_all hC) q_674 q_675 q_676 q_1 q_677 ⟨rfl, by decide +kernel, by decide +kernel, by decide +kernel⟩ rfl (by decide) (by decide) rfl (Nat.le_of_ble_eq_true rfl) dL_law_1065 ?_
  refine l_aload C dL_law_1068 rfl 2 rfl ?_
  refine l_callM (n := 0) (As := []) (rest := [.int r]) C (m_X12_all hM) q_1318 q_1319 q_1320 q_14 q_1321 ⟨rfl, by decide +kernel, by decide +kernel, by decide +kernel⟩ rfl (by decide) (by decide) rfl (Nat.le_of_ble_eq_true rfl) dL_law_1069 ?_
  exact l_icmp_eq C dL_law_1072 (by decide) hk
def Stp_25 (I : St → St → Prop) : Prop := ∀ (a1 : Int32) (σ τ : St), I σ τ → ∃ (r : Int32) (σ' τ' : St), (Q_against a1 σ = some (r, σ')) ∧ (M_against a1 τ = some (r, τ')) ∧ I σ' τ'
set_option maxHeartbeats 400000 in
set_option maxRecDepth 100000 in
theorem law_25 {x : Ctx} {wc wm : Wp} {b Ls : Nat} {xs : Nat → Int32} {Q : State → Prop} {σ τ : St} {i : Nat} {I : St → St → Prop} (C : CxL x wc wm b Ls xs) (hi : i + 6 ≤ Ls) (hI : I σ τ) (hs : Stp_25 I) (hk0 : ∀ σ' τ', I σ' τ' → VL x wc wm Q σ' τ' 1728 (LL wc wm b i) []) : VL x wc wm Q σ τ 1077 (LL wc wm b i) [] := by
  obtain ⟨r, σ', τ', hC, hM, hI'⟩ := hs (xs (i + 1)) σ τ hI
  have hk := hk0 σ' τ' hI'
  refine l_aload C dL_law_1077 rfl 1 rfl ?_
  refine l_arg (j := 1) C rfl (by omega) dL_law_1078 dL_law_1079 dL_law_1080 dL_law_1081 dL_law_1082 ?_
  refine l_callC (n := 1) (As := [.int (xs (i + 1))]) (rest := []) C (m_X11_against hC) q_678 q_679 q_680 q_1 q_681 ⟨rfl, by decide +kernel, by decide +kernel, by decide +kernel⟩ rfl (by decide) (by decide) rfl (Nat.le_of_ble_eq_true rfl) dL_law_1083 ?_
  refine l_aload C dL_law_1086 rfl 2 rfl ?_
  refine l_arg (j := 1) C rfl (by omega) dL_law_1087 dL_law_1088 dL_law_1089 dL_law_1090 dL_law_1091 ?_
  refine l_callM (n := 1) (As := [.int (xs (i + 1))]) (rest := [.int r]) C (m_X12_against hM) q_1322 q_1323 q_1324 q_14 q_1325 ⟨rfl, by decide +kernel, by decide +kernel, by decide +kernel⟩ rfl (by decide) (by decide) rfl (Nat.le_of_ble_eq_true rfl) dL_law_1092 ?_
  exact l_icmp_eq C dL_law_1095 (by decide) hk
def Stp_26 (I : St → St → Prop) : Prop := ∀  (σ τ : St), I σ τ → ∃ (r : Int32) (σ' τ' : St), (Q_nobody σ = some (r, σ')) ∧ (M_nobody τ = some (r, τ')) ∧ I σ' τ'
set_option maxHeartbeats 400000 in
set_option maxRecDepth 100000 in
theorem law_26 {x : Ctx} {wc wm : Wp} {b Ls : Nat} {xs : Nat → Int32} {Q : State → Prop} {σ τ : St} {i : Nat} {I : St → St → Prop} (C : CxL x wc wm b Ls xs) (hi : i + 6 ≤ Ls) (hI : I σ τ) (hs : Stp_26 I) (hk0 : ∀ σ' τ', I σ' τ' → VL x wc wm Q σ' τ' 1728 (LL wc wm b i) []) : VL x wc wm Q σ τ 1100 (LL wc wm b i) [] := by
  obtain ⟨r, σ', τ', hC, hM, hI'⟩ := hs  σ τ hI
  have hk := hk0 σ' τ' hI'
  refine l_aload C dL_law_1100 rfl 1 rfl ?_
  refine l_callC (n := 0) (As := []) (rest := []) C (m_X11_nobody hC) q_691 q_692 q_693 q_1 q_694 ⟨rfl, by decide +kernel, by decide +kernel, by decide +kernel⟩ rfl (by decide) (by decide) rfl (Nat.le_of_ble_eq_true rfl) dL_law_1101 ?_
  refine l_aload C dL_law_1104 rfl 2 rfl ?_
  refine l_callM (n := 0) (As := []) (rest := [.int r]) C (m_X12_nobody hM) q_1334 q_1335 q_1336 q_14 q_1337 ⟨rfl, by decide +kernel, by decide +kernel, by decide +kernel⟩ rfl (by decide) (by decide) rfl (Nat.le_of_ble_eq_true rfl) dL_law_1105 ?_
  exact l_icmp_eq C dL_law_1108 (by decide) hk
def Stp_27 (I : St → St → Prop) : Prop := ∀ (a1 : Int32) (σ τ : St), I σ τ → ∃ (r : Int32) (σ' τ' : St), (Q_plain a1 σ = some (r, σ')) ∧ (M_plain a1 τ = some (r, τ')) ∧ I σ' τ'
set_option maxHeartbeats 400000 in
set_option maxRecDepth 100000 in
theorem law_27 {x : Ctx} {wc wm : Wp} {b Ls : Nat} {xs : Nat → Int32} {Q : State → Prop} {σ τ : St} {i : Nat} {I : St → St → Prop} (C : CxL x wc wm b Ls xs) (hi : i + 6 ≤ Ls) (hI : I σ τ) (hs : Stp_27 I) (hk0 : ∀ σ' τ', I σ' τ' → VL x wc wm Q σ' τ' 1728 (LL wc wm b i) []) : VL x wc wm Q σ τ 1113 (LL wc wm b i) [] := by
  obtain ⟨r, σ', τ', hC, hM, hI'⟩ := hs (xs (i + 1)) σ τ hI
  have hk := hk0 σ' τ' hI'
  refine l_aload C dL_law_1113 rfl 1 rfl ?_
  refine l_arg (j := 1) C rfl (by omega) dL_law_1114 dL_law_1115 dL_law_1116 dL_law_1117 dL_law_1118 ?_
  refine l_callC (n := 1) (As := [.int (xs (i + 1))]) (rest := []) C (m_X11_plain hC) q_695 q_696 q_697 q_1 q_698 ⟨rfl, by decide +kernel, by decide +kernel, by decide +kernel⟩ rfl (by decide) (by decide) rfl (Nat.le_of_ble_eq_true rfl) dL_law_1119 ?_
  refine l_aload C dL_law_1122 rfl 2 rfl ?_
  refine l_arg (j := 1) C rfl (by omega) dL_law_1123 dL_law_1124 dL_law_1125 dL_law_1126 dL_law_1127 ?_
  refine l_callM (n := 1) (As := [.int (xs (i + 1))]) (rest := [.int r]) C (m_X12_plain hM) q_1338 q_1339 q_1340 q_14 q_1341 ⟨rfl, by decide +kernel, by decide +kernel, by decide +kernel⟩ rfl (by decide) (by decide) rfl (Nat.le_of_ble_eq_true rfl) dL_law_1128 ?_
  exact l_icmp_eq C dL_law_1131 (by decide) hk
def Stp_28 (I : St → St → Prop) : Prop := ∀ (a1 : Int32) (σ τ : St), I σ τ → ∃ (r : Int32) (σ' τ' : St), (Q_changed a1 σ = some (r, σ')) ∧ (M_changed a1 τ = some (r, τ')) ∧ I σ' τ'
set_option maxHeartbeats 400000 in
set_option maxRecDepth 100000 in
theorem law_28 {x : Ctx} {wc wm : Wp} {b Ls : Nat} {xs : Nat → Int32} {Q : State → Prop} {σ τ : St} {i : Nat} {I : St → St → Prop} (C : CxL x wc wm b Ls xs) (hi : i + 6 ≤ Ls) (hI : I σ τ) (hs : Stp_28 I) (hk0 : ∀ σ' τ', I σ' τ' → VL x wc wm Q σ' τ' 1728 (LL wc wm b i) []) : VL x wc wm Q σ τ 1136 (LL wc wm b i) [] := by
  obtain ⟨r, σ', τ', hC, hM, hI'⟩ := hs (xs (i + 1)) σ τ hI
  have hk := hk0 σ' τ' hI'
  refine l_aload C dL_law_1136 rfl 1 rfl ?_
  refine l_arg (j := 1) C rfl (by omega) dL_law_1137 dL_law_1138 dL_law_1139 dL_law_1140 dL_law_1141 ?_
  refine l_callC (n := 1) (As := [.int (xs (i + 1))]) (rest := []) C (m_X11_changed hC) q_712 q_713 q_714 q_1 q_715 ⟨rfl, by decide +kernel, by decide +kernel, by decide +kernel⟩ rfl (by decide) (by decide) rfl (Nat.le_of_ble_eq_true rfl) dL_law_1142 ?_
  refine l_aload C dL_law_1145 rfl 2 rfl ?_
  refine l_arg (j := 1) C rfl (by omega) dL_law_1146 dL_law_1147 dL_law_1148 dL_law_1149 dL_law_1150 ?_
  refine l_callM (n := 1) (As := [.int (xs (i + 1))]) (rest := [.int r]) C (m_X12_changed hM) q_1350 q_1351 q_1352 q_14 q_1353 ⟨rfl, by decide +kernel, by decide +kernel, by decide +kernel⟩ rfl (by decide) (by decide) rfl (Nat.le_of_ble_eq_true rfl) dL_law_1151 ?_
  exact l_icmp_eq C dL_law_1154 (by decide) hk
def Stp_29 (I : St → St → Prop) : Prop := ∀ (a1 : Int32) (a2 : Int32) (σ τ : St), I σ τ → ∃ (r : Int32) (σ' τ' : St), (Q_parts a1 a2 σ = some (r, σ')) ∧ (M_parts a1 a2 τ = some (r, τ')) ∧ I σ' τ'
set_option maxHeartbeats 400000 in
set_option maxRecDepth 100000 in
theorem law_29 {x : Ctx} {wc wm : Wp} {b Ls : Nat} {xs : Nat → Int32} {Q : State → Prop} {σ τ : St} {i : Nat} {I : St → St → Prop} (C : CxL x wc wm b Ls xs) (hi : i + 6 ≤ Ls) (hI : I σ τ) (hs : Stp_29 I) (hk0 : ∀ σ' τ', I σ' τ' → VL x wc wm Q σ' τ' 1728 (LL wc wm b i) []) : VL x wc wm Q σ τ 1159 (LL wc wm b i) [] := by
  obtain ⟨r, σ', τ', hC, hM, hI'⟩ := hs (xs (i + 1)) (xs (i + 2)) σ τ hI
  have hk := hk0 σ' τ' hI'
  refine l_aload C dL_law_1159 rfl 1 rfl ?_
  refine l_arg (j := 1) C rfl (by omega) dL_law_1160 dL_law_1161 dL_law_1162 dL_law_1163 dL_law_1164 ?_
  refine l_arg (j := 2) C rfl (by omega) dL_law_1165 dL_law_1166 dL_law_1167 dL_law_1168 dL_law_1169 ?_
  refine l_callC (n := 2) (As := [.int (xs (i + 1)), .int (xs (i + 2))]) (rest := []) C (m_X11_parts hC) q_732 q_733 q_734 q_1 q_735 ⟨rfl, by decide +kernel, by decide +kernel, by decide +kernel⟩ rfl (by decide) (by decide) rfl (Nat.le_of_ble_eq_true rfl) dL_law_1170 ?_
  refine l_aload C dL_law_1173 rfl 2 rfl ?_
  refine l_arg (j := 1) C rfl (by omega) dL_law_1174 dL_law_1175 dL_law_1176 dL_law_1177 dL_law_1178 ?_
  refine l_arg (j := 2) C rfl (by omega) dL_law_1179 dL_law_1180 dL_law_1181 dL_law_1182 dL_law_1183 ?_
  refine l_callM (n := 2) (As := [.int (xs (i + 1)), .int (xs (i + 2))]) (rest := [.int r]) C (m_X12_parts hM) q_1362 q_1363 q_1364 q_14 q_1365 ⟨rfl, by decide +kernel, by decide +kernel, by decide +kernel⟩ rfl (by decide) (by decide) rfl (Nat.le_of_ble_eq_true rfl) dL_law_1184 ?_
  exact l_icmp_eq C dL_law_1187 (by decide) hk
def Stp_30 (I : St → St → Prop) : Prop := ∀ (a1 : Int32) (a2 : Int32) (σ τ : St), I σ τ → ∃ (r : Int32) (σ' τ' : St), (Q_met a1 a2 σ = some r ∧ σ' = σ) ∧ (M_met a1 a2 τ = some r ∧ τ' = τ) ∧ I σ' τ'
set_option maxHeartbeats 400000 in
set_option maxRecDepth 100000 in
theorem law_30 {x : Ctx} {wc wm : Wp} {b Ls : Nat} {xs : Nat → Int32} {Q : State → Prop} {σ τ : St} {i : Nat} {I : St → St → Prop} (C : CxL x wc wm b Ls xs) (hi : i + 6 ≤ Ls) (hI : I σ τ) (hs : Stp_30 I) (hk0 : ∀ σ' τ', I σ' τ' → VL x wc wm Q σ' τ' 1728 (LL wc wm b i) []) : VL x wc wm Q σ τ 1192 (LL wc wm b i) [] := by
  obtain ⟨r, σ', τ', hC, hM, hI'⟩ := hs (xs (i + 1)) (xs (i + 2)) σ τ hI
  have hk := hk0 σ' τ' hI'
  obtain ⟨hC, ehC⟩ := hC
  subst ehC
  obtain ⟨hM, ehM⟩ := hM
  subst ehM
  refine l_aload C dL_law_1192 rfl 1 rfl ?_
  refine l_arg (j := 1) C rfl (by omega) dL_law_1193 dL_law_1194 dL_law_1195 dL_law_1196 dL_law_1197 ?_
  refine l_arg (j := 2) C rfl (by omega) dL_law_1198 dL_law_1199 dL_law_1200 dL_law_1201 dL_law_1202 ?_
  refine l_callC (n := 2) (As := [.int (xs (i + 1)), .int (xs (i + 2))]) (rest := []) C (m_X11_met hC) q_740 q_741 q_742 q_1 q_743 ⟨rfl, by decide +kernel, by decide +kernel, by decide +kernel⟩ rfl (by decide) (by decide) rfl (Nat.le_of_ble_eq_true rfl) dL_law_1203 ?_
  refine l_aload C dL_law_1206 rfl 2 rfl ?_
  refine l_arg (j := 1) C rfl (by omega) dL_law_1207 dL_law_1208 dL_law_1209 dL_law_1210 dL_law_1211 ?_
  refine l_arg (j := 2) C rfl (by omega) dL_law_1212 dL_law_1213 dL_law_1214 dL_law_1215 dL_law_1216 ?_
  refine l_callM (n := 2) (As := [.int (xs (i + 1)), .int (xs (i + 2))]) (rest := [.int r]) C (m_X12_met hM) q_1369 q_1370 q_1371 q_14 q_1372 ⟨rfl, by decide +kernel, by decide +kernel, by decide +kernel⟩ rfl (by decide) (by decide) rfl (Nat.le_of_ble_eq_true rfl) dL_law_1217 ?_
  exact l_icmp_eq C dL_law_1220 (by decide) hk
def Stp_31 (I : St → St → Prop) : Prop := ∀ (a1 : Int32) (σ τ : St), I σ τ → ∃ (r : Int32) (σ' τ' : St), (Q_can a1 σ = some (r, σ')) ∧ (M_can a1 τ = some (r, τ')) ∧ I σ' τ'
set_option maxHeartbeats 400000 in
set_option maxRecDepth 100000 in
theorem law_31 {x : Ctx} {wc wm : Wp} {b Ls : Nat} {xs : Nat → Int32} {Q : State → Prop} {σ τ : St} {i : Nat} {I : St → St → Prop} (C : CxL x wc wm b Ls xs) (hi : i + 6 ≤ Ls) (hI : I σ τ) (hs : Stp_31 I) (hk0 : ∀ σ' τ', I σ' τ' → VL x wc wm Q σ' τ' 1728 (LL wc wm b i) []) : VL x wc wm Q σ τ 1225 (LL wc wm b i) [] := by
  obtain ⟨r, σ', τ', hC, hM, hI'⟩ := hs (xs (i + 1)) σ τ hI
  have hk := hk0 σ' τ' hI'
  refine l_aload C dL_law_1225 rfl 1 rfl ?_
  refine l_arg (j := 1) C rfl (by omega) dL_law_1226 dL_law_1227 dL_law_1228 dL_law_1229 dL_law_1230 ?_
  refine l_callC (n := 1) (As := [.int (xs (i + 1))]) (rest := []) C (m_X11_can hC) q_748 q_749 q_750 q_1 q_751 ⟨rfl, by decide +kernel, by decide +kernel, by decide +kernel⟩ rfl (by decide) (by decide) rfl (Nat.le_of_ble_eq_true rfl) dL_law_1231 ?_
  refine l_aload C dL_law_1234 rfl 2 rfl ?_
  refine l_arg (j := 1) C rfl (by omega) dL_law_1235 dL_law_1236 dL_law_1237 dL_law_1238 dL_law_1239 ?_
  refine l_callM (n := 1) (As := [.int (xs (i + 1))]) (rest := [.int r]) C (m_X12_can hM) q_1373 q_1374 q_1375 q_14 q_1376 ⟨rfl, by decide +kernel, by decide +kernel, by decide +kernel⟩ rfl (by decide) (by decide) rfl (Nat.le_of_ble_eq_true rfl) dL_law_1240 ?_
  exact l_icmp_eq C dL_law_1243 (by decide) hk
def Stp_32 (I : St → St → Prop) : Prop := ∀ (a1 : Int32) (a2 : Int32) (a3 : Int32) (σ τ : St), I σ τ → ∃ (r : Int32) (σ' τ' : St), (Q_reads a1 a2 a3 σ = some (r, σ')) ∧ (M_reads a1 a2 a3 τ = some (r, τ')) ∧ I σ' τ'
set_option maxHeartbeats 400000 in
set_option maxRecDepth 100000 in
theorem law_32 {x : Ctx} {wc wm : Wp} {b Ls : Nat} {xs : Nat → Int32} {Q : State → Prop} {σ τ : St} {i : Nat} {I : St → St → Prop} (C : CxL x wc wm b Ls xs) (hi : i + 6 ≤ Ls) (hI : I σ τ) (hs : Stp_32 I) (hk0 : ∀ σ' τ', I σ' τ' → VL x wc wm Q σ' τ' 1728 (LL wc wm b i) []) : VL x wc wm Q σ τ 1248 (LL wc wm b i) [] := by
  obtain ⟨r, σ', τ', hC, hM, hI'⟩ := hs (xs (i + 1)) (xs (i + 2)) (xs (i + 3)) σ τ hI
  have hk := hk0 σ' τ' hI'
  refine l_aload C dL_law_1248 rfl 1 rfl ?_
  refine l_arg (j := 1) C rfl (by omega) dL_law_1249 dL_law_1250 dL_law_1251 dL_law_1252 dL_law_1253 ?_
  refine l_arg (j := 2) C rfl (by omega) dL_law_1254 dL_law_1255 dL_law_1256 dL_law_1257 dL_law_1258 ?_
  refine l_arg (j := 3) C rfl (by omega) dL_law_1259 dL_law_1260 dL_law_1261 dL_law_1262 dL_law_1263 ?_
  refine l_callC (n := 3) (As := [.int (xs (i + 1)), .int (xs (i + 2)), .int (xs (i + 3))]) (rest := []) C (m_X11_reads hC) q_758 q_759 q_760 q_1 q_761 ⟨rfl, by decide +kernel, by decide +kernel, by decide +kernel⟩ rfl (by decide) (by decide) rfl (Nat.le_of_ble_eq_true rfl) dL_law_1264 ?_
  refine l_aload C dL_law_1267 rfl 2 rfl ?_
  refine l_arg (j := 1) C rfl (by omega) dL_law_1268 dL_law_1269 dL_law_1270 dL_law_1271 dL_law_1272 ?_
  refine l_arg (j := 2) C rfl (by omega) dL_law_1273 dL_law_1274 dL_law_1275 dL_law_1276 dL_law_1277 ?_
  refine l_arg (j := 3) C rfl (by omega) dL_law_1278 dL_law_1279 dL_law_1280 dL_law_1281 dL_law_1282 ?_
  refine l_callM (n := 3) (As := [.int (xs (i + 1)), .int (xs (i + 2)), .int (xs (i + 3))]) (rest := [.int r]) C (m_X12_reads hM) q_1377 q_1378 q_1379 q_14 q_1380 ⟨rfl, by decide +kernel, by decide +kernel, by decide +kernel⟩ rfl (by decide) (by decide) rfl (Nat.le_of_ble_eq_true rfl) dL_law_1283 ?_
  exact l_icmp_eq C dL_law_1286 (by decide) hk
def Stp_33 (I : St → St → Prop) : Prop := ∀ (a1 : Int32) (σ τ : St), I σ τ → ∃ (r : Int32) (σ' τ' : St), (Q_reading a1 σ = some (r, σ')) ∧ (M_reading a1 τ = some (r, τ')) ∧ I σ' τ'
set_option maxHeartbeats 400000 in
set_option maxRecDepth 100000 in
theorem law_33 {x : Ctx} {wc wm : Wp} {b Ls : Nat} {xs : Nat → Int32} {Q : State → Prop} {σ τ : St} {i : Nat} {I : St → St → Prop} (C : CxL x wc wm b Ls xs) (hi : i + 6 ≤ Ls) (hI : I σ τ) (hs : Stp_33 I) (hk0 : ∀ σ' τ', I σ' τ' → VL x wc wm Q σ' τ' 1728 (LL wc wm b i) []) : VL x wc wm Q σ τ 1291 (LL wc wm b i) [] := by
  obtain ⟨r, σ', τ', hC, hM, hI'⟩ := hs (xs (i + 1)) σ τ hI
  have hk := hk0 σ' τ' hI'
  refine l_aload C dL_law_1291 rfl 1 rfl ?_
  refine l_arg (j := 1) C rfl (by omega) dL_law_1292 dL_law_1293 dL_law_1294 dL_law_1295 dL_law_1296 ?_
  refine l_callC (n := 1) (As := [.int (xs (i + 1))]) (rest := []) C (m_X11_reading hC) q_762 q_763 q_764 q_1 q_765 ⟨rfl, by decide +kernel, by decide +kernel, by decide +kernel⟩ rfl (by decide) (by decide) rfl (Nat.le_of_ble_eq_true rfl) dL_law_1297 ?_
  refine l_aload C dL_law_1300 rfl 2 rfl ?_
  refine l_arg (j := 1) C rfl (by omega) dL_law_1301 dL_law_1302 dL_law_1303 dL_law_1304 dL_law_1305 ?_
  refine l_callM (n := 1) (As := [.int (xs (i + 1))]) (rest := [.int r]) C (m_X12_reading hM) q_1381 q_1382 q_1383 q_14 q_1384 ⟨rfl, by decide +kernel, by decide +kernel, by decide +kernel⟩ rfl (by decide) (by decide) rfl (Nat.le_of_ble_eq_true rfl) dL_law_1306 ?_
  exact l_icmp_eq C dL_law_1309 (by decide) hk
def Stp_34 (I : St → St → Prop) : Prop := ∀ (a1 : Int32) (a2 : Int32) (a3 : Int32) (σ τ : St), I σ τ → ∃ (r : Int32) (σ' τ' : St), (Q_slip a1 a2 a3 σ = some (r, σ')) ∧ (M_slip a1 a2 a3 τ = some (r, τ')) ∧ I σ' τ'
set_option maxHeartbeats 400000 in
set_option maxRecDepth 100000 in
theorem law_34 {x : Ctx} {wc wm : Wp} {b Ls : Nat} {xs : Nat → Int32} {Q : State → Prop} {σ τ : St} {i : Nat} {I : St → St → Prop} (C : CxL x wc wm b Ls xs) (hi : i + 6 ≤ Ls) (hI : I σ τ) (hs : Stp_34 I) (hk0 : ∀ σ' τ', I σ' τ' → VL x wc wm Q σ' τ' 1728 (LL wc wm b i) []) : VL x wc wm Q σ τ 1314 (LL wc wm b i) [] := by
  obtain ⟨r, σ', τ', hC, hM, hI'⟩ := hs (xs (i + 1)) (xs (i + 2)) (xs (i + 3)) σ τ hI
  have hk := hk0 σ' τ' hI'
  refine l_aload C dL_law_1314 rfl 1 rfl ?_
  refine l_arg (j := 1) C rfl (by omega) dL_law_1315 dL_law_1316 dL_law_1317 dL_law_1318 dL_law_1319 ?_
  refine l_arg (j := 2) C rfl (by omega) dL_law_1320 dL_law_1321 dL_law_1322 dL_law_1323 dL_law_1324 ?_
  refine l_arg (j := 3) C rfl (by omega) dL_law_1325 dL_law_1326 dL_law_1327 dL_law_1328 dL_law_1329 ?_
  refine l_callC (n := 3) (As := [.int (xs (i + 1)), .int (xs (i + 2)), .int (xs (i + 3))]) (rest := []) C (m_X11_slip hC) q_770 q_771 q_772 q_1 q_773 ⟨rfl, by decide +kernel, by decide +kernel, by decide +kernel⟩ rfl (by decide) (by decide) rfl (Nat.le_of_ble_eq_true rfl) dL_law_1330 ?_
  refine l_aload C dL_law_1333 rfl 2 rfl ?_
  refine l_arg (j := 1) C rfl (by omega) dL_law_1334 dL_law_1335 dL_law_1336 dL_law_1337 dL_law_1338 ?_
  refine l_arg (j := 2) C rfl (by omega) dL_law_1339 dL_law_1340 dL_law_1341 dL_law_1342 dL_law_1343 ?_
  refine l_arg (j := 3) C rfl (by omega) dL_law_1344 dL_law_1345 dL_law_1346 dL_law_1347 dL_law_1348 ?_
  refine l_callM (n := 3) (As := [.int (xs (i + 1)), .int (xs (i + 2)), .int (xs (i + 3))]) (rest := [.int r]) C (m_X12_slip hM) q_1385 q_1386 q_1387 q_14 q_1388 ⟨rfl, by decide +kernel, by decide +kernel, by decide +kernel⟩ rfl (by decide) (by decide) rfl (Nat.le_of_ble_eq_true rfl) dL_law_1349 ?_
  exact l_icmp_eq C dL_law_1352 (by decide) hk
def Stp_35 (I : St → St → Prop) : Prop := ∀ (a1 : Int32) (σ τ : St), I σ τ → ∃ (r : Int32) (σ' τ' : St), (Q_runs a1 σ = some (r, σ')) ∧ (M_runs a1 τ = some (r, τ')) ∧ I σ' τ'
set_option maxHeartbeats 400000 in
set_option maxRecDepth 100000 in
theorem law_35 {x : Ctx} {wc wm : Wp} {b Ls : Nat} {xs : Nat → Int32} {Q : State → Prop} {σ τ : St} {i : Nat} {I : St → St → Prop} (C : CxL x wc wm b Ls xs) (hi : i + 6 ≤ Ls) (hI : I σ τ) (hs : Stp_35 I) (hk0 : ∀ σ' τ', I σ' τ' → VL x wc wm Q σ' τ' 1728 (LL wc wm b i) []) : VL x wc wm Q σ τ 1357 (LL wc wm b i) [] := by
  obtain ⟨r, σ', τ', hC, hM, hI'⟩ := hs (xs (i + 1)) σ τ hI
  have hk := hk0 σ' τ' hI'
  refine l_aload C dL_law_1357 rfl 1 rfl ?_
  refine l_arg (j := 1) C rfl (by omega) dL_law_1358 dL_law_1359 dL_law_1360 dL_law_1361 dL_law_1362 ?_
  refine l_callC (n := 1) (As := [.int (xs (i + 1))]) (rest := []) C (m_X11_runs hC) q_778 q_779 q_780 q_1 q_781 ⟨rfl, by decide +kernel, by decide +kernel, by decide +kernel⟩ rfl (by decide) (by decide) rfl (Nat.le_of_ble_eq_true rfl) dL_law_1363 ?_
  refine l_aload C dL_law_1366 rfl 2 rfl ?_
  refine l_arg (j := 1) C rfl (by omega) dL_law_1367 dL_law_1368 dL_law_1369 dL_law_1370 dL_law_1371 ?_
  refine l_callM (n := 1) (As := [.int (xs (i + 1))]) (rest := [.int r]) C (m_X12_runs hM) q_1389 q_1390 q_1391 q_14 q_1392 ⟨rfl, by decide +kernel, by decide +kernel, by decide +kernel⟩ rfl (by decide) (by decide) rfl (Nat.le_of_ble_eq_true rfl) dL_law_1372 ?_
  exact l_icmp_eq C dL_law_1375 (by decide) hk
def Stp_36 (I : St → St → Prop) : Prop := ∀ (a1 : Int32) (a2 : Int32) (a3 : Int32) (σ τ : St), I σ τ → ∃ (r : Int32) (σ' τ' : St), (Q_move a1 a2 a3 σ = some (r, σ')) ∧ (M_move a1 a2 a3 τ = some (r, τ')) ∧ I σ' τ'
set_option maxHeartbeats 400000 in
set_option maxRecDepth 100000 in
theorem law_36 {x : Ctx} {wc wm : Wp} {b Ls : Nat} {xs : Nat → Int32} {Q : State → Prop} {σ τ : St} {i : Nat} {I : St → St → Prop} (C : CxL x wc wm b Ls xs) (hi : i + 6 ≤ Ls) (hI : I σ τ) (hs : Stp_36 I) (hk0 : ∀ σ' τ', I σ' τ' → VL x wc wm Q σ' τ' 1728 (LL wc wm b i) []) : VL x wc wm Q σ τ 1380 (LL wc wm b i) [] := by
  obtain ⟨r, σ', τ', hC, hM, hI'⟩ := hs (xs (i + 1)) (xs (i + 2)) (xs (i + 3)) σ τ hI
  have hk := hk0 σ' τ' hI'
  refine l_aload C dL_law_1380 rfl 1 rfl ?_
  refine l_arg (j := 1) C rfl (by omega) dL_law_1381 dL_law_1382 dL_law_1383 dL_law_1384 dL_law_1385 ?_
  refine l_arg (j := 2) C rfl (by omega) dL_law_1386 dL_law_1387 dL_law_1388 dL_law_1389 dL_law_1390 ?_
  refine l_arg (j := 3) C rfl (by omega) dL_law_1391 dL_law_1392 dL_law_1393 dL_law_1394 dL_law_1395 ?_
  refine l_callC (n := 3) (As := [.int (xs (i + 1)), .int (xs (i + 2)), .int (xs (i + 3))]) (rest := []) C (m_X11_move hC) q_789 q_790 q_791 q_1 q_792 ⟨rfl, by decide +kernel, by decide +kernel, by decide +kernel⟩ rfl (by decide) (by decide) rfl (Nat.le_of_ble_eq_true rfl) dL_law_1396 ?_
  refine l_aload C dL_law_1399 rfl 2 rfl ?_
  refine l_arg (j := 1) C rfl (by omega) dL_law_1400 dL_law_1401 dL_law_1402 dL_law_1403 dL_law_1404 ?_
  refine l_arg (j := 2) C rfl (by omega) dL_law_1405 dL_law_1406 dL_law_1407 dL_law_1408 dL_law_1409 ?_
  refine l_arg (j := 3) C rfl (by omega) dL_law_1410 dL_law_1411 dL_law_1412 dL_law_1413 dL_law_1414 ?_
  refine l_callM (n := 3) (As := [.int (xs (i + 1)), .int (xs (i + 2)), .int (xs (i + 3))]) (rest := [.int r]) C (m_X12_move hM) q_1393 q_1394 q_1395 q_14 q_1396 ⟨rfl, by decide +kernel, by decide +kernel, by decide +kernel⟩ rfl (by decide) (by decide) rfl (Nat.le_of_ble_eq_true rfl) dL_law_1415 ?_
  exact l_icmp_eq C dL_law_1418 (by decide) hk
def Stp_37 (I : St → St → Prop) : Prop := ∀ (a1 : Int32) (a2 : Int32) (σ τ : St), I σ τ → ∃ (r : Int32) (σ' τ' : St), (Q_moved a1 a2 σ = some (r, σ')) ∧ (M_moved a1 a2 τ = some (r, τ')) ∧ I σ' τ'
set_option maxHeartbeats 400000 in
set_option maxRecDepth 100000 in
theorem law_37 {x : Ctx} {wc wm : Wp} {b Ls : Nat} {xs : Nat → Int32} {Q : State → Prop} {σ τ : St} {i : Nat} {I : St → St → Prop} (C : CxL x wc wm b Ls xs) (hi : i + 6 ≤ Ls) (hI : I σ τ) (hs : Stp_37 I) (hk0 : ∀ σ' τ', I σ' τ' → VL x wc wm Q σ' τ' 1728 (LL wc wm b i) []) : VL x wc wm Q σ τ 1423 (LL wc wm b i) [] := by
  obtain ⟨r, σ', τ', hC, hM, hI'⟩ := hs (xs (i + 1)) (xs (i + 2)) σ τ hI
  have hk := hk0 σ' τ' hI'
  refine l_aload C dL_law_1423 rfl 1 rfl ?_
  refine l_arg (j := 1) C rfl (by omega) dL_law_1424 dL_law_1425 dL_law_1426 dL_law_1427 dL_law_1428 ?_
  refine l_arg (j := 2) C rfl (by omega) dL_law_1429 dL_law_1430 dL_law_1431 dL_law_1432 dL_law_1433 ?_
  refine l_callC (n := 2) (As := [.int (xs (i + 1)), .int (xs (i + 2))]) (rest := []) C (m_X11_moved hC) q_804 q_805 q_806 q_1 q_807 ⟨rfl, by decide +kernel, by decide +kernel, by decide +kernel⟩ rfl (by decide) (by decide) rfl (Nat.le_of_ble_eq_true rfl) dL_law_1434 ?_
  refine l_aload C dL_law_1437 rfl 2 rfl ?_
  refine l_arg (j := 1) C rfl (by omega) dL_law_1438 dL_law_1439 dL_law_1440 dL_law_1441 dL_law_1442 ?_
  refine l_arg (j := 2) C rfl (by omega) dL_law_1443 dL_law_1444 dL_law_1445 dL_law_1446 dL_law_1447 ?_
  refine l_callM (n := 2) (As := [.int (xs (i + 1)), .int (xs (i + 2))]) (rest := [.int r]) C (m_X12_moved hM) q_1401 q_1402 q_1403 q_14 q_1404 ⟨rfl, by decide +kernel, by decide +kernel, by decide +kernel⟩ rfl (by decide) (by decide) rfl (Nat.le_of_ble_eq_true rfl) dL_law_1448 ?_
  exact l_icmp_eq C dL_law_1451 (by decide) hk
def Stp_38 (I : St → St → Prop) : Prop := ∀ (a1 : Int32) (a2 : Int32) (σ τ : St), I σ τ → ∃ (r : Int32) (σ' τ' : St), (Q_mark a1 a2 σ = some (r, σ')) ∧ (M_mark a1 a2 τ = some (r, τ')) ∧ I σ' τ'
set_option maxHeartbeats 400000 in
set_option maxRecDepth 100000 in
theorem law_38 {x : Ctx} {wc wm : Wp} {b Ls : Nat} {xs : Nat → Int32} {Q : State → Prop} {σ τ : St} {i : Nat} {I : St → St → Prop} (C : CxL x wc wm b Ls xs) (hi : i + 6 ≤ Ls) (hI : I σ τ) (hs : Stp_38 I) (hk0 : ∀ σ' τ', I σ' τ' → VL x wc wm Q σ' τ' 1728 (LL wc wm b i) []) : VL x wc wm Q σ τ 1456 (LL wc wm b i) [] := by
  obtain ⟨r, σ', τ', hC, hM, hI'⟩ := hs (xs (i + 1)) (xs (i + 2)) σ τ hI
  have hk := hk0 σ' τ' hI'
  refine l_aload C dL_law_1456 rfl 1 rfl ?_
  refine l_arg (j := 1) C rfl (by omega) dL_law_1457 dL_law_1458 dL_law_1459 dL_law_1460 dL_law_1461 ?_
  refine l_arg (j := 2) C rfl (by omega) dL_law_1462 dL_law_1463 dL_law_1464 dL_law_1465 dL_law_1466 ?_
  refine l_callC (n := 2) (As := [.int (xs (i + 1)), .int (xs (i + 2))]) (rest := []) C (m_X11_mark hC) q_812 q_813 q_814 q_1 q_815 ⟨rfl, by decide +kernel, by decide +kernel, by decide +kernel⟩ rfl (by decide) (by decide) rfl (Nat.le_of_ble_eq_true rfl) dL_law_1467 ?_
  refine l_aload C dL_law_1470 rfl 2 rfl ?_
  refine l_arg (j := 1) C rfl (by omega) dL_law_1471 dL_law_1472 dL_law_1473 dL_law_1474 dL_law_1475 ?_
  refine l_arg (j := 2) C rfl (by omega) dL_law_1476 dL_law_1477 dL_law_1478 dL_law_1479 dL_law_1480 ?_
  refine l_callM (n := 2) (As := [.int (xs (i + 1)), .int (xs (i + 2))]) (rest := [.int r]) C (m_X12_mark hM) q_1409 q_1410 q_1411 q_14 q_1412 ⟨rfl, by decide +kernel, by decide +kernel, by decide +kernel⟩ rfl (by decide) (by decide) rfl (Nat.le_of_ble_eq_true rfl) dL_law_1481 ?_
  exact l_icmp_eq C dL_law_1484 (by decide) hk
def Stp_39 (I : St → St → Prop) : Prop := ∀  (σ τ : St), I σ τ → ∃ (r : Int32) (σ' τ' : St), (Q_follow σ = some (r, σ')) ∧ (M_follow τ = some (r, τ')) ∧ I σ' τ'
set_option maxHeartbeats 400000 in
set_option maxRecDepth 100000 in
theorem law_39 {x : Ctx} {wc wm : Wp} {b Ls : Nat} {xs : Nat → Int32} {Q : State → Prop} {σ τ : St} {i : Nat} {I : St → St → Prop} (C : CxL x wc wm b Ls xs) (hi : i + 6 ≤ Ls) (hI : I σ τ) (hs : Stp_39 I) (hk0 : ∀ σ' τ', I σ' τ' → VL x wc wm Q σ' τ' 1728 (LL wc wm b i) []) : VL x wc wm Q σ τ 1489 (LL wc wm b i) [] := by
  obtain ⟨r, σ', τ', hC, hM, hI'⟩ := hs  σ τ hI
  have hk := hk0 σ' τ' hI'
  refine l_aload C dL_law_1489 rfl 1 rfl ?_
  refine l_callC (n := 0) (As := []) (rest := []) C (m_X11_follow hC) q_829 q_830 q_831 q_1 q_832 ⟨rfl, by decide +kernel, by decide +kernel, by decide +kernel⟩ rfl (by decide) (by decide) rfl (Nat.le_of_ble_eq_true rfl) dL_law_1490 ?_
  refine l_aload C dL_law_1493 rfl 2 rfl ?_
  refine l_callM (n := 0) (As := []) (rest := [.int r]) C (m_X12_follow hM) q_1413 q_1414 q_1415 q_14 q_1416 ⟨rfl, by decide +kernel, by decide +kernel, by decide +kernel⟩ rfl (by decide) (by decide) rfl (Nat.le_of_ble_eq_true rfl) dL_law_1494 ?_
  exact l_icmp_eq C dL_law_1497 (by decide) hk
def Stp_40 (I : St → St → Prop) : Prop := ∀ (a1 : Int32) (a2 : Int32) (σ τ : St), I σ τ → ∃ (r : Int32) (σ' τ' : St), (Q_law a1 a2 σ = some (r, σ')) ∧ (M_law a1 a2 τ = some (r, τ')) ∧ I σ' τ'
set_option maxHeartbeats 400000 in
set_option maxRecDepth 100000 in
theorem law_40 {x : Ctx} {wc wm : Wp} {b Ls : Nat} {xs : Nat → Int32} {Q : State → Prop} {σ τ : St} {i : Nat} {I : St → St → Prop} (C : CxL x wc wm b Ls xs) (hi : i + 6 ≤ Ls) (hI : I σ τ) (hs : Stp_40 I) (hk0 : ∀ σ' τ', I σ' τ' → VL x wc wm Q σ' τ' 1728 (LL wc wm b i) []) : VL x wc wm Q σ τ 1502 (LL wc wm b i) [] := by
  obtain ⟨r, σ', τ', hC, hM, hI'⟩ := hs (xs (i + 1)) (xs (i + 2)) σ τ hI
  have hk := hk0 σ' τ' hI'
  refine l_aload C dL_law_1502 rfl 1 rfl ?_
  refine l_arg (j := 1) C rfl (by omega) dL_law_1503 dL_law_1504 dL_law_1505 dL_law_1506 dL_law_1507 ?_
  refine l_arg (j := 2) C rfl (by omega) dL_law_1508 dL_law_1509 dL_law_1510 dL_law_1511 dL_law_1512 ?_
  refine l_callC (n := 2) (As := [.int (xs (i + 1)), .int (xs (i + 2))]) (rest := []) C (m_X11_law hC) q_853 q_854 q_855 q_1 q_856 ⟨rfl, by decide +kernel, by decide +kernel, by decide +kernel⟩ rfl (by decide) (by decide) rfl (Nat.le_of_ble_eq_true rfl) dL_law_1513 ?_
  refine l_aload C dL_law_1516 rfl 2 rfl ?_
  refine l_arg (j := 1) C rfl (by omega) dL_law_1517 dL_law_1518 dL_law_1519 dL_law_1520 dL_law_1521 ?_
  refine l_arg (j := 2) C rfl (by omega) dL_law_1522 dL_law_1523 dL_law_1524 dL_law_1525 dL_law_1526 ?_
  refine l_callM (n := 2) (As := [.int (xs (i + 1)), .int (xs (i + 2))]) (rest := [.int r]) C (m_X12_law hM) q_1421 q_1422 q_1423 q_14 q_1424 ⟨rfl, by decide +kernel, by decide +kernel, by decide +kernel⟩ rfl (by decide) (by decide) rfl (Nat.le_of_ble_eq_true rfl) dL_law_1527 ?_
  exact l_icmp_eq C dL_law_1530 (by decide) hk
def Stp_41 (I : St → St → Prop) : Prop := ∀ (a1 : Int32) (a2 : Int32) (σ τ : St), I σ τ → ∃ (r : Int32) (σ' τ' : St), (Q_lawsPart a1 a2 σ = some (r, σ')) ∧ (M_lawsPart a1 a2 τ = some (r, τ')) ∧ I σ' τ'
set_option maxHeartbeats 400000 in
set_option maxRecDepth 100000 in
theorem law_41 {x : Ctx} {wc wm : Wp} {b Ls : Nat} {xs : Nat → Int32} {Q : State → Prop} {σ τ : St} {i : Nat} {I : St → St → Prop} (C : CxL x wc wm b Ls xs) (hi : i + 6 ≤ Ls) (hI : I σ τ) (hs : Stp_41 I) (hk0 : ∀ σ' τ', I σ' τ' → VL x wc wm Q σ' τ' 1728 (LL wc wm b i) []) : VL x wc wm Q σ τ 1535 (LL wc wm b i) [] := by
  obtain ⟨r, σ', τ', hC, hM, hI'⟩ := hs (xs (i + 1)) (xs (i + 2)) σ τ hI
  have hk := hk0 σ' τ' hI'
  refine l_aload C dL_law_1535 rfl 1 rfl ?_
  refine l_arg (j := 1) C rfl (by omega) dL_law_1536 dL_law_1537 dL_law_1538 dL_law_1539 dL_law_1540 ?_
  refine l_arg (j := 2) C rfl (by omega) dL_law_1541 dL_law_1542 dL_law_1543 dL_law_1544 dL_law_1545 ?_
  refine l_callC (n := 2) (As := [.int (xs (i + 1)), .int (xs (i + 2))]) (rest := []) C (m_X11_lawsPart hC) q_872 q_873 q_874 q_1 q_875 ⟨rfl, by decide +kernel, by decide +kernel, by decide +kernel⟩ rfl (by decide) (by decide) rfl (Nat.le_of_ble_eq_true rfl) dL_law_1546 ?_
  refine l_aload C dL_law_1549 rfl 2 rfl ?_
  refine l_arg (j := 1) C rfl (by omega) dL_law_1550 dL_law_1551 dL_law_1552 dL_law_1553 dL_law_1554 ?_
  refine l_arg (j := 2) C rfl (by omega) dL_law_1555 dL_law_1556 dL_law_1557 dL_law_1558 dL_law_1559 ?_
  refine l_callM (n := 2) (As := [.int (xs (i + 1)), .int (xs (i + 2))]) (rest := [.int r]) C (m_X12_lawsPart hM) q_1432 q_1433 q_1434 q_14 q_1435 ⟨rfl, by decide +kernel, by decide +kernel, by decide +kernel⟩ rfl (by decide) (by decide) rfl (Nat.le_of_ble_eq_true rfl) dL_law_1560 ?_
  exact l_icmp_eq C dL_law_1563 (by decide) hk
def Stp_42 (I : St → St → Prop) : Prop := ∀ (a1 : Int32) (a2 : Int32) (σ τ : St), I σ τ → ∃ (r : Int32) (σ' τ' : St), (Q_fresh a1 a2 σ = some (r, σ')) ∧ (M_fresh a1 a2 τ = some (r, τ')) ∧ I σ' τ'
set_option maxHeartbeats 400000 in
set_option maxRecDepth 100000 in
theorem law_42 {x : Ctx} {wc wm : Wp} {b Ls : Nat} {xs : Nat → Int32} {Q : State → Prop} {σ τ : St} {i : Nat} {I : St → St → Prop} (C : CxL x wc wm b Ls xs) (hi : i + 6 ≤ Ls) (hI : I σ τ) (hs : Stp_42 I) (hk0 : ∀ σ' τ', I σ' τ' → VL x wc wm Q σ' τ' 1728 (LL wc wm b i) []) : VL x wc wm Q σ τ 1568 (LL wc wm b i) [] := by
  obtain ⟨r, σ', τ', hC, hM, hI'⟩ := hs (xs (i + 1)) (xs (i + 2)) σ τ hI
  have hk := hk0 σ' τ' hI'
  refine l_aload C dL_law_1568 rfl 1 rfl ?_
  refine l_arg (j := 1) C rfl (by omega) dL_law_1569 dL_law_1570 dL_law_1571 dL_law_1572 dL_law_1573 ?_
  refine l_arg (j := 2) C rfl (by omega) dL_law_1574 dL_law_1575 dL_law_1576 dL_law_1577 dL_law_1578 ?_
  refine l_callC (n := 2) (As := [.int (xs (i + 1)), .int (xs (i + 2))]) (rest := []) C (m_X11_fresh hC) q_876 q_877 q_878 q_1 q_879 ⟨rfl, by decide +kernel, by decide +kernel, by decide +kernel⟩ rfl (by decide) (by decide) rfl (Nat.le_of_ble_eq_true rfl) dL_law_1579 ?_
  refine l_aload C dL_law_1582 rfl 2 rfl ?_
  refine l_arg (j := 1) C rfl (by omega) dL_law_1583 dL_law_1584 dL_law_1585 dL_law_1586 dL_law_1587 ?_
  refine l_arg (j := 2) C rfl (by omega) dL_law_1588 dL_law_1589 dL_law_1590 dL_law_1591 dL_law_1592 ?_
  refine l_callM (n := 2) (As := [.int (xs (i + 1)), .int (xs (i + 2))]) (rest := [.int r]) C (m_X12_fresh hM) q_1436 q_1437 q_1438 q_14 q_1439 ⟨rfl, by decide +kernel, by decide +kernel, by decide +kernel⟩ rfl (by decide) (by decide) rfl (Nat.le_of_ble_eq_true rfl) dL_law_1593 ?_
  exact l_icmp_eq C dL_law_1596 (by decide) hk
def Stp_43 (I : St → St → Prop) : Prop := ∀  (σ τ : St), I σ τ → ∃ (r : Int32) (σ' τ' : St), (Q_next σ = some (r, σ')) ∧ (M_next τ = some (r, τ')) ∧ I σ' τ'
set_option maxHeartbeats 400000 in
set_option maxRecDepth 100000 in
theorem law_43 {x : Ctx} {wc wm : Wp} {b Ls : Nat} {xs : Nat → Int32} {Q : State → Prop} {σ τ : St} {i : Nat} {I : St → St → Prop} (C : CxL x wc wm b Ls xs) (hi : i + 6 ≤ Ls) (hI : I σ τ) (hs : Stp_43 I) (hk0 : ∀ σ' τ', I σ' τ' → VL x wc wm Q σ' τ' 1728 (LL wc wm b i) []) : VL x wc wm Q σ τ 1601 (LL wc wm b i) [] := by
  obtain ⟨r, σ', τ', hC, hM, hI'⟩ := hs  σ τ hI
  have hk := hk0 σ' τ' hI'
  refine l_aload C dL_law_1601 rfl 1 rfl ?_
  refine l_callC (n := 0) (As := []) (rest := []) C (m_X11_next hC) q_886 q_887 q_888 q_1 q_889 ⟨rfl, by decide +kernel, by decide +kernel, by decide +kernel⟩ rfl (by decide) (by decide) rfl (Nat.le_of_ble_eq_true rfl) dL_law_1602 ?_
  refine l_aload C dL_law_1605 rfl 2 rfl ?_
  refine l_callM (n := 0) (As := []) (rest := [.int r]) C (m_X12_next hM) q_1440 q_1441 q_1442 q_14 q_1443 ⟨rfl, by decide +kernel, by decide +kernel, by decide +kernel⟩ rfl (by decide) (by decide) rfl (Nat.le_of_ble_eq_true rfl) dL_law_1606 ?_
  exact l_icmp_eq C dL_law_1609 (by decide) hk
def Stp_44 (I : St → St → Prop) : Prop := ∀  (σ τ : St), I σ τ → ∃ (r : Int32) (σ' τ' : St), (Q_asked σ = r ∧ σ' = σ) ∧ (M_asked τ = r ∧ τ' = τ) ∧ I σ' τ'
set_option maxHeartbeats 400000 in
set_option maxRecDepth 100000 in
theorem law_44 {x : Ctx} {wc wm : Wp} {b Ls : Nat} {xs : Nat → Int32} {Q : State → Prop} {σ τ : St} {i : Nat} {I : St → St → Prop} (C : CxL x wc wm b Ls xs) (hi : i + 6 ≤ Ls) (hI : I σ τ) (hs : Stp_44 I) (hk0 : ∀ σ' τ', I σ' τ' → VL x wc wm Q σ' τ' 1728 (LL wc wm b i) []) : VL x wc wm Q σ τ 1614 (LL wc wm b i) [] := by
  obtain ⟨r, σ', τ', hC, hM, hI'⟩ := hs  σ τ hI
  have hk := hk0 σ' τ' hI'
  obtain ⟨hC, ehC⟩ := hC
  subst ehC
  obtain ⟨hM, ehM⟩ := hM
  subst ehM
  refine l_aload C dL_law_1614 rfl 1 rfl ?_
  refine l_callC (n := 0) (As := []) (rest := []) C (m_X11_asked hC) q_895 q_896 q_897 q_1 q_898 ⟨rfl, by decide +kernel, by decide +kernel, by decide +kernel⟩ rfl (by decide) (by decide) rfl (Nat.le_of_ble_eq_true rfl) dL_law_1615 ?_
  refine l_aload C dL_law_1618 rfl 2 rfl ?_
  refine l_callM (n := 0) (As := []) (rest := [.int r]) C (m_X12_asked hM) q_1444 q_1445 q_1446 q_14 q_1447 ⟨rfl, by decide +kernel, by decide +kernel, by decide +kernel⟩ rfl (by decide) (by decide) rfl (Nat.le_of_ble_eq_true rfl) dL_law_1619 ?_
  exact l_icmp_eq C dL_law_1622 (by decide) hk
def Stp_45 (I : St → St → Prop) : Prop := ∀  (σ τ : St), I σ τ → ∃ (r : Int64) (σ' τ' : St), (Q_upper σ = r ∧ σ' = σ) ∧ (M_upper τ = r ∧ τ' = τ) ∧ I σ' τ'
set_option maxHeartbeats 400000 in
set_option maxRecDepth 100000 in
theorem law_45 {x : Ctx} {wc wm : Wp} {b Ls : Nat} {xs : Nat → Int32} {Q : State → Prop} {σ τ : St} {i : Nat} {I : St → St → Prop} (C : CxL x wc wm b Ls xs) (hi : i + 6 ≤ Ls) (hI : I σ τ) (hs : Stp_45 I) (hk0 : ∀ σ' τ', I σ' τ' → VL x wc wm Q σ' τ' 1728 (LL wc wm b i) []) : VL x wc wm Q σ τ 1627 (LL wc wm b i) [] := by
  obtain ⟨r, σ', τ', hC, hM, hI'⟩ := hs  σ τ hI
  have hk := hk0 σ' τ' hI'
  obtain ⟨hC, ehC⟩ := hC
  subst ehC
  obtain ⟨hM, ehM⟩ := hM
  subst ehM
  refine l_aload C dL_law_1627 rfl 1 rfl ?_
  refine l_callC (n := 0) (As := []) (rest := []) C (m_X11_upper hC) q_899 q_900 q_901 q_1 q_902 ⟨rfl, by decide +kernel, by decide +kernel, by decide +kernel⟩ rfl (by decide) (by decide) rfl (Nat.le_of_ble_eq_true rfl) dL_law_1628 ?_
  refine l_aload C dL_law_1631 rfl 2 rfl ?_
  refine l_callM (n := 0) (As := []) (rest := [.long r]) C (m_X12_upper hM) q_1448 q_1449 q_1450 q_14 q_1451 ⟨rfl, by decide +kernel, by decide +kernel, by decide +kernel⟩ rfl (by decide) (by decide) rfl (Nat.le_of_ble_eq_true rfl) dL_law_1632 ?_
  exact l_lcmp C dL_law_1635 dL_law_1636 (by decide) hk
def Stp_46 (I : St → St → Prop) : Prop := ∀  (σ τ : St), I σ τ → ∃ (r : Int64) (σ' τ' : St), (Q_lower σ = r ∧ σ' = σ) ∧ (M_lower τ = r ∧ τ' = τ) ∧ I σ' τ'
set_option maxHeartbeats 400000 in
set_option maxRecDepth 100000 in
theorem law_46 {x : Ctx} {wc wm : Wp} {b Ls : Nat} {xs : Nat → Int32} {Q : State → Prop} {σ τ : St} {i : Nat} {I : St → St → Prop} (C : CxL x wc wm b Ls xs) (hi : i + 6 ≤ Ls) (hI : I σ τ) (hs : Stp_46 I) (hk0 : ∀ σ' τ', I σ' τ' → VL x wc wm Q σ' τ' 1728 (LL wc wm b i) []) : VL x wc wm Q σ τ 1641 (LL wc wm b i) [] := by
  obtain ⟨r, σ', τ', hC, hM, hI'⟩ := hs  σ τ hI
  have hk := hk0 σ' τ' hI'
  obtain ⟨hC, ehC⟩ := hC
  subst ehC
  obtain ⟨hM, ehM⟩ := hM
  subst ehM
  refine l_aload C dL_law_1641 rfl 1 rfl ?_
  refine l_callC (n := 0) (As := []) (rest := []) C (m_X11_lower hC) q_903 q_904 q_905 q_1 q_906 ⟨rfl, by decide +kernel, by decide +kernel, by decide +kernel⟩ rfl (by decide) (by decide) rfl (Nat.le_of_ble_eq_true rfl) dL_law_1642 ?_
  refine l_aload C dL_law_1645 rfl 2 rfl ?_
  refine l_callM (n := 0) (As := []) (rest := [.long r]) C (m_X12_lower hM) q_1452 q_1453 q_1454 q_14 q_1455 ⟨rfl, by decide +kernel, by decide +kernel, by decide +kernel⟩ rfl (by decide) (by decide) rfl (Nat.le_of_ble_eq_true rfl) dL_law_1646 ?_
  exact l_lcmp C dL_law_1649 dL_law_1650 (by decide) hk
def Stp_47 (I : St → St → Prop) : Prop := ∀ (a1 : Int32) (σ τ : St), I σ τ → ∃ (r : Int32) (σ' τ' : St), (Q_count a1 σ = some r ∧ σ' = σ) ∧ (M_count a1 τ = some r ∧ τ' = τ) ∧ I σ' τ'
set_option maxHeartbeats 400000 in
set_option maxRecDepth 100000 in
theorem law_47 {x : Ctx} {wc wm : Wp} {b Ls : Nat} {xs : Nat → Int32} {Q : State → Prop} {σ τ : St} {i : Nat} {I : St → St → Prop} (C : CxL x wc wm b Ls xs) (hi : i + 6 ≤ Ls) (hI : I σ τ) (hs : Stp_47 I) (hk0 : ∀ σ' τ', I σ' τ' → VL x wc wm Q σ' τ' 1728 (LL wc wm b i) []) : VL x wc wm Q σ τ 1655 (LL wc wm b i) [] := by
  obtain ⟨r, σ', τ', hC, hM, hI'⟩ := hs (xs (i + 1)) σ τ hI
  have hk := hk0 σ' τ' hI'
  obtain ⟨hC, ehC⟩ := hC
  subst ehC
  obtain ⟨hM, ehM⟩ := hM
  subst ehM
  refine l_aload C dL_law_1655 rfl 1 rfl ?_
  refine l_arg (j := 1) C rfl (by omega) dL_law_1656 dL_law_1657 dL_law_1658 dL_law_1659 dL_law_1660 ?_
  refine l_callC (n := 1) (As := [.int (xs (i + 1))]) (rest := []) C (m_X11_count hC) q_907 q_908 q_909 q_1 q_910 ⟨rfl, by decide +kernel, by decide +kernel, by decide +kernel⟩ rfl (by decide) (by decide) rfl (Nat.le_of_ble_eq_true rfl) dL_law_1661 ?_
  refine l_aload C dL_law_1664 rfl 2 rfl ?_
  refine l_arg (j := 1) C rfl (by omega) dL_law_1665 dL_law_1666 dL_law_1667 dL_law_1668 dL_law_1669 ?_
  refine l_callM (n := 1) (As := [.int (xs (i + 1))]) (rest := [.int r]) C (m_X12_count hM) q_1456 q_1457 q_1458 q_14 q_1459 ⟨rfl, by decide +kernel, by decide +kernel, by decide +kernel⟩ rfl (by decide) (by decide) rfl (Nat.le_of_ble_eq_true rfl) dL_law_1670 ?_
  exact l_icmp_eq C dL_law_1673 (by decide) hk
def Stp_48 (I : St → St → Prop) : Prop := ∀  (σ τ : St), I σ τ → ∃ (r : Int32) (σ' τ' : St), (Q_finding σ = r ∧ σ' = σ) ∧ (M_finding τ = r ∧ τ' = τ) ∧ I σ' τ'
set_option maxHeartbeats 400000 in
set_option maxRecDepth 100000 in
theorem law_48 {x : Ctx} {wc wm : Wp} {b Ls : Nat} {xs : Nat → Int32} {Q : State → Prop} {σ τ : St} {i : Nat} {I : St → St → Prop} (C : CxL x wc wm b Ls xs) (hi : i + 6 ≤ Ls) (hI : I σ τ) (hs : Stp_48 I) (hk0 : ∀ σ' τ', I σ' τ' → VL x wc wm Q σ' τ' 1728 (LL wc wm b i) []) : VL x wc wm Q σ τ 1678 (LL wc wm b i) [] := by
  obtain ⟨r, σ', τ', hC, hM, hI'⟩ := hs  σ τ hI
  have hk := hk0 σ' τ' hI'
  obtain ⟨hC, ehC⟩ := hC
  subst ehC
  obtain ⟨hM, ehM⟩ := hM
  subst ehM
  refine l_aload C dL_law_1678 rfl 1 rfl ?_
  refine l_callC (n := 0) (As := []) (rest := []) C (m_X11_finding hC) q_927 q_928 q_929 q_1 q_930 ⟨rfl, by decide +kernel, by decide +kernel, by decide +kernel⟩ rfl (by decide) (by decide) rfl (Nat.le_of_ble_eq_true rfl) dL_law_1679 ?_
  refine l_aload C dL_law_1682 rfl 2 rfl ?_
  refine l_callM (n := 0) (As := []) (rest := [.int r]) C (m_X12_finding hM) q_1464 q_1465 q_1466 q_14 q_1467 ⟨rfl, by decide +kernel, by decide +kernel, by decide +kernel⟩ rfl (by decide) (by decide) rfl (Nat.le_of_ble_eq_true rfl) dL_law_1683 ?_
  exact l_icmp_eq C dL_law_1686 (by decide) hk
def Stp_49 (I : St → St → Prop) : Prop := ∀ (a1 : Int32) (σ τ : St), I σ τ → ∃ (r : Int32) (σ' τ' : St), (Q_findings a1 σ = some r ∧ σ' = σ) ∧ (M_findings a1 τ = some r ∧ τ' = τ) ∧ I σ' τ'
set_option maxHeartbeats 400000 in
set_option maxRecDepth 100000 in
theorem law_49 {x : Ctx} {wc wm : Wp} {b Ls : Nat} {xs : Nat → Int32} {Q : State → Prop} {σ τ : St} {i : Nat} {I : St → St → Prop} (C : CxL x wc wm b Ls xs) (hi : i + 6 ≤ Ls) (hI : I σ τ) (hs : Stp_49 I) (hk0 : ∀ σ' τ', I σ' τ' → VL x wc wm Q σ' τ' 1728 (LL wc wm b i) []) : VL x wc wm Q σ τ 1691 (LL wc wm b i) [] := by
  obtain ⟨r, σ', τ', hC, hM, hI'⟩ := hs (xs (i + 1)) σ τ hI
  have hk := hk0 σ' τ' hI'
  obtain ⟨hC, ehC⟩ := hC
  subst ehC
  obtain ⟨hM, ehM⟩ := hM
  subst ehM
  refine l_aload C dL_law_1691 rfl 1 rfl ?_
  refine l_arg (j := 1) C rfl (by omega) dL_law_1692 dL_law_1693 dL_law_1694 dL_law_1695 dL_law_1696 ?_
  refine l_callC (n := 1) (As := [.int (xs (i + 1))]) (rest := []) C (m_X11_findings hC) q_931 q_932 q_933 q_1 q_934 ⟨rfl, by decide +kernel, by decide +kernel, by decide +kernel⟩ rfl (by decide) (by decide) rfl (Nat.le_of_ble_eq_true rfl) dL_law_1697 ?_
  refine l_aload C dL_law_1700 rfl 2 rfl ?_
  refine l_arg (j := 1) C rfl (by omega) dL_law_1701 dL_law_1702 dL_law_1703 dL_law_1704 dL_law_1705 ?_
  refine l_callM (n := 1) (As := [.int (xs (i + 1))]) (rest := [.int r]) C (m_X12_findings hM) q_1468 q_1469 q_1470 q_14 q_1471 ⟨rfl, by decide +kernel, by decide +kernel, by decide +kernel⟩ rfl (by decide) (by decide) rfl (Nat.le_of_ble_eq_true rfl) dL_law_1706 ?_
  exact l_icmp_eq C dL_law_1709 (by decide) hk
def Stp_50 (I : St → St → Prop) : Prop := ∀  (σ τ : St), I σ τ → ∃ (r : Int64) (σ' τ' : St), (Q_digest σ = some r ∧ σ' = σ) ∧ (M_digest τ = some (r, τ')) ∧ I σ' τ'
set_option maxHeartbeats 400000 in
set_option maxRecDepth 100000 in
theorem law_50 {x : Ctx} {wc wm : Wp} {b Ls : Nat} {xs : Nat → Int32} {Q : State → Prop} {σ τ : St} {i : Nat} {I : St → St → Prop} (C : CxL x wc wm b Ls xs) (hi : i + 6 ≤ Ls) (hI : I σ τ) (hs : Stp_50 I) (hk0 : ∀ σ' τ', I σ' τ' → VL x wc wm Q σ' τ' 1728 (LL wc wm b i) []) : VL x wc wm Q σ τ 1714 (LL wc wm b i) [] := by
  obtain ⟨r, σ', τ', hC, hM, hI'⟩ := hs  σ τ hI
  have hk := hk0 σ' τ' hI'
  obtain ⟨hC, ehC⟩ := hC
  subst ehC
  refine l_aload C dL_law_1714 rfl 1 rfl ?_
  refine l_callC (n := 0) (As := []) (rest := []) C (m_X11_digest hC) q_935 q_936 q_937 q_1 q_938 ⟨rfl, by decide +kernel, by decide +kernel, by decide +kernel⟩ rfl (by decide) (by decide) rfl (Nat.le_of_ble_eq_true rfl) dL_law_1715 ?_
  refine l_aload C dL_law_1718 rfl 2 rfl ?_
  refine l_callM (n := 0) (As := []) (rest := [.long r]) C (m_X12_digest hM) q_1472 q_1473 q_1474 q_14 q_1475 ⟨rfl, by decide +kernel, by decide +kernel, by decide +kernel⟩ rfl (by decide) (by decide) rfl (Nat.le_of_ble_eq_true rfl) dL_law_1719 ?_
  exact l_lcmp C dL_law_1722 dL_law_1723 (by decide) hk
set_option maxHeartbeats 4000000 in
set_option maxRecDepth 100000 in
theorem law_sw {x : Ctx} {wc wm : Wp} {b Ls : Nat} {xs : Nat → Int32} {Q : State → Prop} {σ τ : St} {i : Nat} {I : St → St → Prop} (C : CxL x wc wm b Ls xs) (hi : i + 6 ≤ Ls) (hI : I σ τ) (hs0 : Stp_0 I) (hs1 : Stp_1 I) (hs2 : Stp_2 I) (hs3 : Stp_3 I) (hs4 : Stp_4 I) (hs5 : Stp_5 I) (hs6 : Stp_6 I) (hs7 : Stp_7 I) (hs8 : Stp_8 I) (hs9 : Stp_9 I) (hs10 : Stp_10 I) (hs11 : Stp_11 I) (hs12 : Stp_12 I) (hs13 : Stp_13 I) (hs14 : Stp_14 I) (hs15 : Stp_15 I) (hs16 : Stp_16 I) (hs17 : Stp_17 I) (hs18 : Stp_18 I) (hs19 : Stp_19 I) (hs20 : Stp_20 I) (hs21 : Stp_21 I) (hs22 : Stp_22 I) (hs23 : Stp_23 I) (hs24 : Stp_24 I) (hs25 : Stp_25 I) (hs26 : Stp_26 I) (hs27 : Stp_27 I) (hs28 : Stp_28 I) (hs29 : Stp_29 I) (hs30 : Stp_30 I) (hs31 : Stp_31 I) (hs32 : Stp_32 I) (hs33 : Stp_33 I) (hs34 : Stp_34 I) (hs35 : Stp_35 I) (hs36 : Stp_36 I) (hs37 : Stp_37 I) (hs38 : Stp_38 I) (hs39 : Stp_39 I) (hs40 : Stp_40 I) (hs41 : Stp_41 I) (hs42 : Stp_42 I) (hs43 : Stp_43 I) (hs44 : Stp_44 I) (hs45 : Stp_45 I) (hs46 : Stp_46 I) (hs47 : Stp_47 I) (hs48 : Stp_48 I) (hs49 : Stp_49 I) (hs50 : Stp_50 I) (hk0 : ∀ σ' τ', I σ' τ' → VL x wc wm Q σ' τ' 1728 (LL wc wm b i) []) (v : Int32) : VL x wc wm Q σ τ 33 (LL wc wm b i) [.int v] := by
  by_cases c0 : v = 0
  · exact l_tabIn C dL_law_33 c0 (by decide) (by decide) (off := 219) rfl (by decide) (law_0 C hi hI hs0 hk0)
  by_cases c1 : v = 1
  · exact l_tabIn C dL_law_33 c1 (by decide) (by decide) (off := 252) rfl (by decide) (law_1 C hi hI hs1 hk0)
  by_cases c2 : v = 2
  · exact l_tabIn C dL_law_33 c2 (by decide) (by decide) (off := 295) rfl (by decide) (law_2 C hi hI hs2 hk0)
  by_cases c3 : v = 3
  · exact l_tabIn C dL_law_33 c3 (by decide) (by decide) (off := 318) rfl (by decide) (law_3 C hi hI hs3 hk0)
  by_cases c4 : v = 4
  · exact l_tabIn C dL_law_33 c4 (by decide) (by decide) (off := 381) rfl (by decide) (law_4 C hi hI hs4 hk0)
  by_cases c5 : v = 5
  · exact l_tabIn C dL_law_33 c5 (by decide) (by decide) (off := 404) rfl (by decide) (law_5 C hi hI hs5 hk0)
  by_cases c6 : v = 6
  · exact l_tabIn C dL_law_33 c6 (by decide) (by decide) (off := 437) rfl (by decide) (law_6 C hi hI hs6 hk0)
  by_cases c7 : v = 7
  · exact l_tabIn C dL_law_33 c7 (by decide) (by decide) (off := 480) rfl (by decide) (law_7 C hi hI hs7 hk0)
  by_cases c8 : v = 8
  · exact l_tabIn C dL_law_33 c8 (by decide) (by decide) (off := 503) rfl (by decide) (law_8 C hi hI hs8 hk0)
  by_cases c9 : v = 9
  · exact l_tabIn C dL_law_33 c9 (by decide) (by decide) (off := 546) rfl (by decide) (law_9 C hi hI hs9 hk0)
  by_cases c10 : v = 10
  · exact l_tabIn C dL_law_33 c10 (by decide) (by decide) (off := 609) rfl (by decide) (law_10 C hi hI hs10 hk0)
  by_cases c11 : v = 11
  · exact l_tabIn C dL_law_33 c11 (by decide) (by decide) (off := 652) rfl (by decide) (law_11 C hi hI hs11 hk0)
  by_cases c12 : v = 12
  · exact l_tabIn C dL_law_33 c12 (by decide) (by decide) (off := 685) rfl (by decide) (law_12 C hi hI hs12 hk0)
  by_cases c13 : v = 13
  · exact l_tabIn C dL_law_33 c13 (by decide) (by decide) (off := 708) rfl (by decide) (law_13 C hi hI hs13 hk0)
  by_cases c14 : v = 14
  · exact l_tabIn C dL_law_33 c14 (by decide) (by decide) (off := 741) rfl (by decide) (law_14 C hi hI hs14 hk0)
  by_cases c15 : v = 15
  · exact l_tabIn C dL_law_33 c15 (by decide) (by decide) (off := 764) rfl (by decide) (law_15 C hi hI hs15 hk0)
  by_cases c16 : v = 16
  · exact l_tabIn C dL_law_33 c16 (by decide) (by decide) (off := 787) rfl (by decide) (law_16 C hi hI hs16 hk0)
  by_cases c17 : v = 17
  · exact l_tabIn C dL_law_33 c17 (by decide) (by decide) (off := 820) rfl (by decide) (law_17 C hi hI hs17 hk0)
  by_cases c18 : v = 18
  · exact l_tabIn C dL_law_33 c18 (by decide) (by decide) (off := 853) rfl (by decide) (law_18 C hi hI hs18 hk0)
  by_cases c19 : v = 19
  · exact l_tabIn C dL_law_33 c19 (by decide) (by decide) (off := 896) rfl (by decide) (law_19 C hi hI hs19 hk0)
  by_cases c20 : v = 20
  · exact l_tabIn C dL_law_33 c20 (by decide) (by decide) (off := 929) rfl (by decide) (law_20 C hi hI hs20 hk0)
  by_cases c21 : v = 21
  · exact l_tabIn C dL_law_33 c21 (by decide) (by decide) (off := 952) rfl (by decide) (law_21 C hi hI hs21 hk0)
  by_cases c22 : v = 22
  · exact l_tabIn C dL_law_33 c22 (by decide) (by decide) (off := 975) rfl (by decide) (law_22 C hi hI hs22 hk0)
  by_cases c23 : v = 23
  · exact l_tabIn C dL_law_33 c23 (by decide) (by decide) (off := 998) rfl (by decide) (law_23 C hi hI hs23 hk0)
  by_cases c24 : v = 24
  · exact l_tabIn C dL_law_33 c24 (by decide) (by decide) (off := 1031) rfl (by decide) (law_24 C hi hI hs24 hk0)
  by_cases c25 : v = 25
  · exact l_tabIn C dL_law_33 c25 (by decide) (by decide) (off := 1044) rfl (by decide) (law_25 C hi hI hs25 hk0)
  by_cases c26 : v = 26
  · exact l_tabIn C dL_law_33 c26 (by decide) (by decide) (off := 1067) rfl (by decide) (law_26 C hi hI hs26 hk0)
  by_cases c27 : v = 27
  · exact l_tabIn C dL_law_33 c27 (by decide) (by decide) (off := 1080) rfl (by decide) (law_27 C hi hI hs27 hk0)
  by_cases c28 : v = 28
  · exact l_tabIn C dL_law_33 c28 (by decide) (by decide) (off := 1103) rfl (by decide) (law_28 C hi hI hs28 hk0)
  by_cases c29 : v = 29
  · exact l_tabIn C dL_law_33 c29 (by decide) (by decide) (off := 1126) rfl (by decide) (law_29 C hi hI hs29 hk0)
  by_cases c30 : v = 30
  · exact l_tabIn C dL_law_33 c30 (by decide) (by decide) (off := 1159) rfl (by decide) (law_30 C hi hI hs30 hk0)
  by_cases c31 : v = 31
  · exact l_tabIn C dL_law_33 c31 (by decide) (by decide) (off := 1192) rfl (by decide) (law_31 C hi hI hs31 hk0)
  by_cases c32 : v = 32
  · exact l_tabIn C dL_law_33 c32 (by decide) (by decide) (off := 1215) rfl (by decide) (law_32 C hi hI hs32 hk0)
  by_cases c33 : v = 33
  · exact l_tabIn C dL_law_33 c33 (by decide) (by decide) (off := 1258) rfl (by decide) (law_33 C hi hI hs33 hk0)
  by_cases c34 : v = 34
  · exact l_tabIn C dL_law_33 c34 (by decide) (by decide) (off := 1281) rfl (by decide) (law_34 C hi hI hs34 hk0)
  by_cases c35 : v = 35
  · exact l_tabIn C dL_law_33 c35 (by decide) (by decide) (off := 1324) rfl (by decide) (law_35 C hi hI hs35 hk0)
  by_cases c36 : v = 36
  · exact l_tabIn C dL_law_33 c36 (by decide) (by decide) (off := 1347) rfl (by decide) (law_36 C hi hI hs36 hk0)
  by_cases c37 : v = 37
  · exact l_tabIn C dL_law_33 c37 (by decide) (by decide) (off := 1390) rfl (by decide) (law_37 C hi hI hs37 hk0)
  by_cases c38 : v = 38
  · exact l_tabIn C dL_law_33 c38 (by decide) (by decide) (off := 1423) rfl (by decide) (law_38 C hi hI hs38 hk0)
  by_cases c39 : v = 39
  · exact l_tabIn C dL_law_33 c39 (by decide) (by decide) (off := 1456) rfl (by decide) (law_39 C hi hI hs39 hk0)
  by_cases c40 : v = 40
  · exact l_tabIn C dL_law_33 c40 (by decide) (by decide) (off := 1469) rfl (by decide) (law_40 C hi hI hs40 hk0)
  by_cases c41 : v = 41
  · exact l_tabIn C dL_law_33 c41 (by decide) (by decide) (off := 1502) rfl (by decide) (law_41 C hi hI hs41 hk0)
  by_cases c42 : v = 42
  · exact l_tabIn C dL_law_33 c42 (by decide) (by decide) (off := 1535) rfl (by decide) (law_42 C hi hI hs42 hk0)
  by_cases c43 : v = 43
  · exact l_tabIn C dL_law_33 c43 (by decide) (by decide) (off := 1568) rfl (by decide) (law_43 C hi hI hs43 hk0)
  by_cases c44 : v = 44
  · exact l_tabIn C dL_law_33 c44 (by decide) (by decide) (off := 1581) rfl (by decide) (law_44 C hi hI hs44 hk0)
  by_cases c45 : v = 45
  · exact l_tabIn C dL_law_33 c45 (by decide) (by decide) (off := 1594) rfl (by decide) (law_45 C hi hI hs45 hk0)
  by_cases c46 : v = 46
  · exact l_tabIn C dL_law_33 c46 (by decide) (by decide) (off := 1608) rfl (by decide) (law_46 C hi hI hs46 hk0)
  by_cases c47 : v = 47
  · exact l_tabIn C dL_law_33 c47 (by decide) (by decide) (off := 1622) rfl (by decide) (law_47 C hi hI hs47 hk0)
  by_cases c48 : v = 48
  · exact l_tabIn C dL_law_33 c48 (by decide) (by decide) (off := 1645) rfl (by decide) (law_48 C hi hI hs48 hk0)
  by_cases c49 : v = 49
  · exact l_tabIn C dL_law_33 c49 (by decide) (by decide) (off := 1658) rfl (by decide) (law_49 C hi hI hs49 hk0)
  by_cases c50 : v = 50
  · exact l_tabIn C dL_law_33 c50 (by decide) (by decide) (off := 1681) rfl (by decide) (law_50 C hi hI hs50 hk0)
  refine l_tabOut C dL_law_33 ?_ (by decide) (hk0 σ τ hI)
  have q0 := tq_ne (k := 0) (by decide) c0
  have q1 := tq_ne (k := 1) (by decide) c1
  have q2 := tq_ne (k := 2) (by decide) c2
  have q3 := tq_ne (k := 3) (by decide) c3
  have q4 := tq_ne (k := 4) (by decide) c4
  have q5 := tq_ne (k := 5) (by decide) c5
  have q6 := tq_ne (k := 6) (by decide) c6
  have q7 := tq_ne (k := 7) (by decide) c7
  have q8 := tq_ne (k := 8) (by decide) c8
  have q9 := tq_ne (k := 9) (by decide) c9
  have q10 := tq_ne (k := 10) (by decide) c10
  have q11 := tq_ne (k := 11) (by decide) c11
  have q12 := tq_ne (k := 12) (by decide) c12
  have q13 := tq_ne (k := 13) (by decide) c13
  have q14 := tq_ne (k := 14) (by decide) c14
  have q15 := tq_ne (k := 15) (by decide) c15
  have q16 := tq_ne (k := 16) (by decide) c16
  have q17 := tq_ne (k := 17) (by decide) c17
  have q18 := tq_ne (k := 18) (by decide) c18
  have q19 := tq_ne (k := 19) (by decide) c19
  have q20 := tq_ne (k := 20) (by decide) c20
  have q21 := tq_ne (k := 21) (by decide) c21
  have q22 := tq_ne (k := 22) (by decide) c22
  have q23 := tq_ne (k := 23) (by decide) c23
  have q24 := tq_ne (k := 24) (by decide) c24
  have q25 := tq_ne (k := 25) (by decide) c25
  have q26 := tq_ne (k := 26) (by decide) c26
  have q27 := tq_ne (k := 27) (by decide) c27
  have q28 := tq_ne (k := 28) (by decide) c28
  have q29 := tq_ne (k := 29) (by decide) c29
  have q30 := tq_ne (k := 30) (by decide) c30
  have q31 := tq_ne (k := 31) (by decide) c31
  have q32 := tq_ne (k := 32) (by decide) c32
  have q33 := tq_ne (k := 33) (by decide) c33
  have q34 := tq_ne (k := 34) (by decide) c34
  have q35 := tq_ne (k := 35) (by decide) c35
  have q36 := tq_ne (k := 36) (by decide) c36
  have q37 := tq_ne (k := 37) (by decide) c37
  have q38 := tq_ne (k := 38) (by decide) c38
  have q39 := tq_ne (k := 39) (by decide) c39
  have q40 := tq_ne (k := 40) (by decide) c40
  have q41 := tq_ne (k := 41) (by decide) c41
  have q42 := tq_ne (k := 42) (by decide) c42
  have q43 := tq_ne (k := 43) (by decide) c43
  have q44 := tq_ne (k := 44) (by decide) c44
  have q45 := tq_ne (k := 45) (by decide) c45
  have q46 := tq_ne (k := 46) (by decide) c46
  have q47 := tq_ne (k := 47) (by decide) c47
  have q48 := tq_ne (k := 48) (by decide) c48
  have q49 := tq_ne (k := 49) (by decide) c49
  have q50 := tq_ne (k := 50) (by decide) c50
  omega
set_option maxHeartbeats 4000000 in
set_option maxRecDepth 100000 in
theorem law_loop {x : Ctx} {wc wm : Wp} {b Ls : Nat} {xs : Nat → Int32} {Q : State → Prop} {I : St → St → Prop} (C : CxL x wc wm b Ls xs) (hs0 : Stp_0 I) (hs1 : Stp_1 I) (hs2 : Stp_2 I) (hs3 : Stp_3 I) (hs4 : Stp_4 I) (hs5 : Stp_5 I) (hs6 : Stp_6 I) (hs7 : Stp_7 I) (hs8 : Stp_8 I) (hs9 : Stp_9 I) (hs10 : Stp_10 I) (hs11 : Stp_11 I) (hs12 : Stp_12 I) (hs13 : Stp_13 I) (hs14 : Stp_14 I) (hs15 : Stp_15 I) (hs16 : Stp_16 I) (hs17 : Stp_17 I) (hs18 : Stp_18 I) (hs19 : Stp_19 I) (hs20 : Stp_20 I) (hs21 : Stp_21 I) (hs22 : Stp_22 I) (hs23 : Stp_23 I) (hs24 : Stp_24 I) (hs25 : Stp_25 I) (hs26 : Stp_26 I) (hs27 : Stp_27 I) (hs28 : Stp_28 I) (hs29 : Stp_29 I) (hs30 : Stp_30 I) (hs31 : Stp_31 I) (hs32 : Stp_32 I) (hs33 : Stp_33 I) (hs34 : Stp_34 I) (hs35 : Stp_35 I) (hs36 : Stp_36 I) (hs37 : Stp_37 I) (hs38 : Stp_38 I) (hs39 : Stp_39 I) (hs40 : Stp_40 I) (hs41 : Stp_41 I) (hs42 : Stp_42 I) (hs43 : Stp_43 I) (hs44 : Stp_44 I) (hs45 : Stp_45 I) (hs46 : Stp_46 I) (hs47 : Stp_47 I) (hs48 : Stp_48 I) (hs49 : Stp_49 I) (hs50 : Stp_50 I) (hend : ∀ (σ τ : St) (i : Nat), VL x wc wm Q σ τ 1734 (LL wc wm b i) []) : ∀ (n i : Nat) (σ τ : St), i ≤ Ls + 6 → Ls < i + n → I σ τ → VL x wc wm Q σ τ 18 (LL wc wm b i) [] := by
  intro n
  induction n with
  | zero =>
    intro i σ τ h1 h2 hI
    have C' := C
    obtain ⟨hx, hb, hml, hown, hts, hR, hK, hD, hdis, hac, ham, hX, hbl, hL⟩ := C'
    intro H locs ls hP hM hS hl
    refine lv_iload_n hx hb dL_law_18 rfl (lv_at hl 3 rfl) ?_
    refine lv_aload_n hx hb dL_law_19 rfl (lv_at hl 0 rfl) ?_
    refine va_slen hx hb hX hbl (Nat.not_le.mpr hbl) hS dL_law_20 ?_
    refine lv_bipush (v := 6) hx hb dL_law_21 (by decide) ?_
    refine lv_isub hx hb dL_law_23 ?_
    have e : (nI Ls - nI 6).toInt = (Ls : Int) - 6 := pk_sub_toInt (by omega) (by decide)
    have e2 : (nI i).toInt = (i : Int) := nI_toInt (by omega)
    refine lv_icmp_gt (tgt := 1734) hx hb dL_law_24 (by decide) (fun _ => hend σ τ i H locs ls hP hM hS hl) (fun q => absurd ?_ q)
    rw [Int32.lt_iff_toInt_lt]
    show (nI Ls - nI 6).toInt < (nI i).toInt
    omega
  | succ n ih =>
    intro i σ τ h1 h2 hI
    have C' := C
    obtain ⟨hx, hb, hml, hown, hts, hR, hK, hD, hdis, hac, ham, hX, hbl, hL⟩ := C'
    intro H locs ls hP hM hS hl
    refine lv_iload_n hx hb dL_law_18 rfl (lv_at hl 3 rfl) ?_
    refine lv_aload_n hx hb dL_law_19 rfl (lv_at hl 0 rfl) ?_
    refine va_slen hx hb hX hbl (Nat.not_le.mpr hbl) hS dL_law_20 ?_
    refine lv_bipush (v := 6) hx hb dL_law_21 (by decide) ?_
    refine lv_isub hx hb dL_law_23 ?_
    have e : (nI Ls - nI 6).toInt = (Ls : Int) - 6 := pk_sub_toInt (by omega) (by decide)
    have e2 : (nI i).toInt = (i : Int) := nI_toInt (by omega)
    refine lv_icmp_gt (tgt := 1734) hx hb dL_law_24 (by decide) (fun _ => hend σ τ i H locs ls hP hM hS hl) (fun q => ?_)
    have hi : i + 6 ≤ Ls := by
      rw [Int32.lt_iff_toInt_lt] at q
      have q' : ¬ (nI Ls - nI 6).toInt < (nI i).toInt := q
      omega
    refine lv_aload_n hx hb dL_law_27 rfl (lv_at hl 0 rfl) ?_
    refine lv_iload_n hx hb dL_law_28 rfl (lv_at hl 3 rfl) ?_
    refine va_sld hx hb hX hbl (Nat.not_le.mpr hbl) hS (vp_in_nI (by omega) (by omega)) dL_law_29 ?_
    refine lv_bipush (v := 63) hx hb dL_law_30 (by decide) ?_
    refine lv_iand hx hb dL_law_32 ?_
    refine law_sw C hi hI hs0 hs1 hs2 hs3 hs4 hs5 hs6 hs7 hs8 hs9 hs10 hs11 hs12 hs13 hs14 hs15 hs16 hs17 hs18 hs19 hs20 hs21 hs22 hs23 hs24 hs25 hs26 hs27 hs28 hs29 hs30 hs31 hs32 hs33 hs34 hs35 hs36 hs37 hs38 hs39 hs40 hs41 hs42 hs43 hs44 hs45 hs46 hs47 hs48 hs49 hs50 (fun σ' τ' hI' => ?_) _ H locs ls hP hM hS hl
    intro H locs ls hP hM hS hl
    refine lv_iinc (v := nI (i + 6)) (lv' := [(3, _), (0, _), (1, _), (2, _)]) hx hb dL_law_1728 hl (k := 3) rfl (nI_add i 6) (by decide) rfl (fun ls hl => ?_)
    refine lv_goto (tgt := 18) hx hb dL_law_1731 (by decide) ?_
    exact ih (i + 6) σ' τ' (by omega) (by omega) hI' H locs ls hP hM hS (lv_sub hl [1, 2, 3, 0] rfl)
