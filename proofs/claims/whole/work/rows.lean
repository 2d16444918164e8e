section
-- ===== PART A: goes FIRST, ahead of the names: the tables' words, and 'selects' of the private methods out of them =====
/-- a private method of a class that the tables say can be made, by its rows of tables_1 -/
def lw_okq (q : MethodName × Nat) : Prop := (q.1.cls ≠ "java/lang/invoke/MethodHandle" ∧ q.1.cls ≠ "java/lang/invoke/VarHandle") ∧ Cond.instantiable q.1.cls q.2 ∈ tables_1 ∧ Cond.privateMethod q.1 ∈ tables_1 ∧ Cond.instanceMethod q.1 ∈ tables_1
theorem lw_p0 : lw_okq (⟨"QuarrelBook", "refuse", "(I)I"⟩, 10) := ⟨⟨by decide +kernel, by decide +kernel⟩, List.mem_of_getElem? (i := 19) (by decide +kernel), List.mem_of_getElem? (i := 421) (by decide +kernel), List.mem_of_getElem? (i := 422) (by decide +kernel)⟩
theorem lw_p1 : lw_okq (⟨"QuarrelBook", "tell", "(II)I"⟩, 10) := ⟨⟨by decide +kernel, by decide +kernel⟩, List.mem_of_getElem? (i := 19) (by decide +kernel), List.mem_of_getElem? (i := 434) (by decide +kernel), List.mem_of_getElem? (i := 435) (by decide +kernel)⟩
theorem lw_p2 : lw_okq (⟨"QuarrelBook$Text", "skipBlanks", "()V"⟩, 4) := ⟨⟨by decide +kernel, by decide +kernel⟩, List.mem_of_getElem? (i := 360) (by decide +kernel), List.mem_of_getElem? (i := 558) (by decide +kernel), List.mem_of_getElem? (i := 559) (by decide +kernel)⟩
theorem lw_p3 : lw_okq (⟨"QuarrelBook$Text", "signHere", "()I"⟩, 4) := ⟨⟨by decide +kernel, by decide +kernel⟩, List.mem_of_getElem? (i := 360) (by decide +kernel), List.mem_of_getElem? (i := 562) (by decide +kernel), List.mem_of_getElem? (i := 563) (by decide +kernel)⟩
theorem lw_p4 : lw_okq (⟨"QuarrelBook$Text", "readLetters", "()Z"⟩, 4) := ⟨⟨by decide +kernel, by decide +kernel⟩, List.mem_of_getElem? (i := 360) (by decide +kernel), List.mem_of_getElem? (i := 566) (by decide +kernel), List.mem_of_getElem? (i := 567) (by decide +kernel)⟩
theorem lw_p5 : lw_okq (⟨"QuarrelBook$Bench", "gatherCandidates", "()I"⟩, 12) := ⟨⟨by decide +kernel, by decide +kernel⟩, List.mem_of_getElem? (i := 56) (by decide +kernel), List.mem_of_getElem? (i := 651) (by decide +kernel), List.mem_of_getElem? (i := 652) (by decide +kernel)⟩
theorem lw_p6 : lw_okq (⟨"QuarrelBook$Bench", "sayingsAhead", "(ILQuarrelBook$Master;[LQuarrelBook$Saying;)I"⟩, 12) := ⟨⟨by decide +kernel, by decide +kernel⟩, List.mem_of_getElem? (i := 56) (by decide +kernel), List.mem_of_getElem? (i := 725) (by decide +kernel), List.mem_of_getElem? (i := 726) (by decide +kernel)⟩
theorem lw_p7 : lw_okq (⟨"QuarrelBook$Bench", "costParted", "(I)I"⟩, 12) := ⟨⟨by decide +kernel, by decide +kernel⟩, List.mem_of_getElem? (i := 56) (by decide +kernel), List.mem_of_getElem? (i := 729) (by decide +kernel), List.mem_of_getElem? (i := 730) (by decide +kernel)⟩
theorem lw_p8 : lw_okq (⟨"QuarrelBook", "tellFraction", "(JJ)V"⟩, 10) := ⟨⟨by decide +kernel, by decide +kernel⟩, List.mem_of_getElem? (i := 19) (by decide +kernel), List.mem_of_getElem? (i := 775) (by decide +kernel), List.mem_of_getElem? (i := 776) (by decide +kernel)⟩
theorem lw_p9 : lw_okq (⟨"QuarrelBook$Page", "sayingsFrom", "(II)I"⟩, 5) := ⟨⟨by decide +kernel, by decide +kernel⟩, List.mem_of_getElem? (i := 282) (by decide +kernel), List.mem_of_getElem? (i := 824) (by decide +kernel), List.mem_of_getElem? (i := 825) (by decide +kernel)⟩
theorem lw_p10 : lw_okq (⟨"QuarrelBook$Page", "lastOpen", "(II)I"⟩, 5) := ⟨⟨by decide +kernel, by decide +kernel⟩, List.mem_of_getElem? (i := 282) (by decide +kernel), List.mem_of_getElem? (i := 838) (by decide +kernel), List.mem_of_getElem? (i := 839) (by decide +kernel)⟩
theorem lw_p11 : lw_okq (⟨"QuarrelBook$Page", "closes", "(LQuarrelBook$Move;I[LQuarrelBook$Master;)Z"⟩, 5) := ⟨⟨by decide +kernel, by decide +kernel⟩, List.mem_of_getElem? (i := 282) (by decide +kernel), List.mem_of_getElem? (i := 842) (by decide +kernel), List.mem_of_getElem? (i := 843) (by decide +kernel)⟩
theorem lw_p12 : lw_okq (⟨"QuarrelBook$Page", "fitsSomeCheap", "(LQuarrelBook$Saying;ILQuarrelBook$Mind;)Z"⟩, 5) := ⟨⟨by decide +kernel, by decide +kernel⟩, List.mem_of_getElem? (i := 282) (by decide +kernel), List.mem_of_getElem? (i := 846) (by decide +kernel), List.mem_of_getElem? (i := 847) (by decide +kernel)⟩
theorem lw_p13 : lw_okq (⟨"QuarrelBook$Court", "ofTheLater", "(I[LQuarrelBook$Master;)I"⟩, 2) := ⟨⟨by decide +kernel, by decide +kernel⟩, List.mem_of_getElem? (i := 333) (by decide +kernel), List.mem_of_getElem? (i := 862) (by decide +kernel), List.mem_of_getElem? (i := 863) (by decide +kernel)⟩
theorem lw_p14 : lw_okq (⟨"QuarrelBook$Court", "ofTheMore", "(II[LQuarrelBook$Master;)I"⟩, 2) := ⟨⟨by decide +kernel, by decide +kernel⟩, List.mem_of_getElem? (i := 333) (by decide +kernel), List.mem_of_getElem? (i := 868) (by decide +kernel), List.mem_of_getElem? (i := 869) (by decide +kernel)⟩
theorem lw_p15 : lw_okq (⟨"QuarrelBook", "amount", "(I)I"⟩, 10) := ⟨⟨by decide +kernel, by decide +kernel⟩, List.mem_of_getElem? (i := 19) (by decide +kernel), List.mem_of_getElem? (i := 912) (by decide +kernel), List.mem_of_getElem? (i := 913) (by decide +kernel)⟩
def lw_privs_1 : List (MethodName × Nat) := [(⟨"QuarrelBook", "refuse", "(I)I"⟩, 10), (⟨"QuarrelBook", "tell", "(II)I"⟩, 10), (⟨"QuarrelBook$Text", "skipBlanks", "()V"⟩, 4), (⟨"QuarrelBook$Text", "signHere", "()I"⟩, 4), (⟨"QuarrelBook$Text", "readLetters", "()Z"⟩, 4), (⟨"QuarrelBook$Bench", "gatherCandidates", "()I"⟩, 12), (⟨"QuarrelBook$Bench", "sayingsAhead", "(ILQuarrelBook$Master;[LQuarrelBook$Saying;)I"⟩, 12), (⟨"QuarrelBook$Bench", "costParted", "(I)I"⟩, 12), (⟨"QuarrelBook", "tellFraction", "(JJ)V"⟩, 10), (⟨"QuarrelBook$Page", "sayingsFrom", "(II)I"⟩, 5), (⟨"QuarrelBook$Page", "lastOpen", "(II)I"⟩, 5), (⟨"QuarrelBook$Page", "closes", "(LQuarrelBook$Move;I[LQuarrelBook$Master;)Z"⟩, 5), (⟨"QuarrelBook$Page", "fitsSomeCheap", "(LQuarrelBook$Saying;ILQuarrelBook$Mind;)Z"⟩, 5), (⟨"QuarrelBook$Court", "ofTheLater", "(I[LQuarrelBook$Master;)I"⟩, 2), (⟨"QuarrelBook$Court", "ofTheMore", "(II[LQuarrelBook$Master;)I"⟩, 2), (⟨"QuarrelBook", "amount", "(I)I"⟩, 10)]
theorem lw_r1 : ∀ q ∈ lw_privs_1, lw_okq q := List.forall_mem_cons.mpr ⟨lw_p0, List.forall_mem_cons.mpr ⟨lw_p1, List.forall_mem_cons.mpr ⟨lw_p2, List.forall_mem_cons.mpr ⟨lw_p3, List.forall_mem_cons.mpr ⟨lw_p4, List.forall_mem_cons.mpr ⟨lw_p5, List.forall_mem_cons.mpr ⟨lw_p6, List.forall_mem_cons.mpr ⟨lw_p7, List.forall_mem_cons.mpr ⟨lw_p8, List.forall_mem_cons.mpr ⟨lw_p9, List.forall_mem_cons.mpr ⟨lw_p10, List.forall_mem_cons.mpr ⟨lw_p11, List.forall_mem_cons.mpr ⟨lw_p12, List.forall_mem_cons.mpr ⟨lw_p13, List.forall_mem_cons.mpr ⟨lw_p14, List.forall_mem_cons.mpr ⟨lw_p15, fun _ h => absurd h List.not_mem_nil⟩⟩⟩⟩⟩⟩⟩⟩⟩⟩⟩⟩⟩⟩⟩⟩
theorem lw_p16 : lw_okq (⟨"QuarrelBook", "rowsThere", "()I"⟩, 10) := ⟨⟨by decide +kernel, by decide +kernel⟩, List.mem_of_getElem? (i := 19) (by decide +kernel), List.mem_of_getElem? (i := 920) (by decide +kernel), List.mem_of_getElem? (i := 921) (by decide +kernel)⟩
theorem lw_p17 : lw_okq (⟨"QuarrelBook", "textsThere", "()I"⟩, 10) := ⟨⟨by decide +kernel, by decide +kernel⟩, List.mem_of_getElem? (i := 19) (by decide +kernel), List.mem_of_getElem? (i := 924) (by decide +kernel), List.mem_of_getElem? (i := 925) (by decide +kernel)⟩
theorem lw_p18 : lw_okq (⟨"QuarrelBookModel", "meets", "(I)I"⟩, 41) := ⟨⟨by decide +kernel, by decide +kernel⟩, List.mem_of_getElem? (i := 965) (by decide +kernel), List.mem_of_getElem? (i := 1106) (by decide +kernel), List.mem_of_getElem? (i := 1107) (by decide +kernel)⟩
theorem lw_p19 : lw_okq (⟨"QuarrelBookModel", "askedRow", "(I)I"⟩, 41) := ⟨⟨by decide +kernel, by decide +kernel⟩, List.mem_of_getElem? (i := 965) (by decide +kernel), List.mem_of_getElem? (i := 1114) (by decide +kernel), List.mem_of_getElem? (i := 1115) (by decide +kernel)⟩
theorem lw_p20 : lw_okq (⟨"QuarrelBookModel", "rowAt", "(II)I"⟩, 41) := ⟨⟨by decide +kernel, by decide +kernel⟩, List.mem_of_getElem? (i := 965) (by decide +kernel), List.mem_of_getElem? (i := 1118) (by decide +kernel), List.mem_of_getElem? (i := 1119) (by decide +kernel)⟩
theorem lw_p21 : lw_okq (⟨"QuarrelBookModel", "ask", "(II)I"⟩, 41) := ⟨⟨by decide +kernel, by decide +kernel⟩, List.mem_of_getElem? (i := 965) (by decide +kernel), List.mem_of_getElem? (i := 1134) (by decide +kernel), List.mem_of_getElem? (i := 1135) (by decide +kernel)⟩
theorem lw_p22 : lw_okq (⟨"QuarrelBookModel", "askedText", "(I)I"⟩, 41) := ⟨⟨by decide +kernel, by decide +kernel⟩, List.mem_of_getElem? (i := 965) (by decide +kernel), List.mem_of_getElem? (i := 1149) (by decide +kernel), List.mem_of_getElem? (i := 1150) (by decide +kernel)⟩
theorem lw_p23 : lw_okq (⟨"QuarrelBookModel", "isMaster", "(I)Z"⟩, 41) := ⟨⟨by decide +kernel, by decide +kernel⟩, List.mem_of_getElem? (i := 965) (by decide +kernel), List.mem_of_getElem? (i := 1164) (by decide +kernel), List.mem_of_getElem? (i := 1165) (by decide +kernel)⟩
theorem lw_p24 : lw_okq (⟨"QuarrelBookModel", "isOf", "(II)Z"⟩, 41) := ⟨⟨by decide +kernel, by decide +kernel⟩, List.mem_of_getElem? (i := 965) (by decide +kernel), List.mem_of_getElem? (i := 1172) (by decide +kernel), List.mem_of_getElem? (i := 1173) (by decide +kernel)⟩
theorem lw_p25 : lw_okq (⟨"QuarrelBookModel", "isCase", "(I)Z"⟩, 41) := ⟨⟨by decide +kernel, by decide +kernel⟩, List.mem_of_getElem? (i := 965) (by decide +kernel), List.mem_of_getElem? (i := 1176) (by decide +kernel), List.mem_of_getElem? (i := 1177) (by decide +kernel)⟩
theorem lw_p26 : lw_okq (⟨"QuarrelBookModel", "sayingsOf", "(I)I"⟩, 41) := ⟨⟨by decide +kernel, by decide +kernel⟩, List.mem_of_getElem? (i := 965) (by decide +kernel), List.mem_of_getElem? (i := 1183) (by decide +kernel), List.mem_of_getElem? (i := 1184) (by decide +kernel)⟩
theorem lw_p27 : lw_okq (⟨"QuarrelBookModel", "newSaying", "(IIIII)I"⟩, 41) := ⟨⟨by decide +kernel, by decide +kernel⟩, List.mem_of_getElem? (i := 965) (by decide +kernel), List.mem_of_getElem? (i := 1187) (by decide +kernel), List.mem_of_getElem? (i := 1188) (by decide +kernel)⟩
theorem lw_p28 : lw_okq (⟨"QuarrelBookModel", "isSaying", "(I)Z"⟩, 41) := ⟨⟨by decide +kernel, by decide +kernel⟩, List.mem_of_getElem? (i := 965) (by decide +kernel), List.mem_of_getElem? (i := 1199) (by decide +kernel), List.mem_of_getElem? (i := 1200) (by decide +kernel)⟩
theorem lw_p29 : lw_okq (⟨"QuarrelBookModel", "sayingTells", "(II)I"⟩, 41) := ⟨⟨by decide +kernel, by decide +kernel⟩, List.mem_of_getElem? (i := 965) (by decide +kernel), List.mem_of_getElem? (i := 1203) (by decide +kernel), List.mem_of_getElem? (i := 1204) (by decide +kernel)⟩
theorem lw_p30 : lw_okq (⟨"QuarrelBookModel", "lifeTells", "(II)I"⟩, 41) := ⟨⟨by decide +kernel, by decide +kernel⟩, List.mem_of_getElem? (i := 965) (by decide +kernel), List.mem_of_getElem? (i := 1215) (by decide +kernel), List.mem_of_getElem? (i := 1216) (by decide +kernel)⟩
theorem lw_p31 : lw_okq (⟨"QuarrelBookModel", "pupils", "(I)I"⟩, 41) := ⟨⟨by decide +kernel, by decide +kernel⟩, List.mem_of_getElem? (i := 965) (by decide +kernel), List.mem_of_getElem? (i := 1219) (by decide +kernel), List.mem_of_getElem? (i := 1220) (by decide +kernel)⟩
def lw_privs_2 : List (MethodName × Nat) := [(⟨"QuarrelBook", "rowsThere", "()I"⟩, 10), (⟨"QuarrelBook", "textsThere", "()I"⟩, 10), (⟨"QuarrelBookModel", "meets", "(I)I"⟩, 41), (⟨"QuarrelBookModel", "askedRow", "(I)I"⟩, 41), (⟨"QuarrelBookModel", "rowAt", "(II)I"⟩, 41), (⟨"QuarrelBookModel", "ask", "(II)I"⟩, 41), (⟨"QuarrelBookModel", "askedText", "(I)I"⟩, 41), (⟨"QuarrelBookModel", "isMaster", "(I)Z"⟩, 41), (⟨"QuarrelBookModel", "isOf", "(II)Z"⟩, 41), (⟨"QuarrelBookModel", "isCase", "(I)Z"⟩, 41), (⟨"QuarrelBookModel", "sayingsOf", "(I)I"⟩, 41), (⟨"QuarrelBookModel", "newSaying", "(IIIII)I"⟩, 41), (⟨"QuarrelBookModel", "isSaying", "(I)Z"⟩, 41), (⟨"QuarrelBookModel", "sayingTells", "(II)I"⟩, 41), (⟨"QuarrelBookModel", "lifeTells", "(II)I"⟩, 41), (⟨"QuarrelBookModel", "pupils", "(I)I"⟩, 41)]
theorem lw_r2 : ∀ q ∈ lw_privs_2, lw_okq q := List.forall_mem_cons.mpr ⟨lw_p16, List.forall_mem_cons.mpr ⟨lw_p17, List.forall_mem_cons.mpr ⟨lw_p18, List.forall_mem_cons.mpr ⟨lw_p19, List.forall_mem_cons.mpr ⟨lw_p20, List.forall_mem_cons.mpr ⟨lw_p21, List.forall_mem_cons.mpr ⟨lw_p22, List.forall_mem_cons.mpr ⟨lw_p23, List.forall_mem_cons.mpr ⟨lw_p24, List.forall_mem_cons.mpr ⟨lw_p25, List.forall_mem_cons.mpr ⟨lw_p26, List.forall_mem_cons.mpr ⟨lw_p27, List.forall_mem_cons.mpr ⟨lw_p28, List.forall_mem_cons.mpr ⟨lw_p29, List.forall_mem_cons.mpr ⟨lw_p30, List.forall_mem_cons.mpr ⟨lw_p31, fun _ h => absurd h List.not_mem_nil⟩⟩⟩⟩⟩⟩⟩⟩⟩⟩⟩⟩⟩⟩⟩⟩
theorem lw_p32 : lw_okq (⟨"QuarrelBookModel", "goesOn", "(I)I"⟩, 41) := ⟨⟨by decide +kernel, by decide +kernel⟩, List.mem_of_getElem? (i := 965) (by decide +kernel), List.mem_of_getElem? (i := 1227) (by decide +kernel), List.mem_of_getElem? (i := 1228) (by decide +kernel)⟩
theorem lw_p33 : lw_okq (⟨"QuarrelBookModel", "byteAt", "(II)I"⟩, 41) := ⟨⟨by decide +kernel, by decide +kernel⟩, List.mem_of_getElem? (i := 965) (by decide +kernel), List.mem_of_getElem? (i := 1231) (by decide +kernel), List.mem_of_getElem? (i := 1232) (by decide +kernel)⟩
theorem lw_p34 : lw_okq (⟨"QuarrelBookModel", "doesFit", "(III)Z"⟩, 41) := ⟨⟨by decide +kernel, by decide +kernel⟩, List.mem_of_getElem? (i := 965) (by decide +kernel), List.mem_of_getElem? (i := 1263) (by decide +kernel), List.mem_of_getElem? (i := 1264) (by decide +kernel)⟩
theorem lw_p35 : lw_okq (⟨"QuarrelBookModel", "costOf", "(II)I"⟩, 41) := ⟨⟨by decide +kernel, by decide +kernel⟩, List.mem_of_getElem? (i := 965) (by decide +kernel), List.mem_of_getElem? (i := 1278) (by decide +kernel), List.mem_of_getElem? (i := 1279) (by decide +kernel)⟩
theorem lw_p36 : lw_okq (⟨"QuarrelBookModel", "settles", "(I)V"⟩, 41) := ⟨⟨by decide +kernel, by decide +kernel⟩, List.mem_of_getElem? (i := 965) (by decide +kernel), List.mem_of_getElem? (i := 1286) (by decide +kernel), List.mem_of_getElem? (i := 1287) (by decide +kernel)⟩
theorem lw_p37 : lw_okq (⟨"QuarrelBookModel", "setTable", "(I)V"⟩, 41) := ⟨⟨by decide +kernel, by decide +kernel⟩, List.mem_of_getElem? (i := 965) (by decide +kernel), List.mem_of_getElem? (i := 1290) (by decide +kernel), List.mem_of_getElem? (i := 1291) (by decide +kernel)⟩
theorem lw_p38 : lw_okq (⟨"QuarrelBookModel", "sumBy", "(I)I"⟩, 41) := ⟨⟨by decide +kernel, by decide +kernel⟩, List.mem_of_getElem? (i := 965) (by decide +kernel), List.mem_of_getElem? (i := 1295) (by decide +kernel), List.mem_of_getElem? (i := 1296) (by decide +kernel)⟩
theorem lw_p39 : lw_okq (⟨"QuarrelBookModel", "sumByTwo", "(II)I"⟩, 41) := ⟨⟨by decide +kernel, by decide +kernel⟩, List.mem_of_getElem? (i := 965) (by decide +kernel), List.mem_of_getElem? (i := 1299) (by decide +kernel), List.mem_of_getElem? (i := 1300) (by decide +kernel)⟩
theorem lw_p40 : lw_okq (⟨"QuarrelBookModel", "setCheap", "(I)V"⟩, 41) := ⟨⟨by decide +kernel, by decide +kernel⟩, List.mem_of_getElem? (i := 965) (by decide +kernel), List.mem_of_getElem? (i := 1311) (by decide +kernel), List.mem_of_getElem? (i := 1312) (by decide +kernel)⟩
theorem lw_p41 : lw_okq (⟨"QuarrelBookModel", "setRules", "()V"⟩, 41) := ⟨⟨by decide +kernel, by decide +kernel⟩, List.mem_of_getElem? (i := 965) (by decide +kernel), List.mem_of_getElem? (i := 1327) (by decide +kernel), List.mem_of_getElem? (i := 1328) (by decide +kernel)⟩
theorem lw_p42 : lw_okq (⟨"QuarrelBookModel", "againstOf", "(I)I"⟩, 41) := ⟨⟨by decide +kernel, by decide +kernel⟩, List.mem_of_getElem? (i := 965) (by decide +kernel), List.mem_of_getElem? (i := 1331) (by decide +kernel), List.mem_of_getElem? (i := 1332) (by decide +kernel)⟩
theorem lw_p43 : lw_okq (⟨"QuarrelBookModel", "freshOf", "(II)I"⟩, 41) := ⟨⟨by decide +kernel, by decide +kernel⟩, List.mem_of_getElem? (i := 965) (by decide +kernel), List.mem_of_getElem? (i := 1343) (by decide +kernel), List.mem_of_getElem? (i := 1344) (by decide +kernel)⟩
theorem lw_p44 : lw_okq (⟨"QuarrelBookModel", "freshNow", "(I)I"⟩, 41) := ⟨⟨by decide +kernel, by decide +kernel⟩, List.mem_of_getElem? (i := 965) (by decide +kernel), List.mem_of_getElem? (i := 1347) (by decide +kernel), List.mem_of_getElem? (i := 1348) (by decide +kernel)⟩
theorem lw_p45 : lw_okq (⟨"QuarrelBookModel", "leastIn", "(III)I"⟩, 41) := ⟨⟨by decide +kernel, by decide +kernel⟩, List.mem_of_getElem? (i := 965) (by decide +kernel), List.mem_of_getElem? (i := 1355) (by decide +kernel), List.mem_of_getElem? (i := 1356) (by decide +kernel)⟩
theorem lw_p46 : lw_okq (⟨"QuarrelBookModel", "isSaid", "(II)Z"⟩, 41) := ⟨⟨by decide +kernel, by decide +kernel⟩, List.mem_of_getElem? (i := 965) (by decide +kernel), List.mem_of_getElem? (i := 1359) (by decide +kernel), List.mem_of_getElem? (i := 1360) (by decide +kernel)⟩
theorem lw_p47 : lw_okq (⟨"QuarrelBookModel", "isMove", "(III)Z"⟩, 41) := ⟨⟨by decide +kernel, by decide +kernel⟩, List.mem_of_getElem? (i := 965) (by decide +kernel), List.mem_of_getElem? (i := 1398) (by decide +kernel), List.mem_of_getElem? (i := 1399) (by decide +kernel)⟩
def lw_privs_3 : List (MethodName × Nat) := [(⟨"QuarrelBookModel", "goesOn", "(I)I"⟩, 41), (⟨"QuarrelBookModel", "byteAt", "(II)I"⟩, 41), (⟨"QuarrelBookModel", "doesFit", "(III)Z"⟩, 41), (⟨"QuarrelBookModel", "costOf", "(II)I"⟩, 41), (⟨"QuarrelBookModel", "settles", "(I)V"⟩, 41), (⟨"QuarrelBookModel", "setTable", "(I)V"⟩, 41), (⟨"QuarrelBookModel", "sumBy", "(I)I"⟩, 41), (⟨"QuarrelBookModel", "sumByTwo", "(II)I"⟩, 41), (⟨"QuarrelBookModel", "setCheap", "(I)V"⟩, 41), (⟨"QuarrelBookModel", "setRules", "()V"⟩, 41), (⟨"QuarrelBookModel", "againstOf", "(I)I"⟩, 41), (⟨"QuarrelBookModel", "freshOf", "(II)I"⟩, 41), (⟨"QuarrelBookModel", "freshNow", "(I)I"⟩, 41), (⟨"QuarrelBookModel", "leastIn", "(III)I"⟩, 41), (⟨"QuarrelBookModel", "isSaid", "(II)Z"⟩, 41), (⟨"QuarrelBookModel", "isMove", "(III)Z"⟩, 41)]
theorem lw_r3 : ∀ q ∈ lw_privs_3, lw_okq q := List.forall_mem_cons.mpr ⟨lw_p32, List.forall_mem_cons.mpr ⟨lw_p33, List.forall_mem_cons.mpr ⟨lw_p34, List.forall_mem_cons.mpr ⟨lw_p35, List.forall_mem_cons.mpr ⟨lw_p36, List.forall_mem_cons.mpr ⟨lw_p37, List.forall_mem_cons.mpr ⟨lw_p38, List.forall_mem_cons.mpr ⟨lw_p39, List.forall_mem_cons.mpr ⟨lw_p40, List.forall_mem_cons.mpr ⟨lw_p41, List.forall_mem_cons.mpr ⟨lw_p42, List.forall_mem_cons.mpr ⟨lw_p43, List.forall_mem_cons.mpr ⟨lw_p44, List.forall_mem_cons.mpr ⟨lw_p45, List.forall_mem_cons.mpr ⟨lw_p46, List.forall_mem_cons.mpr ⟨lw_p47, fun _ h => absurd h List.not_mem_nil⟩⟩⟩⟩⟩⟩⟩⟩⟩⟩⟩⟩⟩⟩⟩⟩
theorem lw_p48 : lw_okq (⟨"QuarrelBookModel", "moveTells", "(II)I"⟩, 41) := ⟨⟨by decide +kernel, by decide +kernel⟩, List.mem_of_getElem? (i := 965) (by decide +kernel), List.mem_of_getElem? (i := 1406) (by decide +kernel), List.mem_of_getElem? (i := 1407) (by decide +kernel)⟩
theorem lw_p49 : lw_okq (⟨"QuarrelBookModel", "doesAnswer", "(II)Z"⟩, 41) := ⟨⟨by decide +kernel, by decide +kernel⟩, List.mem_of_getElem? (i := 965) (by decide +kernel), List.mem_of_getElem? (i := 1418) (by decide +kernel), List.mem_of_getElem? (i := 1419) (by decide +kernel)⟩
theorem lw_p50 : lw_okq (⟨"QuarrelBookModel", "lawOf", "(II)I"⟩, 41) := ⟨⟨by decide +kernel, by decide +kernel⟩, List.mem_of_getElem? (i := 965) (by decide +kernel), List.mem_of_getElem? (i := 1429) (by decide +kernel), List.mem_of_getElem? (i := 1430) (by decide +kernel)⟩
theorem lw_p51 : lw_okq (⟨"QuarrelBookModel", "counts", "(I)I"⟩, 41) := ⟨⟨by decide +kernel, by decide +kernel⟩, List.mem_of_getElem? (i := 965) (by decide +kernel), List.mem_of_getElem? (i := 1461) (by decide +kernel), List.mem_of_getElem? (i := 1462) (by decide +kernel)⟩
theorem lw_p52 : lw_okq (⟨"QuarrelBookModel", "mix", "(I)V"⟩, 41) := ⟨⟨by decide +kernel, by decide +kernel⟩, List.mem_of_getElem? (i := 965) (by decide +kernel), List.mem_of_getElem? (i := 1478) (by decide +kernel), List.mem_of_getElem? (i := 1479) (by decide +kernel)⟩
theorem lw_p53 : lw_okq (⟨"QuarrelBookModel", "mixSayings", "()V"⟩, 41) := ⟨⟨by decide +kernel, by decide +kernel⟩, List.mem_of_getElem? (i := 965) (by decide +kernel), List.mem_of_getElem? (i := 1483) (by decide +kernel), List.mem_of_getElem? (i := 1484) (by decide +kernel)⟩
def lw_privs_4 : List (MethodName × Nat) := [(⟨"QuarrelBookModel", "moveTells", "(II)I"⟩, 41), (⟨"QuarrelBookModel", "doesAnswer", "(II)Z"⟩, 41), (⟨"QuarrelBookModel", "lawOf", "(II)I"⟩, 41), (⟨"QuarrelBookModel", "counts", "(I)I"⟩, 41), (⟨"QuarrelBookModel", "mix", "(I)V"⟩, 41), (⟨"QuarrelBookModel", "mixSayings", "()V"⟩, 41)]
theorem lw_r4 : ∀ q ∈ lw_privs_4, lw_okq q := List.forall_mem_cons.mpr ⟨lw_p48, List.forall_mem_cons.mpr ⟨lw_p49, List.forall_mem_cons.mpr ⟨lw_p50, List.forall_mem_cons.mpr ⟨lw_p51, List.forall_mem_cons.mpr ⟨lw_p52, List.forall_mem_cons.mpr ⟨lw_p53, fun _ h => absurd h List.not_mem_nil⟩⟩⟩⟩⟩⟩
def lw_privs : List (MethodName × Nat) := lw_privs_1 ++ (lw_privs_2 ++ (lw_privs_3 ++ (lw_privs_4)))
def lw_tbl : List Cond := k2_sels lw_privs ++ tables_1
theorem lw_privs_ok : ∀ q ∈ lw_privs, lw_okq q := by
  show ∀ q ∈ lw_privs_1 ++ (lw_privs_2 ++ (lw_privs_3 ++ (lw_privs_4))), lw_okq q
  exact List.forall_mem_append.mpr ⟨lw_r1, List.forall_mem_append.mpr ⟨lw_r2, List.forall_mem_append.mpr ⟨lw_r3, lw_r4⟩⟩⟩
end
section
def RX0 : String := "QuarrelBook$Bench"
def TX0 : u_T := fun k => match k with
  | 0 => ("QuarrelBook$Bench", "amended", "I", false)
  | 1 => ("QuarrelBook$Bench", "standing", "I", false)
  | 2 => ("QuarrelBook$Bench", "two", "I", false)
  | 3 => ("QuarrelBook$Bench", "sums", "[I", true)
  | 4 => ("QuarrelBook$Bench", "least", "I", false)
  | 5 => ("QuarrelBook$Bench", "sum", "I", false)
  | 6 => ("QuarrelBook$Bench", "lesser", "I", false)
  | 7 => ("QuarrelBook$Bench", "greater", "I", false)
  | 8 => ("QuarrelBook$Bench", "gain", "I", false)
  | 9 => ("QuarrelBook$Bench", "rules", "LQuarrelBook$Rules;", true)
  | 10 => ("QuarrelBook$Bench", "strains", "[I", true)
  | _ => ("QuarrelBook$Bench", "candidates", "[I", true)
def tyX0 : Nat → FieldType := fun k => match k with
  | 0 => .int
  | 1 => .int
  | 2 => .int
  | 3 => .array .int
  | 4 => .int
  | 5 => .int
  | 6 => .int
  | 7 => .int
  | 8 => .int
  | 9 => .object "QuarrelBook$Rules"
  | 10 => .array .int
  | _ => .array .int
abbrev wsX00 : List Cond := u_ws RX0 TX0 12
theorem nmX0 : ∀ a, a < 12 → ∀ b, b < 12 → a ≠ b → (TX0 a).2.1 ≠ (TX0 b).2.1 := by decide +kernel
theorem tyX0_ok : ∀ k, k < 12 → parseFieldDescriptor (TX0 k).2.2.1 = some (tyX0 k) := by decide +kernel
abbrev cX0_init : ByteArray := prog_2_method_1_code
def yX0_init : MethodName := ⟨RX0, "<init>", "(LQuarrelBook$Rules;)V"⟩
abbrev cX0_sumOf : ByteArray := prog_2_method_2_code
def yX0_sumOf : MethodName := ⟨RX0, "sumOf", "(I)I"⟩
abbrev cX0_weigh : ByteArray := prog_2_method_3_code
def yX0_weigh : MethodName := ⟨RX0, "weigh", "(LQuarrelBook$Master;[LQuarrelBook$Saying;[I)V"⟩
abbrev cX0_takeTwoRules : ByteArray := prog_2_method_4_code
def yX0_takeTwoRules : MethodName := ⟨RX0, "takeTwoRules", "()V"⟩
abbrev cX0_gatherCandidates : ByteArray := prog_2_method_5_code
def yX0_gatherCandidates : MethodName := ⟨RX0, "gatherCandidates", "()I"⟩
abbrev cX0_firstChange : ByteArray := prog_2_method_6_code
def yX0_firstChange : MethodName := ⟨RX0, "firstChange", "(LQuarrelBook$Master;[LQuarrelBook$Saying;)I"⟩
abbrev cX0_sayingsAhead : ByteArray := prog_2_method_7_code
def yX0_sayingsAhead : MethodName := ⟨RX0, "sayingsAhead", "(ILQuarrelBook$Master;[LQuarrelBook$Saying;)I"⟩
abbrev cX0_costParted : ByteArray := prog_2_method_8_code
def yX0_costParted : MethodName := ⟨RX0, "costParted", "(I)I"⟩
def RX1 : String := "QuarrelBook$Book"
def TX1 : u_T := fun k => match k with
  | 0 => ("QuarrelBook$Book", "rules", "LQuarrelBook$Rules;", true)
  | 1 => ("QuarrelBook$Book", "bench", "LQuarrelBook$Bench;", true)
  | 2 => ("QuarrelBook$Book", "cases", "[I", true)
  | 3 => ("QuarrelBook$Book", "manyCases", "I", false)
  | 4 => ("QuarrelBook$Book", "masters", "[LQuarrelBook$Master;", true)
  | 5 => ("QuarrelBook$Book", "manyMasters", "I", false)
  | 6 => ("QuarrelBook$Book", "sayings", "[LQuarrelBook$Saying;", true)
  | _ => ("QuarrelBook$Book", "manySayings", "I", false)
def tyX1 : Nat → FieldType := fun k => match k with
  | 0 => .object "QuarrelBook$Rules"
  | 1 => .object "QuarrelBook$Bench"
  | 2 => .array .int
  | 3 => .int
  | 4 => .array (.object "QuarrelBook$Master")
  | 5 => .int
  | 6 => .array (.object "QuarrelBook$Saying")
  | _ => .int
abbrev wsX10 : List Cond := u_ws RX1 TX1 8
theorem nmX1 : ∀ a, a < 8 → ∀ b, b < 8 → a ≠ b → (TX1 a).2.1 ≠ (TX1 b).2.1 := by decide +kernel
theorem tyX1_ok : ∀ k, k < 8 → parseFieldDescriptor (TX1 k).2.2.1 = some (tyX1 k) := by decide +kernel
abbrev cX1_init : ByteArray := prog_3_method_1_code
def yX1_init : MethodName := ⟨RX1, "<init>", "()V"⟩
abbrev cX1_hasCase : ByteArray := prog_3_method_2_code
def yX1_hasCase : MethodName := ⟨RX1, "hasCase", "(I)Z"⟩
abbrev cX1_hasMaster : ByteArray := prog_3_method_3_code
def yX1_hasMaster : MethodName := ⟨RX1, "hasMaster", "(I)Z"⟩
abbrev cX1_hasSaying : ByteArray := prog_3_method_4_code
def yX1_hasSaying : MethodName := ⟨RX1, "hasSaying", "(I)Z"⟩
abbrev cX1_hasYear : ByteArray := prog_3_method_5_code
def yX1_hasYear : MethodName := ⟨RX1, "hasYear", "(II)Z"⟩
abbrev cX1_hasRoom : ByteArray := prog_3_method_6_code
def yX1_hasRoom : MethodName := ⟨RX1, "hasRoom", "(II)Z"⟩
abbrev cX1_addCase : ByteArray := prog_3_method_7_code
def yX1_addCase : MethodName := ⟨RX1, "addCase", "(I)I"⟩
abbrev cX1_addMaster : ByteArray := prog_3_method_8_code
def yX1_addMaster : MethodName := ⟨RX1, "addMaster", "(III)I"⟩
abbrev cX1_addSaying : ByteArray := prog_3_method_9_code
def yX1_addSaying : MethodName := ⟨RX1, "addSaying", "(IIIII)I"⟩
abbrev cX1_reprice : ByteArray := prog_3_method_10_code
def yX1_reprice : MethodName := ⟨RX1, "reprice", "(III)V"⟩
abbrev cX1_lifeFigure : ByteArray := prog_3_method_11_code
def yX1_lifeFigure : MethodName := ⟨RX1, "lifeFigure", "(II)I"⟩
abbrev cX1_pupils : ByteArray := prog_3_method_12_code
def yX1_pupils : MethodName := ⟨RX1, "pupils", "(I)I"⟩
abbrev cX1_caseTraits : ByteArray := prog_3_method_13_code
def yX1_caseTraits : MethodName := ⟨RX1, "caseTraits", "(I)I"⟩
abbrev cX1_strainOf : ByteArray := prog_3_method_14_code
def yX1_strainOf : MethodName := ⟨RX1, "strainOf", "(II)I"⟩
abbrev cX1_settled : ByteArray := prog_3_method_15_code
def yX1_settled : MethodName := ⟨RX1, "settled", "()[LQuarrelBook$Master;"⟩
abbrev cX1_changeYear : ByteArray := prog_3_method_16_code
def yX1_changeYear : MethodName := ⟨RX1, "changeYear", "(I)I"⟩
abbrev cX1_sumIfOtherwise : ByteArray := prog_3_method_17_code
def yX1_sumIfOtherwise : MethodName := ⟨RX1, "sumIfOtherwise", "(I)I"⟩
abbrev cX1_opponents : ByteArray := prog_3_method_18_code
def yX1_opponents : MethodName := ⟨RX1, "opponents", "(I[LQuarrelBook$Master;)I"⟩
abbrev cX1_knownToAll : ByteArray := prog_3_method_19_code
def yX1_knownToAll : MethodName := ⟨RX1, "knownToAll", "(I[LQuarrelBook$Master;)Z"⟩
abbrev cX1_manyUnsure : ByteArray := prog_3_method_20_code
def yX1_manyUnsure : MethodName := ⟨RX1, "manyUnsure", "(I[LQuarrelBook$Master;)I"⟩
abbrev cX1_yearsApart : ByteArray := prog_3_method_21_code
def yX1_yearsApart : MethodName := ⟨RX1, "yearsApart", "(I)I"⟩
abbrev cX1_digestFrom : ByteArray := prog_3_method_22_code
def yX1_digestFrom : MethodName := ⟨RX1, "digestFrom", "(J)J"⟩
def RX2 : String := "QuarrelBook$Court"
def TX2 : u_T := fun k => match k with
  | 0 => ("QuarrelBook$Court", "ground", "I", false)
  | _ => ("QuarrelBook$Court", "book", "LQuarrelBook$Book;", true)
def tyX2 : Nat → FieldType := fun k => match k with
  | 0 => .int
  | _ => .object "QuarrelBook$Book"
abbrev wsX20 : List Cond := u_ws RX2 TX2 2
theorem nmX2 : ∀ a, a < 2 → ∀ b, b < 2 → a ≠ b → (TX2 a).2.1 ≠ (TX2 b).2.1 := by decide +kernel
theorem tyX2_ok : ∀ k, k < 2 → parseFieldDescriptor (TX2 k).2.2.1 = some (tyX2 k) := by decide +kernel
abbrev cX2_init : ByteArray := prog_4_method_1_code
def yX2_init : MethodName := ⟨RX2, "<init>", "(LQuarrelBook$Book;)V"⟩
abbrev cX2_ruling : ByteArray := prog_4_method_2_code
def yX2_ruling : MethodName := ⟨RX2, "ruling", "(II[LQuarrelBook$Master;)I"⟩
abbrev cX2_ofTheMore : ByteArray := prog_4_method_3_code
def yX2_ofTheMore : MethodName := ⟨RX2, "ofTheMore", "(II[LQuarrelBook$Master;)I"⟩
abbrev cX2_ofTheLater : ByteArray := prog_4_method_4_code
def yX2_ofTheLater : MethodName := ⟨RX2, "ofTheLater", "(I[LQuarrelBook$Master;)I"⟩
def RX3 : String := "QuarrelBook$Master"
def TX3 : u_T := fun k => match k with
  | 0 => ("QuarrelBook$Master", "born", "I", false)
  | 1 => ("QuarrelBook$Master", "dies", "I", false)
  | 2 => ("QuarrelBook$Master", "teacher", "I", false)
  | 3 => ("QuarrelBook$Master", "forebears", "I", false)
  | 4 => ("QuarrelBook$Master", "own", "[I", true)
  | 5 => ("QuarrelBook$Master", "manyOwn", "I", false)
  | _ => ("QuarrelBook$Master", "mind", "LQuarrelBook$Mind;", true)
def tyX3 : Nat → FieldType := fun k => match k with
  | 0 => .int
  | 1 => .int
  | 2 => .int
  | 3 => .int
  | 4 => .array .int
  | 5 => .int
  | _ => .object "QuarrelBook$Mind"
abbrev wsX30 : List Cond := u_ws RX3 TX3 7
theorem nmX3 : ∀ a, a < 7 → ∀ b, b < 7 → a ≠ b → (TX3 a).2.1 ≠ (TX3 b).2.1 := by decide +kernel
theorem tyX3_ok : ∀ k, k < 7 → parseFieldDescriptor (TX3 k).2.2.1 = some (tyX3 k) := by decide +kernel
abbrev cX3_init : ByteArray := prog_5_method_1_code
def yX3_init : MethodName := ⟨RX3, "<init>", "()V"⟩
abbrev cX3_hasSpoken : ByteArray := prog_5_method_2_code
def yX3_hasSpoken : MethodName := ⟨RX3, "hasSpoken", "()Z"⟩
def RX4 : String := "QuarrelBook$Mind"
def TX4 : u_T := fun k => match k with
  | 0 => ("QuarrelBook$Mind", "known", "Z", false)
  | 1 => ("QuarrelBook$Mind", "sum", "I", false)
  | 2 => ("QuarrelBook$Mind", "lesser", "I", false)
  | 3 => ("QuarrelBook$Mind", "greater", "I", false)
  | 4 => ("QuarrelBook$Mind", "cheapRules", "[I", true)
  | 5 => ("QuarrelBook$Mind", "manyCheap", "I", false)
  | 6 => ("QuarrelBook$Mind", "maybeOwed", "I", false)
  | _ => ("QuarrelBook$Mind", "maybeNot", "I", false)
def tyX4 : Nat → FieldType := fun k => match k with
  | 0 => .boolean
  | 1 => .int
  | 2 => .int
  | 3 => .int
  | 4 => .array .int
  | 5 => .int
  | 6 => .int
  | _ => .int
abbrev wsX40 : List Cond := u_ws RX4 TX4 8
theorem nmX4 : ∀ a, a < 8 → ∀ b, b < 8 → a ≠ b → (TX4 a).2.1 ≠ (TX4 b).2.1 := by decide +kernel
theorem tyX4_ok : ∀ k, k < 8 → parseFieldDescriptor (TX4 k).2.2.1 = some (tyX4 k) := by decide +kernel
abbrev cX4_init : ByteArray := prog_6_method_1_code
def yX4_init : MethodName := ⟨RX4, "<init>", "()V"⟩
abbrev cX4_learn : ByteArray := prog_6_method_2_code
def yX4_learn : MethodName := ⟨RX4, "learn", "(LQuarrelBook$Bench;LQuarrelBook$Rules;)V"⟩
abbrev cX4_lastCheap : ByteArray := prog_6_method_3_code
def yX4_lastCheap : MethodName := ⟨RX4, "lastCheap", "()I"⟩
abbrev cX4_mayOwe : ByteArray := prog_6_method_4_code
def yX4_mayOwe : MethodName := ⟨RX4, "mayOwe", "(I)Z"⟩
abbrev cX4_mayNotOwe : ByteArray := prog_6_method_5_code
def yX4_mayNotOwe : MethodName := ⟨RX4, "mayNotOwe", "(I)Z"⟩
abbrev cX4_wouldSay : ByteArray := prog_6_method_6_code
def yX4_wouldSay : MethodName := ⟨RX4, "wouldSay", "(I)I"⟩
def RX5 : String := "QuarrelBook$Move"
def TX5 : u_T := fun k => match k with
  | 0 => ("QuarrelBook$Move", "kind", "I", false)
  | 1 => ("QuarrelBook$Move", "about", "I", false)
  | 2 => ("QuarrelBook$Move", "value", "I", false)
  | _ => ("QuarrelBook$Move", "isOpen", "Z", false)
def tyX5 : Nat → FieldType := fun k => match k with
  | 0 => .int
  | 1 => .int
  | 2 => .int
  | _ => .boolean
abbrev wsX50 : List Cond := u_ws RX5 TX5 4
theorem nmX5 : ∀ a, a < 4 → ∀ b, b < 4 → a ≠ b → (TX5 a).2.1 ≠ (TX5 b).2.1 := by decide +kernel
theorem tyX5_ok : ∀ k, k < 4 → parseFieldDescriptor (TX5 k).2.2.1 = some (tyX5 k) := by decide +kernel
abbrev cX5_init : ByteArray := prog_7_method_1_code
def yX5_init : MethodName := ⟨RX5, "<init>", "()V"⟩
abbrev cX5_figure : ByteArray := prog_7_method_2_code
def yX5_figure : MethodName := ⟨RX5, "figure", "(I)I"⟩
def RX6 : String := "QuarrelBook$Page"
def TX6 : u_T := fun k => match k with
  | 0 => ("QuarrelBook$Page", "moves", "[LQuarrelBook$Move;", true)
  | 1 => ("QuarrelBook$Page", "many", "I", false)
  | 2 => ("QuarrelBook$Page", "open", "I", false)
  | 3 => ("QuarrelBook$Page", "idle", "I", false)
  | _ => ("QuarrelBook$Page", "book", "LQuarrelBook$Book;", true)
def tyX6 : Nat → FieldType := fun k => match k with
  | 0 => .array (.object "QuarrelBook$Move")
  | 1 => .int
  | 2 => .int
  | 3 => .int
  | _ => .object "QuarrelBook$Book"
abbrev wsX60 : List Cond := u_ws RX6 TX6 5
theorem nmX6 : ∀ a, a < 5 → ∀ b, b < 5 → a ≠ b → (TX6 a).2.1 ≠ (TX6 b).2.1 := by decide +kernel
theorem tyX6_ok : ∀ k, k < 5 → parseFieldDescriptor (TX6 k).2.2.1 = some (tyX6 k) := by decide +kernel
abbrev cX6_init : ByteArray := prog_8_method_1_code
def yX6_init : MethodName := ⟨RX6, "<init>", "(LQuarrelBook$Book;)V"⟩
abbrev cX6_takes : ByteArray := prog_8_method_2_code
def yX6_takes : MethodName := ⟨RX6, "takes", "(III)Z"⟩
abbrev cX6_addMove : ByteArray := prog_8_method_3_code
def yX6_addMove : MethodName := ⟨RX6, "addMove", "(III)I"⟩
abbrev cX6_objections : ByteArray := prog_8_method_4_code
def yX6_objections : MethodName := ⟨RX6, "objections", "()I"⟩
abbrev cX6_markOf : ByteArray := prog_8_method_5_code
def yX6_markOf : MethodName := ⟨RX6, "markOf", "(LQuarrelBook$Move;[LQuarrelBook$Master;)I"⟩
abbrev cX6_sayingsFrom : ByteArray := prog_8_method_6_code
def yX6_sayingsFrom : MethodName := ⟨RX6, "sayingsFrom", "(II)I"⟩
abbrev cX6_readThrough : ByteArray := prog_8_method_7_code
def yX6_readThrough : MethodName := ⟨RX6, "readThrough", "([LQuarrelBook$Master;)V"⟩
abbrev cX6_lastOpen : ByteArray := prog_8_method_8_code
def yX6_lastOpen : MethodName := ⟨RX6, "lastOpen", "(II)I"⟩
abbrev cX6_closes : ByteArray := prog_8_method_9_code
def yX6_closes : MethodName := ⟨RX6, "closes", "(LQuarrelBook$Move;I[LQuarrelBook$Master;)Z"⟩
abbrev cX6_fitsSomeCheap : ByteArray := prog_8_method_10_code
def yX6_fitsSomeCheap : MethodName := ⟨RX6, "fitsSomeCheap", "(LQuarrelBook$Saying;ILQuarrelBook$Mind;)Z"⟩
abbrev cX6_digestFrom : ByteArray := prog_8_method_11_code
def yX6_digestFrom : MethodName := ⟨RX6, "digestFrom", "(J)J"⟩
def RX7 : String := "QuarrelBook$Row"
def TX7 : u_T := fun k => match k with
  | 0 => ("QuarrelBook$Row", "places", "[I", true)
  | _ => ("QuarrelBook$Row", "size", "I", false)
def tyX7 : Nat → FieldType := fun k => match k with
  | 0 => .array .int
  | _ => .int
abbrev wsX70 : List Cond := u_ws RX7 TX7 2
theorem nmX7 : ∀ a, a < 2 → ∀ b, b < 2 → a ≠ b → (TX7 a).2.1 ≠ (TX7 b).2.1 := by decide +kernel
theorem tyX7_ok : ∀ k, k < 2 → parseFieldDescriptor (TX7 k).2.2.1 = some (tyX7 k) := by decide +kernel
abbrev cX7_init : ByteArray := prog_9_method_1_code
def yX7_init : MethodName := ⟨RX7, "<init>", "()V"⟩
abbrev cX7_renew : ByteArray := prog_9_method_2_code
def yX7_renew : MethodName := ⟨RX7, "renew", "(I)V"⟩
abbrev cX7_hasPlaces : ByteArray := prog_9_method_3_code
def yX7_hasPlaces : MethodName := ⟨RX7, "hasPlaces", "(II)Z"⟩
abbrev cX7_sum : ByteArray := prog_9_method_4_code
def yX7_sum : MethodName := ⟨RX7, "sum", "()J"⟩
abbrev cX7_digestFrom : ByteArray := prog_9_method_5_code
def yX7_digestFrom : MethodName := ⟨RX7, "digestFrom", "(J)J"⟩
def RX8 : String := "QuarrelBook$Rules"
def TX8 : u_T := fun k => match k with
  | 0 => ("QuarrelBook$Rules", "owed", "[I", true)
  | _ => ("QuarrelBook$Rules", "looked", "[I", true)
def tyX8 : Nat → FieldType := fun k => match k with
  | 0 => .array .int
  | _ => .array .int
abbrev wsX80 : List Cond := u_ws RX8 TX8 2
theorem nmX8 : ∀ a, a < 2 → ∀ b, b < 2 → a ≠ b → (TX8 a).2.1 ≠ (TX8 b).2.1 := by decide +kernel
theorem tyX8_ok : ∀ k, k < 2 → parseFieldDescriptor (TX8 k).2.2.1 = some (tyX8 k) := by decide +kernel
abbrev cX8_init : ByteArray := prog_10_method_1_code
def yX8_init : MethodName := ⟨RX8, "<init>", "()V"⟩
abbrev cX8_verdict : ByteArray := prog_10_method_2_code
def yX8_verdict : MethodName := ⟨RX8, "verdict", "(II)I"⟩
abbrev cX8_looksAt : ByteArray := prog_10_method_3_code
def yX8_looksAt : MethodName := ⟨RX8, "looksAt", "(II)Z"⟩
abbrev cX8_fitting : ByteArray := prog_10_method_4_code
def yX8_fitting : MethodName := ⟨RX8, "fitting", "(IIII)Z"⟩
abbrev cX8_strain : ByteArray := prog_10_method_5_code
def yX8_strain : MethodName := ⟨RX8, "strain", "(IIII)I"⟩
def RX9 : String := "QuarrelBook$Saying"
def TX9 : u_T := fun k => match k with
  | 0 => ("QuarrelBook$Saying", "master", "I", false)
  | 1 => ("QuarrelBook$Saying", "instance", "I", false)
  | 2 => ("QuarrelBook$Saying", "year", "I", false)
  | 3 => ("QuarrelBook$Saying", "answer", "I", false)
  | 4 => ("QuarrelBook$Saying", "because", "I", false)
  | _ => ("QuarrelBook$Saying", "copies", "[I", true)
def tyX9 : Nat → FieldType := fun k => match k with
  | 0 => .int
  | 1 => .int
  | 2 => .int
  | 3 => .int
  | 4 => .int
  | _ => .array .int
abbrev wsX90 : List Cond := u_ws RX9 TX9 6
theorem nmX9 : ∀ a, a < 6 → ∀ b, b < 6 → a ≠ b → (TX9 a).2.1 ≠ (TX9 b).2.1 := by decide +kernel
theorem tyX9_ok : ∀ k, k < 6 → parseFieldDescriptor (TX9 k).2.2.1 = some (tyX9 k) := by decide +kernel
abbrev cX9_init : ByteArray := prog_11_method_1_code
def yX9_init : MethodName := ⟨RX9, "<init>", "()V"⟩
abbrev cX9_figure : ByteArray := prog_11_method_2_code
def yX9_figure : MethodName := ⟨RX9, "figure", "(I)I"⟩
abbrev cX9_copiesReading : ByteArray := prog_11_method_3_code
def yX9_copiesReading : MethodName := ⟨RX9, "copiesReading", "(I)I"⟩
def RX10 : String := "QuarrelBook$Text"
def TX10 : u_T := fun k => match k with
  | 0 => ("QuarrelBook$Text", "bytes", "[B", true)
  | 1 => ("QuarrelBook$Text", "size", "I", false)
  | 2 => ("QuarrelBook$Text", "read", "I", false)
  | _ => ("QuarrelBook$Text", "place", "I", false)
def tyX10 : Nat → FieldType := fun k => match k with
  | 0 => .array .byte
  | 1 => .int
  | 2 => .int
  | _ => .int
abbrev wsX100 : List Cond := u_ws RX10 TX10 4
theorem nmX10 : ∀ a, a < 4 → ∀ b, b < 4 → a ≠ b → (TX10 a).2.1 ≠ (TX10 b).2.1 := by decide +kernel
theorem tyX10_ok : ∀ k, k < 4 → parseFieldDescriptor (TX10 k).2.2.1 = some (tyX10 k) := by decide +kernel
abbrev cX10_init : ByteArray := prog_12_method_1_code
def yX10_init : MethodName := ⟨RX10, "<init>", "()V"⟩
abbrev cX10_renew : ByteArray := prog_12_method_2_code
def yX10_renew : MethodName := ⟨RX10, "renew", "(I)V"⟩
abbrev cX10_readRule : ByteArray := prog_12_method_3_code
def yX10_readRule : MethodName := ⟨RX10, "readRule", "()I"⟩
abbrev cX10_readLetters : ByteArray := prog_12_method_4_code
def yX10_readLetters : MethodName := ⟨RX10, "readLetters", "()Z"⟩
abbrev cX10_skipBlanks : ByteArray := prog_12_method_5_code
def yX10_skipBlanks : MethodName := ⟨RX10, "skipBlanks", "()V"⟩
abbrev cX10_signHere : ByteArray := prog_12_method_6_code
def yX10_signHere : MethodName := ⟨RX10, "signHere", "()I"⟩
abbrev cX10_digestFrom : ByteArray := prog_12_method_7_code
def yX10_digestFrom : MethodName := ⟨RX10, "digestFrom", "(J)J"⟩
def RX11 : String := "QuarrelBook"
def TX11 : u_T := fun k => match k with
  | 0 => ("QuarrelBook", "rows", "[LQuarrelBook$Row;", true)
  | 1 => ("QuarrelBook", "texts", "[LQuarrelBook$Text;", true)
  | 2 => ("QuarrelBook", "book", "LQuarrelBook$Book;", true)
  | 3 => ("QuarrelBook", "page", "LQuarrelBook$Page;", true)
  | 4 => ("QuarrelBook", "court", "LQuarrelBook$Court;", true)
  | 5 => ("QuarrelBook", "tallies", "[I", true)
  | 6 => ("QuarrelBook", "latest", "I", false)
  | 7 => ("QuarrelBook", "aside", "I", false)
  | 8 => ("QuarrelBook", "over", "J", false)
  | _ => ("QuarrelBook", "under", "J", false)
def tyX11 : Nat → FieldType := fun k => match k with
  | 0 => .array (.object "QuarrelBook$Row")
  | 1 => .array (.object "QuarrelBook$Text")
  | 2 => .object "QuarrelBook$Book"
  | 3 => .object "QuarrelBook$Page"
  | 4 => .object "QuarrelBook$Court"
  | 5 => .array .int
  | 6 => .int
  | 7 => .int
  | 8 => .long
  | _ => .long
abbrev wsX110 : List Cond := u_ws RX11 TX11 10
theorem nmX11 : ∀ a, a < 10 → ∀ b, b < 10 → a ≠ b → (TX11 a).2.1 ≠ (TX11 b).2.1 := by decide +kernel
theorem tyX11_ok : ∀ k, k < 10 → parseFieldDescriptor (TX11 k).2.2.1 = some (tyX11 k) := by decide +kernel
abbrev cX11_init : ByteArray := prog_1_method_1_code
def yX11_init : MethodName := ⟨RX11, "<init>", "()V"⟩
abbrev cX11_row : ByteArray := prog_1_method_2_code
def yX11_row : MethodName := ⟨RX11, "row", "(II)I"⟩
abbrev cX11_lay : ByteArray := prog_1_method_3_code
def yX11_lay : MethodName := ⟨RX11, "lay", "(III)I"⟩
abbrev cX11_tear : ByteArray := prog_1_method_4_code
def yX11_tear : MethodName := ⟨RX11, "tear", "(I)I"⟩
abbrev cX11_copy : ByteArray := prog_1_method_5_code
def yX11_copy : MethodName := ⟨RX11, "copy", "(IIIII)I"⟩
abbrev cX11_mean : ByteArray := prog_1_method_6_code
def yX11_mean : MethodName := ⟨RX11, "mean", "(I)I"⟩
abbrev cX11_text : ByteArray := prog_1_method_7_code
def yX11_text : MethodName := ⟨RX11, "text", "(II)I"⟩
abbrev cX11_put : ByteArray := prog_1_method_8_code
def yX11_put : MethodName := ⟨RX11, "put", "(III)I"⟩
abbrev cX11_instance : ByteArray := prog_1_method_9_code
def yX11_instance : MethodName := ⟨RX11, "instance", "(I)I"⟩
abbrev cX11_master : ByteArray := prog_1_method_10_code
def yX11_master : MethodName := ⟨RX11, "master", "(III)I"⟩
abbrev cX11_saying : ByteArray := prog_1_method_11_code
def yX11_saying : MethodName := ⟨RX11, "saying", "(IIIII)I"⟩
abbrev cX11_sayings : ByteArray := prog_1_method_12_code
def yX11_sayings : MethodName := ⟨RX11, "sayings", "(III)I"⟩
abbrev cX11_told : ByteArray := prog_1_method_13_code
def yX11_told : MethodName := ⟨RX11, "told", "(II)I"⟩
abbrev cX11_traits : ByteArray := prog_1_method_14_code
def yX11_traits : MethodName := ⟨RX11, "traits", "(I)I"⟩
abbrev cX11_life : ByteArray := prog_1_method_15_code
def yX11_life : MethodName := ⟨RX11, "life", "(II)I"⟩
abbrev cX11_fault : ByteArray := prog_1_method_16_code
def yX11_fault : MethodName := ⟨RX11, "fault", "(I)I"⟩
abbrev cX11_rule : ByteArray := prog_1_method_17_code
def yX11_rule : MethodName := ⟨RX11, "rule", "(I)I"⟩
abbrev cX11_answers : ByteArray := prog_1_method_18_code
def yX11_answers : MethodName := ⟨RX11, "answers", "(II)I"⟩
abbrev cX11_fits : ByteArray := prog_1_method_19_code
def yX11_fits : MethodName := ⟨RX11, "fits", "(II)I"⟩
abbrev cX11_prices : ByteArray := prog_1_method_20_code
def yX11_prices : MethodName := ⟨RX11, "prices", "(III)I"⟩
abbrev cX11_costs : ByteArray := prog_1_method_21_code
def yX11_costs : MethodName := ⟨RX11, "costs", "(II)I"⟩
abbrev cX11_settle : ByteArray := prog_1_method_22_code
def yX11_settle : MethodName := ⟨RX11, "settle", "(I)I"⟩
abbrev cX11_second : ByteArray := prog_1_method_23_code
def yX11_second : MethodName := ⟨RX11, "second", "(I)I"⟩
abbrev cX11_cheap : ByteArray := prog_1_method_24_code
def yX11_cheap : MethodName := ⟨RX11, "cheap", "(I)I"⟩
abbrev cX11_cheapAt : ByteArray := prog_1_method_25_code
def yX11_cheapAt : MethodName := ⟨RX11, "cheapAt", "(II)I"⟩
abbrev cX11_all : ByteArray := prog_1_method_26_code
def yX11_all : MethodName := ⟨RX11, "all", "()I"⟩
abbrev cX11_against : ByteArray := prog_1_method_27_code
def yX11_against : MethodName := ⟨RX11, "against", "(I)I"⟩
abbrev cX11_nobody : ByteArray := prog_1_method_28_code
def yX11_nobody : MethodName := ⟨RX11, "nobody", "()I"⟩
abbrev cX11_plain : ByteArray := prog_1_method_29_code
def yX11_plain : MethodName := ⟨RX11, "plain", "(I)I"⟩
abbrev cX11_changed : ByteArray := prog_1_method_30_code
def yX11_changed : MethodName := ⟨RX11, "changed", "(I)I"⟩
abbrev cX11_parts : ByteArray := prog_1_method_31_code
def yX11_parts : MethodName := ⟨RX11, "parts", "(II)I"⟩
abbrev cX11_met : ByteArray := prog_1_method_32_code
def yX11_met : MethodName := ⟨RX11, "met", "(II)I"⟩
abbrev cX11_can : ByteArray := prog_1_method_33_code
def yX11_can : MethodName := ⟨RX11, "can", "(I)I"⟩
abbrev cX11_reads : ByteArray := prog_1_method_34_code
def yX11_reads : MethodName := ⟨RX11, "reads", "(III)I"⟩
abbrev cX11_reading : ByteArray := prog_1_method_35_code
def yX11_reading : MethodName := ⟨RX11, "reading", "(I)I"⟩
abbrev cX11_slip : ByteArray := prog_1_method_36_code
def yX11_slip : MethodName := ⟨RX11, "slip", "(III)I"⟩
abbrev cX11_runs : ByteArray := prog_1_method_37_code
def yX11_runs : MethodName := ⟨RX11, "runs", "(I)I"⟩
abbrev cX11_move : ByteArray := prog_1_method_38_code
def yX11_move : MethodName := ⟨RX11, "move", "(III)I"⟩
abbrev cX11_moved : ByteArray := prog_1_method_39_code
def yX11_moved : MethodName := ⟨RX11, "moved", "(II)I"⟩
abbrev cX11_mark : ByteArray := prog_1_method_40_code
def yX11_mark : MethodName := ⟨RX11, "mark", "(II)I"⟩
abbrev cX11_follow : ByteArray := prog_1_method_41_code
def yX11_follow : MethodName := ⟨RX11, "follow", "()I"⟩
abbrev cX11_law : ByteArray := prog_1_method_42_code
def yX11_law : MethodName := ⟨RX11, "law", "(II)I"⟩
abbrev cX11_lawsPart : ByteArray := prog_1_method_43_code
def yX11_lawsPart : MethodName := ⟨RX11, "lawsPart", "(II)I"⟩
abbrev cX11_fresh : ByteArray := prog_1_method_44_code
def yX11_fresh : MethodName := ⟨RX11, "fresh", "(II)I"⟩
abbrev cX11_next : ByteArray := prog_1_method_45_code
def yX11_next : MethodName := ⟨RX11, "next", "()I"⟩
abbrev cX11_asked : ByteArray := prog_1_method_46_code
def yX11_asked : MethodName := ⟨RX11, "asked", "()I"⟩
abbrev cX11_upper : ByteArray := prog_1_method_47_code
def yX11_upper : MethodName := ⟨RX11, "upper", "()J"⟩
abbrev cX11_lower : ByteArray := prog_1_method_48_code
def yX11_lower : MethodName := ⟨RX11, "lower", "()J"⟩
abbrev cX11_count : ByteArray := prog_1_method_49_code
def yX11_count : MethodName := ⟨RX11, "count", "(I)I"⟩
abbrev cX11_finding : ByteArray := prog_1_method_50_code
def yX11_finding : MethodName := ⟨RX11, "finding", "()I"⟩
abbrev cX11_findings : ByteArray := prog_1_method_51_code
def yX11_findings : MethodName := ⟨RX11, "findings", "(I)I"⟩
abbrev cX11_digest : ByteArray := prog_1_method_52_code
def yX11_digest : MethodName := ⟨RX11, "digest", "()J"⟩
abbrev cX11_within : ByteArray := prog_1_method_53_code
def yX11_within : MethodName := ⟨RX11, "within", "(II)Z"⟩
abbrev cX11_isPrice : ByteArray := prog_1_method_54_code
def yX11_isPrice : MethodName := ⟨RX11, "isPrice", "(I)Z"⟩
abbrev cX11_firstTrait : ByteArray := prog_1_method_55_code
def yX11_firstTrait : MethodName := ⟨RX11, "firstTrait", "(I)I"⟩
abbrev cX11_refuse : ByteArray := prog_1_method_56_code
def yX11_refuse : MethodName := ⟨RX11, "refuse", "(I)I"⟩
abbrev cX11_tell : ByteArray := prog_1_method_57_code
def yX11_tell : MethodName := ⟨RX11, "tell", "(II)I"⟩
abbrev cX11_tellFraction : ByteArray := prog_1_method_58_code
def yX11_tellFraction : MethodName := ⟨RX11, "tellFraction", "(JJ)V"⟩
abbrev cX11_amount : ByteArray := prog_1_method_59_code
def yX11_amount : MethodName := ⟨RX11, "amount", "(I)I"⟩
abbrev cX11_rowsThere : ByteArray := prog_1_method_60_code
def yX11_rowsThere : MethodName := ⟨RX11, "rowsThere", "()I"⟩
abbrev cX11_textsThere : ByteArray := prog_1_method_61_code
def yX11_textsThere : MethodName := ⟨RX11, "textsThere", "()I"⟩
def RX12 : String := "QuarrelBookModel"
def TX12 : u_T := fun k => match k with
  | 0 => ("QuarrelBookModel", "finding", "I", false)
  | 1 => ("QuarrelBookModel", "findings", "[I", true)
  | 2 => ("QuarrelBookModel", "asked", "I", false)
  | 3 => ("QuarrelBookModel", "upper", "J", false)
  | 4 => ("QuarrelBookModel", "lower", "J", false)
  | 5 => ("QuarrelBookModel", "sizes", "[I", true)
  | 6 => ("QuarrelBookModel", "rows", "[I", true)
  | 7 => ("QuarrelBookModel", "moving", "[I", true)
  | 8 => ("QuarrelBookModel", "lengths", "[I", true)
  | 9 => ("QuarrelBookModel", "texts", "[I", true)
  | 10 => ("QuarrelBookModel", "caseMany", "I", false)
  | 11 => ("QuarrelBookModel", "cases", "[I", true)
  | 12 => ("QuarrelBookModel", "masterMany", "I", false)
  | 13 => ("QuarrelBookModel", "born", "[I", true)
  | 14 => ("QuarrelBookModel", "dies", "[I", true)
  | 15 => ("QuarrelBookModel", "teacher", "[I", true)
  | 16 => ("QuarrelBookModel", "sayingMany", "I", false)
  | 17 => ("QuarrelBookModel", "masterOf", "[I", true)
  | 18 => ("QuarrelBookModel", "caseOf", "[I", true)
  | 19 => ("QuarrelBookModel", "yearOf", "[I", true)
  | 20 => ("QuarrelBookModel", "answerOf", "[I", true)
  | 21 => ("QuarrelBookModel", "because", "[I", true)
  | 22 => ("QuarrelBookModel", "copies", "[I", true)
  | 23 => ("QuarrelBookModel", "readRule", "I", false)
  | 24 => ("QuarrelBookModel", "price", "[I", true)
  | 25 => ("QuarrelBookModel", "table", "[I", true)
  | 26 => ("QuarrelBookModel", "rowsOf", "I", false)
  | 27 => ("QuarrelBookModel", "settledSum", "I", false)
  | 28 => ("QuarrelBookModel", "lesser", "I", false)
  | 29 => ("QuarrelBookModel", "greater", "I", false)
  | 30 => ("QuarrelBookModel", "oneSum", "I", false)
  | 31 => ("QuarrelBookModel", "isCheap", "[Z", true)
  | 32 => ("QuarrelBookModel", "ruleOf", "[I", true)
  | 33 => ("QuarrelBookModel", "moveMany", "I", false)
  | 34 => ("QuarrelBookModel", "moveKind", "[I", true)
  | 35 => ("QuarrelBookModel", "moveOf", "[I", true)
  | 36 => ("QuarrelBookModel", "moveV", "[I", true)
  | 37 => ("QuarrelBookModel", "isOpen", "[Z", true)
  | 38 => ("QuarrelBookModel", "votesFor", "I", false)
  | 39 => ("QuarrelBookModel", "doubts", "[I", true)
  | _ => ("QuarrelBookModel", "h", "J", false)
def tyX12 : Nat → FieldType := fun k => match k with
  | 0 => .int
  | 1 => .array .int
  | 2 => .int
  | 3 => .long
  | 4 => .long
  | 5 => .array .int
  | 6 => .array .int
  | 7 => .array .int
  | 8 => .array .int
  | 9 => .array .int
  | 10 => .int
  | 11 => .array .int
  | 12 => .int
  | 13 => .array .int
  | 14 => .array .int
  | 15 => .array .int
  | 16 => .int
  | 17 => .array .int
  | 18 => .array .int
  | 19 => .array .int
  | 20 => .array .int
  | 21 => .array .int
  | 22 => .array .int
  | 23 => .int
  | 24 => .array .int
  | 25 => .array .int
  | 26 => .int
  | 27 => .int
  | 28 => .int
  | 29 => .int
  | 30 => .int
  | 31 => .array .boolean
  | 32 => .array .int
  | 33 => .int
  | 34 => .array .int
  | 35 => .array .int
  | 36 => .array .int
  | 37 => .array .boolean
  | 38 => .int
  | 39 => .array .int
  | _ => .long
abbrev wsX120 : List Cond := u_ws RX12 TX12 41
theorem nmX12 : ∀ a, a < 41 → ∀ b, b < 41 → a ≠ b → (TX12 a).2.1 ≠ (TX12 b).2.1 := by decide +kernel
theorem tyX12_ok : ∀ k, k < 41 → parseFieldDescriptor (TX12 k).2.2.1 = some (tyX12 k) := by decide +kernel
abbrev cX12_init : ByteArray := prog_14_method_1_code
def yX12_init : MethodName := ⟨RX12, "<init>", "()V"⟩
abbrev cX12_in : ByteArray := prog_14_method_3_code
def yX12_in : MethodName := ⟨RX12, "in", "(III)Z"⟩
abbrev cX12_meets : ByteArray := prog_14_method_4_code
def yX12_meets : MethodName := ⟨RX12, "meets", "(I)I"⟩
abbrev cX12_ask : ByteArray := prog_14_method_5_code
def yX12_ask : MethodName := ⟨RX12, "ask", "(II)I"⟩
abbrev cX12_has : ByteArray := prog_14_method_6_code
def yX12_has : MethodName := ⟨RX12, "has", "(II)Z"⟩
abbrev cX12_isRow : ByteArray := prog_14_method_7_code
def yX12_isRow : MethodName := ⟨RX12, "isRow", "(I)Z"⟩
abbrev cX12_isText : ByteArray := prog_14_method_8_code
def yX12_isText : MethodName := ⟨RX12, "isText", "(I)Z"⟩
abbrev cX12_askedRow : ByteArray := prog_14_method_9_code
def yX12_askedRow : MethodName := ⟨RX12, "askedRow", "(I)I"⟩
abbrev cX12_askedText : ByteArray := prog_14_method_10_code
def yX12_askedText : MethodName := ⟨RX12, "askedText", "(I)I"⟩
abbrev cX12_rowAt : ByteArray := prog_14_method_11_code
def yX12_rowAt : MethodName := ⟨RX12, "rowAt", "(II)I"⟩
abbrev cX12_row : ByteArray := prog_14_method_12_code
def yX12_row : MethodName := ⟨RX12, "row", "(II)I"⟩
abbrev cX12_lay : ByteArray := prog_14_method_13_code
def yX12_lay : MethodName := ⟨RX12, "lay", "(III)I"⟩
abbrev cX12_tear : ByteArray := prog_14_method_14_code
def yX12_tear : MethodName := ⟨RX12, "tear", "(I)I"⟩
abbrev cX12_copy : ByteArray := prog_14_method_15_code
def yX12_copy : MethodName := ⟨RX12, "copy", "(IIIII)I"⟩
abbrev cX12_mean : ByteArray := prog_14_method_16_code
def yX12_mean : MethodName := ⟨RX12, "mean", "(I)I"⟩
abbrev cX12_text : ByteArray := prog_14_method_17_code
def yX12_text : MethodName := ⟨RX12, "text", "(II)I"⟩
abbrev cX12_put : ByteArray := prog_14_method_18_code
def yX12_put : MethodName := ⟨RX12, "put", "(III)I"⟩
abbrev cX12_isCase : ByteArray := prog_14_method_19_code
def yX12_isCase : MethodName := ⟨RX12, "isCase", "(I)Z"⟩
abbrev cX12_isMaster : ByteArray := prog_14_method_20_code
def yX12_isMaster : MethodName := ⟨RX12, "isMaster", "(I)Z"⟩
abbrev cX12_isSaying : ByteArray := prog_14_method_21_code
def yX12_isSaying : MethodName := ⟨RX12, "isSaying", "(I)Z"⟩
abbrev cX12_isTrait : ByteArray := prog_14_method_22_code
def yX12_isTrait : MethodName := ⟨RX12, "isTrait", "(I)Z"⟩
abbrev cX12_isSet : ByteArray := prog_14_method_23_code
def yX12_isSet : MethodName := ⟨RX12, "isSet", "(I)Z"⟩
abbrev cX12_instance : ByteArray := prog_14_method_24_code
def yX12_instance : MethodName := ⟨RX12, "instance", "(I)I"⟩
abbrev cX12_master : ByteArray := prog_14_method_25_code
def yX12_master : MethodName := ⟨RX12, "master", "(III)I"⟩
abbrev cX12_sayingsOf : ByteArray := prog_14_method_26_code
def yX12_sayingsOf : MethodName := ⟨RX12, "sayingsOf", "(I)I"⟩
abbrev cX12_newSaying : ByteArray := prog_14_method_27_code
def yX12_newSaying : MethodName := ⟨RX12, "newSaying", "(IIIII)I"⟩
abbrev cX12_isOf : ByteArray := prog_14_method_28_code
def yX12_isOf : MethodName := ⟨RX12, "isOf", "(II)Z"⟩
abbrev cX12_saying : ByteArray := prog_14_method_29_code
def yX12_saying : MethodName := ⟨RX12, "saying", "(IIIII)I"⟩
abbrev cX12_sayings : ByteArray := prog_14_method_30_code
def yX12_sayings : MethodName := ⟨RX12, "sayings", "(III)I"⟩
abbrev cX12_sayingTells : ByteArray := prog_14_method_31_code
def yX12_sayingTells : MethodName := ⟨RX12, "sayingTells", "(II)I"⟩
abbrev cX12_told : ByteArray := prog_14_method_32_code
def yX12_told : MethodName := ⟨RX12, "told", "(II)I"⟩
abbrev cX12_traits : ByteArray := prog_14_method_33_code
def yX12_traits : MethodName := ⟨RX12, "traits", "(I)I"⟩
abbrev cX12_pupils : ByteArray := prog_14_method_34_code
def yX12_pupils : MethodName := ⟨RX12, "pupils", "(I)I"⟩
abbrev cX12_lifeTells : ByteArray := prog_14_method_35_code
def yX12_lifeTells : MethodName := ⟨RX12, "lifeTells", "(II)I"⟩
abbrev cX12_life : ByteArray := prog_14_method_36_code
def yX12_life : MethodName := ⟨RX12, "life", "(II)I"⟩
abbrev cX12_byteAt : ByteArray := prog_14_method_37_code
def yX12_byteAt : MethodName := ⟨RX12, "byteAt", "(II)I"⟩
abbrev cX12_power : ByteArray := prog_14_method_38_code
def yX12_power : MethodName := ⟨RX12, "power", "(I)I"⟩
abbrev cX12_goesOn : ByteArray := prog_14_method_39_code
def yX12_goesOn : MethodName := ⟨RX12, "goesOn", "(I)I"⟩
abbrev cX12_fault : ByteArray := prog_14_method_40_code
def yX12_fault : MethodName := ⟨RX12, "fault", "(I)I"⟩
abbrev cX12_rule : ByteArray := prog_14_method_41_code
def yX12_rule : MethodName := ⟨RX12, "rule", "(I)I"⟩
abbrev cX12_isRule : ByteArray := prog_14_method_42_code
def yX12_isRule : MethodName := ⟨RX12, "isRule", "(I)Z"⟩
abbrev cX12_figure : ByteArray := prog_14_method_43_code
def yX12_figure : MethodName := ⟨RX12, "figure", "(II)I"⟩
abbrev cX12_answer : ByteArray := prog_14_method_44_code
def yX12_answer : MethodName := ⟨RX12, "answer", "(II)I"⟩
abbrev cX12_answers : ByteArray := prog_14_method_45_code
def yX12_answers : MethodName := ⟨RX12, "answers", "(II)I"⟩
abbrev cX12_doesFit : ByteArray := prog_14_method_46_code
def yX12_doesFit : MethodName := ⟨RX12, "doesFit", "(III)Z"⟩
abbrev cX12_fits : ByteArray := prog_14_method_47_code
def yX12_fits : MethodName := ⟨RX12, "fits", "(II)I"⟩
abbrev cX12_isPrice : ByteArray := prog_14_method_48_code
def yX12_isPrice : MethodName := ⟨RX12, "isPrice", "(I)Z"⟩
abbrev cX12_prices : ByteArray := prog_14_method_49_code
def yX12_prices : MethodName := ⟨RX12, "prices", "(III)I"⟩
abbrev cX12_costOf : ByteArray := prog_14_method_50_code
def yX12_costOf : MethodName := ⟨RX12, "costOf", "(II)I"⟩
abbrev cX12_costs : ByteArray := prog_14_method_51_code
def yX12_costs : MethodName := ⟨RX12, "costs", "(II)I"⟩
abbrev cX12_setTable : ByteArray := prog_14_method_52_code
def yX12_setTable : MethodName := ⟨RX12, "setTable", "(I)V"⟩
abbrev cX12_sumBy : ByteArray := prog_14_method_53_code
def yX12_sumBy : MethodName := ⟨RX12, "sumBy", "(I)I"⟩
abbrev cX12_sumByTwo : ByteArray := prog_14_method_54_code
def yX12_sumByTwo : MethodName := ⟨RX12, "sumByTwo", "(II)I"⟩
abbrev cX12_settles : ByteArray := prog_14_method_55_code
def yX12_settles : MethodName := ⟨RX12, "settles", "(I)V"⟩
abbrev cX12_settle : ByteArray := prog_14_method_56_code
def yX12_settle : MethodName := ⟨RX12, "settle", "(I)I"⟩
abbrev cX12_second : ByteArray := prog_14_method_57_code
def yX12_second : MethodName := ⟨RX12, "second", "(I)I"⟩
abbrev cX12_setCheap : ByteArray := prog_14_method_58_code
def yX12_setCheap : MethodName := ⟨RX12, "setCheap", "(I)V"⟩
abbrev cX12_cheap : ByteArray := prog_14_method_59_code
def yX12_cheap : MethodName := ⟨RX12, "cheap", "(I)I"⟩
abbrev cX12_cheapAt : ByteArray := prog_14_method_60_code
def yX12_cheapAt : MethodName := ⟨RX12, "cheapAt", "(II)I"⟩
abbrev cX12_all : ByteArray := prog_14_method_61_code
def yX12_all : MethodName := ⟨RX12, "all", "()I"⟩
abbrev cX12_setRules : ByteArray := prog_14_method_62_code
def yX12_setRules : MethodName := ⟨RX12, "setRules", "()V"⟩
abbrev cX12_againstOf : ByteArray := prog_14_method_63_code
def yX12_againstOf : MethodName := ⟨RX12, "againstOf", "(I)I"⟩
abbrev cX12_against : ByteArray := prog_14_method_64_code
def yX12_against : MethodName := ⟨RX12, "against", "(I)I"⟩
abbrev cX12_nobody : ByteArray := prog_14_method_65_code
def yX12_nobody : MethodName := ⟨RX12, "nobody", "()I"⟩
abbrev cX12_freshOf : ByteArray := prog_14_method_66_code
def yX12_freshOf : MethodName := ⟨RX12, "freshOf", "(II)I"⟩
abbrev cX12_freshNow : ByteArray := prog_14_method_67_code
def yX12_freshNow : MethodName := ⟨RX12, "freshNow", "(I)I"⟩
abbrev cX12_plain : ByteArray := prog_14_method_68_code
def yX12_plain : MethodName := ⟨RX12, "plain", "(I)I"⟩
abbrev cX12_leastIn : ByteArray := prog_14_method_69_code
def yX12_leastIn : MethodName := ⟨RX12, "leastIn", "(III)I"⟩
abbrev cX12_isSaid : ByteArray := prog_14_method_70_code
def yX12_isSaid : MethodName := ⟨RX12, "isSaid", "(II)Z"⟩
abbrev cX12_changed : ByteArray := prog_14_method_71_code
def yX12_changed : MethodName := ⟨RX12, "changed", "(I)I"⟩
abbrev cX12_parts : ByteArray := prog_14_method_72_code
def yX12_parts : MethodName := ⟨RX12, "parts", "(II)I"⟩
abbrev cX12_bits : ByteArray := prog_14_method_73_code
def yX12_bits : MethodName := ⟨RX12, "bits", "(I)I"⟩
abbrev cX12_met : ByteArray := prog_14_method_74_code
def yX12_met : MethodName := ⟨RX12, "met", "(II)I"⟩
abbrev cX12_can : ByteArray := prog_14_method_75_code
def yX12_can : MethodName := ⟨RX12, "can", "(I)I"⟩
abbrev cX12_reads : ByteArray := prog_14_method_76_code
def yX12_reads : MethodName := ⟨RX12, "reads", "(III)I"⟩
abbrev cX12_reading : ByteArray := prog_14_method_77_code
def yX12_reading : MethodName := ⟨RX12, "reading", "(I)I"⟩
abbrev cX12_slip : ByteArray := prog_14_method_78_code
def yX12_slip : MethodName := ⟨RX12, "slip", "(III)I"⟩
abbrev cX12_runs : ByteArray := prog_14_method_79_code
def yX12_runs : MethodName := ⟨RX12, "runs", "(I)I"⟩
abbrev cX12_isMove : ByteArray := prog_14_method_80_code
def yX12_isMove : MethodName := ⟨RX12, "isMove", "(III)Z"⟩
abbrev cX12_move : ByteArray := prog_14_method_81_code
def yX12_move : MethodName := ⟨RX12, "move", "(III)I"⟩
abbrev cX12_moveTells : ByteArray := prog_14_method_82_code
def yX12_moveTells : MethodName := ⟨RX12, "moveTells", "(II)I"⟩
abbrev cX12_moved : ByteArray := prog_14_method_83_code
def yX12_moved : MethodName := ⟨RX12, "moved", "(II)I"⟩
abbrev cX12_mark : ByteArray := prog_14_method_84_code
def yX12_mark : MethodName := ⟨RX12, "mark", "(II)I"⟩
abbrev cX12_doesAnswer : ByteArray := prog_14_method_85_code
def yX12_doesAnswer : MethodName := ⟨RX12, "doesAnswer", "(II)Z"⟩
abbrev cX12_follow : ByteArray := prog_14_method_86_code
def yX12_follow : MethodName := ⟨RX12, "follow", "()I"⟩
abbrev cX12_lawOf : ByteArray := prog_14_method_87_code
def yX12_lawOf : MethodName := ⟨RX12, "lawOf", "(II)I"⟩
abbrev cX12_isBy : ByteArray := prog_14_method_88_code
def yX12_isBy : MethodName := ⟨RX12, "isBy", "(I)Z"⟩
abbrev cX12_law : ByteArray := prog_14_method_89_code
def yX12_law : MethodName := ⟨RX12, "law", "(II)I"⟩
abbrev cX12_lawsPart : ByteArray := prog_14_method_90_code
def yX12_lawsPart : MethodName := ⟨RX12, "lawsPart", "(II)I"⟩
abbrev cX12_fresh : ByteArray := prog_14_method_91_code
def yX12_fresh : MethodName := ⟨RX12, "fresh", "(II)I"⟩
abbrev cX12_next : ByteArray := prog_14_method_92_code
def yX12_next : MethodName := ⟨RX12, "next", "()I"⟩
abbrev cX12_asked : ByteArray := prog_14_method_93_code
def yX12_asked : MethodName := ⟨RX12, "asked", "()I"⟩
abbrev cX12_upper : ByteArray := prog_14_method_94_code
def yX12_upper : MethodName := ⟨RX12, "upper", "()J"⟩
abbrev cX12_lower : ByteArray := prog_14_method_95_code
def yX12_lower : MethodName := ⟨RX12, "lower", "()J"⟩
abbrev cX12_counts : ByteArray := prog_14_method_96_code
def yX12_counts : MethodName := ⟨RX12, "counts", "(I)I"⟩
abbrev cX12_count : ByteArray := prog_14_method_97_code
def yX12_count : MethodName := ⟨RX12, "count", "(I)I"⟩
abbrev cX12_finding : ByteArray := prog_14_method_98_code
def yX12_finding : MethodName := ⟨RX12, "finding", "()I"⟩
abbrev cX12_findings : ByteArray := prog_14_method_99_code
def yX12_findings : MethodName := ⟨RX12, "findings", "(I)I"⟩
abbrev cX12_mix : ByteArray := prog_14_method_100_code
def yX12_mix : MethodName := ⟨RX12, "mix", "(I)V"⟩
abbrev cX12_mixSayings : ByteArray := prog_14_method_101_code
def yX12_mixSayings : MethodName := ⟨RX12, "mixSayings", "()V"⟩
abbrev cX12_digest : ByteArray := prog_14_method_102_code
def yX12_digest : MethodName := ⟨RX12, "digest", "()J"⟩
def RJ6 : String := "java/lang/Integer"
def TJ6 : u_T := fun k => match k with
  | _ => ("", "", "", false)
def tyJ6 : Nat → FieldType := fun k => match k with
  | _ => .int
abbrev wsJ60 : List Cond := u_ws RJ6 TJ6 0
theorem nmJ6 : ∀ a, a < 0 → ∀ b, b < 0 → a ≠ b → (TJ6 a).2.1 ≠ (TJ6 b).2.1 := by decide +kernel
theorem tyJ6_ok : ∀ k, k < 0 → parseFieldDescriptor (TJ6 k).2.2.1 = some (tyJ6 k) := by decide +kernel
abbrev cJ6_bitCount_0f7a4 : ByteArray := prog_15_method_49_code
def yJ6_bitCount_0f7a4 : MethodName := ⟨RJ6, "bitCount", "(I)I"⟩
def RJ9 : String := "java/lang/Math"
def TJ9 : u_T := fun k => match k with
  | _ => ("", "", "", false)
def tyJ9 : Nat → FieldType := fun k => match k with
  | _ => .int
abbrev wsJ90 : List Cond := u_ws RJ9 TJ9 0
theorem nmJ9 : ∀ a, a < 0 → ∀ b, b < 0 → a ≠ b → (TJ9 a).2.1 ≠ (TJ9 b).2.1 := by decide +kernel
theorem tyJ9_ok : ∀ k, k < 0 → parseFieldDescriptor (TJ9 k).2.2.1 = some (tyJ9 k) := by decide +kernel
abbrev cJ9_abs_0f7a4 : ByteArray := prog_16_method_59_code
def yJ9_abs_0f7a4 : MethodName := ⟨RJ9, "abs", "(I)I"⟩
abbrev cJ9_max_7cf53 : ByteArray := prog_16_method_65_code
def yJ9_max_7cf53 : MethodName := ⟨RJ9, "max", "(II)I"⟩
abbrev cJ9_min_7cf53 : ByteArray := prog_16_method_69_code
def yJ9_min_7cf53 : MethodName := ⟨RJ9, "min", "(II)I"⟩
def RJ10 : String := "java/lang/System"
def TJ10 : u_T := fun k => match k with
  | _ => ("", "", "", false)
def tyJ10 : Nat → FieldType := fun k => match k with
  | _ => .int
abbrev wsJ100 : List Cond := u_ws RJ10 TJ10 0
theorem nmJ10 : ∀ a, a < 0 → ∀ b, b < 0 → a ≠ b → (TJ10 a).2.1 ≠ (TJ10 b).2.1 := by decide +kernel
theorem tyJ10_ok : ∀ k, k < 0 → parseFieldDescriptor (TJ10 k).2.2.1 = some (tyJ10 k) := by decide +kernel
def RJ7 : String := "java/util/Arrays"
def TJ7 : u_T := fun k => match k with
  | _ => ("", "", "", false)
def tyJ7 : Nat → FieldType := fun k => match k with
  | _ => .int
abbrev wsJ70 : List Cond := u_ws RJ7 TJ7 0
theorem nmJ7 : ∀ a, a < 0 → ∀ b, b < 0 → a ≠ b → (TJ7 a).2.1 ≠ (TJ7 b).2.1 := by decide +kernel
theorem tyJ7_ok : ∀ k, k < 0 → parseFieldDescriptor (TJ7 k).2.2.1 = some (tyJ7 k) := by decide +kernel
abbrev cJ7_fill_53178 : ByteArray := prog_18_method_103_code
def yJ7_fill_53178 : MethodName := ⟨RJ7, "fill", "([II)V"⟩
abbrev cJ7_fill_031fb : ByteArray := prog_18_method_109_code
def yJ7_fill_031fb : MethodName := ⟨RJ7, "fill", "([BB)V"⟩
def RL : String := "QuarrelBookLaw"
abbrev cL_law : ByteArray := code
def yL_law : MethodName := ⟨RL, "law", "([I)Z"⟩
abbrev vwCl : List vw_C := [(RX0, TX0, 12), (RX1, TX1, 8), (RX2, TX2, 2), (RX3, TX3, 7), (RX4, TX4, 8), (RX5, TX5, 4), (RX6, TX6, 5), (RX7, TX7, 2), (RX8, TX8, 2), (RX9, TX9, 6), (RX10, TX10, 4), (RX11, TX11, 10), (RX12, TX12, 41)]
end
section
theorem dX0_init_0 : decode cX0_init 0 = .ok (.aload_n 0, 1) := by decide +kernel
theorem dX0_init_1 : decode cX0_init 1 = .ok (.invokespecial 3, 3) := by decide +kernel
theorem dX0_init_4 : decode cX0_init 4 = .ok (.aload_n 0, 1) := by decide +kernel
theorem dX0_init_5 : decode cX0_init 5 = .ok (.iconst 3, 1) := by decide +kernel
theorem dX0_init_6 : decode cX0_init 6 = .ok (.putfield 9, 3) := by decide +kernel
theorem dX0_init_9 : decode cX0_init 9 = .ok (.aload_n 0, 1) := by decide +kernel
theorem dX0_init_10 : decode cX0_init 10 = .ok (.iconst 5, 1) := by decide +kernel
theorem dX0_init_11 : decode cX0_init 11 = .ok (.putfield 15, 3) := by decide +kernel
theorem dX0_init_14 : decode cX0_init 14 = .ok (.aload_n 0, 1) := by decide +kernel
theorem dX0_init_15 : decode cX0_init 15 = .ok (.bipush 7, 2) := by decide +kernel
theorem dX0_init_17 : decode cX0_init 17 = .ok (.putfield 18, 3) := by decide +kernel
theorem dX0_init_20 : decode cX0_init 20 = .ok (.aload_n 0, 1) := by decide +kernel
theorem dX0_init_21 : decode cX0_init 21 = .ok (.sipush 244, 3) := by decide +kernel
theorem dX0_init_24 : decode cX0_init 24 = .ok (.newarray .int, 2) := by decide +kernel
theorem dX0_init_26 : decode cX0_init 26 = .ok (.putfield 21, 3) := by decide +kernel
theorem dX0_init_29 : decode cX0_init 29 = .ok (.aload_n 0, 1) := by decide +kernel
theorem dX0_init_30 : decode cX0_init 30 = .ok (.iconst 0, 1) := by decide +kernel
theorem dX0_init_31 : decode cX0_init 31 = .ok (.putfield 25, 3) := by decide +kernel
theorem dX0_init_34 : decode cX0_init 34 = .ok (.aload_n 0, 1) := by decide +kernel
theorem dX0_init_35 : decode cX0_init 35 = .ok (.iconst 0, 1) := by decide +kernel
theorem dX0_init_36 : decode cX0_init 36 = .ok (.putfield 28, 3) := by decide +kernel
theorem dX0_init_39 : decode cX0_init 39 = .ok (.aload_n 0, 1) := by decide +kernel
theorem dX0_init_40 : decode cX0_init 40 = .ok (.iconst 0, 1) := by decide +kernel
theorem dX0_init_41 : decode cX0_init 41 = .ok (.putfield 31, 3) := by decide +kernel
theorem dX0_init_44 : decode cX0_init 44 = .ok (.aload_n 0, 1) := by decide +kernel
theorem dX0_init_45 : decode cX0_init 45 = .ok (.bipush (-9), 2) := by decide +kernel
theorem dX0_init_47 : decode cX0_init 47 = .ok (.putfield 34, 3) := by decide +kernel
theorem dX0_init_50 : decode cX0_init 50 = .ok (.aload_n 0, 1) := by decide +kernel
theorem dX0_init_51 : decode cX0_init 51 = .ok (.iconst 0, 1) := by decide +kernel
theorem dX0_init_52 : decode cX0_init 52 = .ok (.putfield 37, 3) := by decide +kernel
theorem dX0_init_55 : decode cX0_init 55 = .ok (.aload_n 0, 1) := by decide +kernel
theorem dX0_init_56 : decode cX0_init 56 = .ok (.sipush 244, 3) := by decide +kernel
theorem dX0_init_59 : decode cX0_init 59 = .ok (.newarray .int, 2) := by decide +kernel
theorem dX0_init_61 : decode cX0_init 61 = .ok (.putfield 40, 3) := by decide +kernel
theorem dX0_init_64 : decode cX0_init 64 = .ok (.aload_n 0, 1) := by decide +kernel
theorem dX0_init_65 : decode cX0_init 65 = .ok (.sipush 244, 3) := by decide +kernel
theorem dX0_init_68 : decode cX0_init 68 = .ok (.newarray .int, 2) := by decide +kernel
theorem dX0_init_70 : decode cX0_init 70 = .ok (.putfield 43, 3) := by decide +kernel
theorem dX0_init_73 : decode cX0_init 73 = .ok (.aload_n 0, 1) := by decide +kernel
theorem dX0_init_74 : decode cX0_init 74 = .ok (.aload_n 1, 1) := by decide +kernel
theorem dX0_init_75 : decode cX0_init 75 = .ok (.putfield 46, 3) := by decide +kernel
theorem dX0_init_78 : decode cX0_init 78 = .ok (.return_, 1) := by decide +kernel
theorem dX0_sumOf_0 : decode cX0_sumOf 0 = .ok (.aload_n 0, 1) := by decide +kernel
theorem dX0_sumOf_1 : decode cX0_sumOf 1 = .ok (.getfield 9, 3) := by decide +kernel
theorem dX0_sumOf_4 : decode cX0_sumOf 4 = .ok (.aload_n 0, 1) := by decide +kernel
theorem dX0_sumOf_5 : decode cX0_sumOf 5 = .ok (.getfield 15, 3) := by decide +kernel
theorem dX0_sumOf_8 : decode cX0_sumOf 8 = .ok (.invokestatic 50, 3) := by decide +kernel
theorem dX0_sumOf_11 : decode cX0_sumOf 11 = .ok (.istore_n 2, 1) := by decide +kernel
theorem dX0_sumOf_12 : decode cX0_sumOf 12 = .ok (.iload_n 1, 1) := by decide +kernel
theorem dX0_sumOf_13 : decode cX0_sumOf 13 = .ok (.sipush 511, 3) := by decide +kernel
theorem dX0_sumOf_16 : decode cX0_sumOf 16 = .ok (.iand, 1) := by decide +kernel
theorem dX0_sumOf_17 : decode cX0_sumOf 17 = .ok (.invokestatic 56, 3) := by decide +kernel
theorem dX0_sumOf_20 : decode cX0_sumOf 20 = .ok (.istore_n 3, 1) := by decide +kernel
theorem dX0_sumOf_21 : decode cX0_sumOf 21 = .ok (.iload_n 1, 1) := by decide +kernel
theorem dX0_sumOf_22 : decode cX0_sumOf 22 = .ok (.bipush 9, 2) := by decide +kernel
theorem dX0_sumOf_24 : decode cX0_sumOf 24 = .ok (.iushr, 1) := by decide +kernel
theorem dX0_sumOf_25 : decode cX0_sumOf 25 = .ok (.invokestatic 56, 3) := by decide +kernel
theorem dX0_sumOf_28 : decode cX0_sumOf 28 = .ok (.istore 4, 2) := by decide +kernel
theorem dX0_sumOf_30 : decode cX0_sumOf 30 = .ok (.iload_n 2, 1) := by decide +kernel
theorem dX0_sumOf_31 : decode cX0_sumOf 31 = .ok (.iload_n 3, 1) := by decide +kernel
theorem dX0_sumOf_32 : decode cX0_sumOf 32 = .ok (.imul, 1) := by decide +kernel
theorem dX0_sumOf_33 : decode cX0_sumOf 33 = .ok (.aload_n 0, 1) := by decide +kernel
theorem dX0_sumOf_34 : decode cX0_sumOf 34 = .ok (.getfield 15, 3) := by decide +kernel
theorem dX0_sumOf_37 : decode cX0_sumOf 37 = .ok (.iload_n 2, 1) := by decide +kernel
theorem dX0_sumOf_38 : decode cX0_sumOf 38 = .ok (.isub, 1) := by decide +kernel
theorem dX0_sumOf_39 : decode cX0_sumOf 39 = .ok (.iload 4, 2) := by decide +kernel
theorem dX0_sumOf_41 : decode cX0_sumOf 41 = .ok (.imul, 1) := by decide +kernel
theorem dX0_sumOf_42 : decode cX0_sumOf 42 = .ok (.iadd, 1) := by decide +kernel
theorem dX0_sumOf_43 : decode cX0_sumOf 43 = .ok (.ireturn, 1) := by decide +kernel
theorem dX0_weigh_0 : decode cX0_weigh 0 = .ok (.aload_n 0, 1) := by decide +kernel
theorem dX0_weigh_1 : decode cX0_weigh 1 = .ok (.getfield 40, 3) := by decide +kernel
theorem dX0_weigh_4 : decode cX0_weigh 4 = .ok (.iconst 0, 1) := by decide +kernel
theorem dX0_weigh_5 : decode cX0_weigh 5 = .ok (.invokestatic 62, 3) := by decide +kernel
theorem dX0_weigh_8 : decode cX0_weigh 8 = .ok (.iconst 0, 1) := by decide +kernel
theorem dX0_weigh_9 : decode cX0_weigh 9 = .ok (.istore 4, 2) := by decide +kernel
theorem dX0_weigh_11 : decode cX0_weigh 11 = .ok (.iload 4, 2) := by decide +kernel
theorem dX0_weigh_13 : decode cX0_weigh 13 = .ok (.aload_n 1, 1) := by decide +kernel
theorem dX0_weigh_14 : decode cX0_weigh 14 = .ok (.getfield 68, 3) := by decide +kernel
theorem dX0_weigh_17 : decode cX0_weigh 17 = .ok (.if_icmp .ge 80, 3) := by decide +kernel
theorem dX0_weigh_20 : decode cX0_weigh 20 = .ok (.aload_n 2, 1) := by decide +kernel
theorem dX0_weigh_21 : decode cX0_weigh 21 = .ok (.aload_n 1, 1) := by decide +kernel
theorem dX0_weigh_22 : decode cX0_weigh 22 = .ok (.getfield 73, 3) := by decide +kernel
theorem dX0_weigh_25 : decode cX0_weigh 25 = .ok (.iload 4, 2) := by decide +kernel
theorem dX0_weigh_27 : decode cX0_weigh 27 = .ok (.iaload, 1) := by decide +kernel
theorem dX0_weigh_28 : decode cX0_weigh 28 = .ok (.aaload, 1) := by decide +kernel
theorem dX0_weigh_29 : decode cX0_weigh 29 = .ok (.astore 5, 2) := by decide +kernel
theorem dX0_weigh_31 : decode cX0_weigh 31 = .ok (.aload_n 3, 1) := by decide +kernel
theorem dX0_weigh_32 : decode cX0_weigh 32 = .ok (.aload 5, 2) := by decide +kernel
theorem dX0_weigh_34 : decode cX0_weigh 34 = .ok (.getfield 76, 3) := by decide +kernel
theorem dX0_weigh_37 : decode cX0_weigh 37 = .ok (.iaload, 1) := by decide +kernel
theorem dX0_weigh_38 : decode cX0_weigh 38 = .ok (.istore 6, 2) := by decide +kernel
theorem dX0_weigh_40 : decode cX0_weigh 40 = .ok (.iconst 0, 1) := by decide +kernel
theorem dX0_weigh_41 : decode cX0_weigh 41 = .ok (.istore 7, 2) := by decide +kernel
theorem dX0_weigh_43 : decode cX0_weigh 43 = .ok (.iload 7, 2) := by decide +kernel
theorem dX0_weigh_45 : decode cX0_weigh 45 = .ok (.sipush 244, 3) := by decide +kernel
theorem dX0_weigh_48 : decode cX0_weigh 48 = .ok (.if_icmp .ge 43, 3) := by decide +kernel
theorem dX0_weigh_51 : decode cX0_weigh 51 = .ok (.aload_n 0, 1) := by decide +kernel
theorem dX0_weigh_52 : decode cX0_weigh 52 = .ok (.getfield 40, 3) := by decide +kernel
theorem dX0_weigh_55 : decode cX0_weigh 55 = .ok (.iload 7, 2) := by decide +kernel
theorem dX0_weigh_57 : decode cX0_weigh 57 = .ok (.dup2, 1) := by decide +kernel
theorem dX0_weigh_58 : decode cX0_weigh 58 = .ok (.iaload, 1) := by decide +kernel
theorem dX0_weigh_59 : decode cX0_weigh 59 = .ok (.aload_n 0, 1) := by decide +kernel
theorem dX0_weigh_60 : decode cX0_weigh 60 = .ok (.getfield 46, 3) := by decide +kernel
theorem dX0_weigh_63 : decode cX0_weigh 63 = .ok (.iload 7, 2) := by decide +kernel
theorem dX0_weigh_65 : decode cX0_weigh 65 = .ok (.iload 6, 2) := by decide +kernel
theorem dX0_weigh_67 : decode cX0_weigh 67 = .ok (.aload 5, 2) := by decide +kernel
theorem dX0_weigh_69 : decode cX0_weigh 69 = .ok (.getfield 81, 3) := by decide +kernel
theorem dX0_weigh_72 : decode cX0_weigh 72 = .ok (.aload 5, 2) := by decide +kernel
theorem dX0_weigh_74 : decode cX0_weigh 74 = .ok (.getfield 84, 3) := by decide +kernel
theorem dX0_weigh_77 : decode cX0_weigh 77 = .ok (.invokevirtual 87, 3) := by decide +kernel
theorem dX0_weigh_80 : decode cX0_weigh 80 = .ok (.iload 4, 2) := by decide +kernel
theorem dX0_weigh_82 : decode cX0_weigh 82 = .ok (.ishl, 1) := by decide +kernel
theorem dX0_weigh_83 : decode cX0_weigh 83 = .ok (.ior, 1) := by decide +kernel
theorem dX0_weigh_84 : decode cX0_weigh 84 = .ok (.iastore, 1) := by decide +kernel
theorem dX0_weigh_85 : decode cX0_weigh 85 = .ok (.iinc 7 1, 3) := by decide +kernel
theorem dX0_weigh_88 : decode cX0_weigh 88 = .ok (.goto (-45), 3) := by decide +kernel
theorem dX0_weigh_91 : decode cX0_weigh 91 = .ok (.iinc 4 1, 3) := by decide +kernel
theorem dX0_weigh_94 : decode cX0_weigh 94 = .ok (.goto (-83), 3) := by decide +kernel
theorem dX0_weigh_97 : decode cX0_weigh 97 = .ok (.iconst 0, 1) := by decide +kernel
theorem dX0_weigh_98 : decode cX0_weigh 98 = .ok (.istore 4, 2) := by decide +kernel
theorem dX0_weigh_100 : decode cX0_weigh 100 = .ok (.iload 4, 2) := by decide +kernel
theorem dX0_weigh_102 : decode cX0_weigh 102 = .ok (.sipush 244, 3) := by decide +kernel
theorem dX0_weigh_105 : decode cX0_weigh 105 = .ok (.if_icmp .ge 63, 3) := by decide +kernel
theorem dX0_weigh_108 : decode cX0_weigh 108 = .ok (.aload_n 0, 1) := by decide +kernel
theorem dX0_weigh_109 : decode cX0_weigh 109 = .ok (.getfield 21, 3) := by decide +kernel
theorem dX0_weigh_112 : decode cX0_weigh 112 = .ok (.iload 4, 2) := by decide +kernel
theorem dX0_weigh_114 : decode cX0_weigh 114 = .ok (.aload_n 0, 1) := by decide +kernel
theorem dX0_weigh_115 : decode cX0_weigh 115 = .ok (.aload_n 0, 1) := by decide +kernel
theorem dX0_weigh_116 : decode cX0_weigh 116 = .ok (.getfield 40, 3) := by decide +kernel
theorem dX0_weigh_119 : decode cX0_weigh 119 = .ok (.iload 4, 2) := by decide +kernel
theorem dX0_weigh_121 : decode cX0_weigh 121 = .ok (.iaload, 1) := by decide +kernel
theorem dX0_weigh_122 : decode cX0_weigh 122 = .ok (.invokevirtual 93, 3) := by decide +kernel
theorem dX0_weigh_125 : decode cX0_weigh 125 = .ok (.iastore, 1) := by decide +kernel
theorem dX0_weigh_126 : decode cX0_weigh 126 = .ok (.iload 4, 2) := by decide +kernel
theorem dX0_weigh_128 : decode cX0_weigh 128 = .ok (.ifCond .eq 17, 3) := by decide +kernel
theorem dX0_weigh_131 : decode cX0_weigh 131 = .ok (.aload_n 0, 1) := by decide +kernel
theorem dX0_weigh_132 : decode cX0_weigh 132 = .ok (.getfield 21, 3) := by decide +kernel
theorem dX0_weigh_135 : decode cX0_weigh 135 = .ok (.iload 4, 2) := by decide +kernel
theorem dX0_weigh_137 : decode cX0_weigh 137 = .ok (.iaload, 1) := by decide +kernel
theorem dX0_weigh_138 : decode cX0_weigh 138 = .ok (.aload_n 0, 1) := by decide +kernel
theorem dX0_weigh_139 : decode cX0_weigh 139 = .ok (.getfield 25, 3) := by decide +kernel
theorem dX0_weigh_142 : decode cX0_weigh 142 = .ok (.if_icmp .ge 20, 3) := by decide +kernel
theorem dX0_weigh_145 : decode cX0_weigh 145 = .ok (.aload_n 0, 1) := by decide +kernel
theorem dX0_weigh_146 : decode cX0_weigh 146 = .ok (.aload_n 0, 1) := by decide +kernel
theorem dX0_weigh_147 : decode cX0_weigh 147 = .ok (.getfield 21, 3) := by decide +kernel
theorem dX0_weigh_150 : decode cX0_weigh 150 = .ok (.iload 4, 2) := by decide +kernel
theorem dX0_weigh_152 : decode cX0_weigh 152 = .ok (.iaload, 1) := by decide +kernel
theorem dX0_weigh_153 : decode cX0_weigh 153 = .ok (.putfield 25, 3) := by decide +kernel
theorem dX0_weigh_156 : decode cX0_weigh 156 = .ok (.aload_n 0, 1) := by decide +kernel
theorem dX0_weigh_157 : decode cX0_weigh 157 = .ok (.iload 4, 2) := by decide +kernel
theorem dX0_weigh_159 : decode cX0_weigh 159 = .ok (.putfield 31, 3) := by decide +kernel
theorem dX0_weigh_162 : decode cX0_weigh 162 = .ok (.iinc 4 1, 3) := by decide +kernel
theorem dX0_weigh_165 : decode cX0_weigh 165 = .ok (.goto (-65), 3) := by decide +kernel
theorem dX0_weigh_168 : decode cX0_weigh 168 = .ok (.aload_n 0, 1) := by decide +kernel
theorem dX0_weigh_169 : decode cX0_weigh 169 = .ok (.aload_n 0, 1) := by decide +kernel
theorem dX0_weigh_170 : decode cX0_weigh 170 = .ok (.getfield 25, 3) := by decide +kernel
theorem dX0_weigh_173 : decode cX0_weigh 173 = .ok (.putfield 28, 3) := by decide +kernel
theorem dX0_weigh_176 : decode cX0_weigh 176 = .ok (.aload_n 0, 1) := by decide +kernel
theorem dX0_weigh_177 : decode cX0_weigh 177 = .ok (.bipush (-9), 2) := by decide +kernel
theorem dX0_weigh_179 : decode cX0_weigh 179 = .ok (.putfield 34, 3) := by decide +kernel
theorem dX0_weigh_182 : decode cX0_weigh 182 = .ok (.return_, 1) := by decide +kernel
theorem dX0_takeTwoRules_0 : decode cX0_takeTwoRules 0 = .ok (.aload_n 0, 1) := by decide +kernel
theorem dX0_takeTwoRules_1 : decode cX0_takeTwoRules 1 = .ok (.getfield 18, 3) := by decide +kernel
theorem dX0_takeTwoRules_4 : decode cX0_takeTwoRules 4 = .ok (.aload_n 0, 1) := by decide +kernel
theorem dX0_takeTwoRules_5 : decode cX0_takeTwoRules 5 = .ok (.getfield 25, 3) := by decide +kernel
theorem dX0_takeTwoRules_8 : decode cX0_takeTwoRules 8 = .ok (.if_icmp .lt 4, 3) := by decide +kernel
theorem dX0_takeTwoRules_11 : decode cX0_takeTwoRules 11 = .ok (.return_, 1) := by decide +kernel
theorem dX0_takeTwoRules_12 : decode cX0_takeTwoRules 12 = .ok (.aload_n 0, 1) := by decide +kernel
theorem dX0_takeTwoRules_13 : decode cX0_takeTwoRules 13 = .ok (.invokevirtual 96, 3) := by decide +kernel
theorem dX0_takeTwoRules_16 : decode cX0_takeTwoRules 16 = .ok (.istore_n 1, 1) := by decide +kernel
theorem dX0_takeTwoRules_17 : decode cX0_takeTwoRules 17 = .ok (.iconst 0, 1) := by decide +kernel
theorem dX0_takeTwoRules_18 : decode cX0_takeTwoRules 18 = .ok (.istore_n 2, 1) := by decide +kernel
theorem dX0_takeTwoRules_19 : decode cX0_takeTwoRules 19 = .ok (.iload_n 2, 1) := by decide +kernel
theorem dX0_takeTwoRules_20 : decode cX0_takeTwoRules 20 = .ok (.iload_n 1, 1) := by decide +kernel
theorem dX0_takeTwoRules_21 : decode cX0_takeTwoRules 21 = .ok (.if_icmp .ge 100, 3) := by decide +kernel
theorem dX0_takeTwoRules_24 : decode cX0_takeTwoRules 24 = .ok (.iload_n 2, 1) := by decide +kernel
theorem dX0_takeTwoRules_25 : decode cX0_takeTwoRules 25 = .ok (.iconst 1, 1) := by decide +kernel
theorem dX0_takeTwoRules_26 : decode cX0_takeTwoRules 26 = .ok (.iadd, 1) := by decide +kernel
theorem dX0_takeTwoRules_27 : decode cX0_takeTwoRules 27 = .ok (.istore_n 3, 1) := by decide +kernel
theorem dX0_takeTwoRules_28 : decode cX0_takeTwoRules 28 = .ok (.iload_n 3, 1) := by decide +kernel
theorem dX0_takeTwoRules_29 : decode cX0_takeTwoRules 29 = .ok (.iload_n 1, 1) := by decide +kernel
theorem dX0_takeTwoRules_30 : decode cX0_takeTwoRules 30 = .ok (.if_icmp .ge 85, 3) := by decide +kernel
theorem dX0_takeTwoRules_33 : decode cX0_takeTwoRules 33 = .ok (.aload_n 0, 1) := by decide +kernel
theorem dX0_takeTwoRules_34 : decode cX0_takeTwoRules 34 = .ok (.getfield 40, 3) := by decide +kernel
theorem dX0_takeTwoRules_37 : decode cX0_takeTwoRules 37 = .ok (.aload_n 0, 1) := by decide +kernel
theorem dX0_takeTwoRules_38 : decode cX0_takeTwoRules 38 = .ok (.getfield 43, 3) := by decide +kernel
theorem dX0_takeTwoRules_41 : decode cX0_takeTwoRules 41 = .ok (.iload_n 2, 1) := by decide +kernel
theorem dX0_takeTwoRules_42 : decode cX0_takeTwoRules 42 = .ok (.iaload, 1) := by decide +kernel
theorem dX0_takeTwoRules_43 : decode cX0_takeTwoRules 43 = .ok (.iaload, 1) := by decide +kernel
theorem dX0_takeTwoRules_44 : decode cX0_takeTwoRules 44 = .ok (.aload_n 0, 1) := by decide +kernel
theorem dX0_takeTwoRules_45 : decode cX0_takeTwoRules 45 = .ok (.getfield 40, 3) := by decide +kernel
theorem dX0_takeTwoRules_48 : decode cX0_takeTwoRules 48 = .ok (.aload_n 0, 1) := by decide +kernel
theorem dX0_takeTwoRules_49 : decode cX0_takeTwoRules 49 = .ok (.getfield 43, 3) := by decide +kernel
theorem dX0_takeTwoRules_52 : decode cX0_takeTwoRules 52 = .ok (.iload_n 3, 1) := by decide +kernel
theorem dX0_takeTwoRules_53 : decode cX0_takeTwoRules 53 = .ok (.iaload, 1) := by decide +kernel
theorem dX0_takeTwoRules_54 : decode cX0_takeTwoRules 54 = .ok (.iaload, 1) := by decide +kernel
theorem dX0_takeTwoRules_55 : decode cX0_takeTwoRules 55 = .ok (.iand, 1) := by decide +kernel
theorem dX0_takeTwoRules_56 : decode cX0_takeTwoRules 56 = .ok (.istore 4, 2) := by decide +kernel
theorem dX0_takeTwoRules_58 : decode cX0_takeTwoRules 58 = .ok (.aload_n 0, 1) := by decide +kernel
theorem dX0_takeTwoRules_59 : decode cX0_takeTwoRules 59 = .ok (.getfield 18, 3) := by decide +kernel
theorem dX0_takeTwoRules_62 : decode cX0_takeTwoRules 62 = .ok (.aload_n 0, 1) := by decide +kernel
theorem dX0_takeTwoRules_63 : decode cX0_takeTwoRules 63 = .ok (.iload 4, 2) := by decide +kernel
theorem dX0_takeTwoRules_65 : decode cX0_takeTwoRules 65 = .ok (.invokevirtual 93, 3) := by decide +kernel
theorem dX0_takeTwoRules_68 : decode cX0_takeTwoRules 68 = .ok (.iadd, 1) := by decide +kernel
theorem dX0_takeTwoRules_69 : decode cX0_takeTwoRules 69 = .ok (.istore 5, 2) := by decide +kernel
theorem dX0_takeTwoRules_71 : decode cX0_takeTwoRules 71 = .ok (.iload 5, 2) := by decide +kernel
theorem dX0_takeTwoRules_73 : decode cX0_takeTwoRules 73 = .ok (.aload_n 0, 1) := by decide +kernel
theorem dX0_takeTwoRules_74 : decode cX0_takeTwoRules 74 = .ok (.getfield 28, 3) := by decide +kernel
theorem dX0_takeTwoRules_77 : decode cX0_takeTwoRules 77 = .ok (.if_icmp .lt 6, 3) := by decide +kernel
theorem dX0_takeTwoRules_80 : decode cX0_takeTwoRules 80 = .ok (.goto 29, 3) := by decide +kernel
theorem dX0_takeTwoRules_83 : decode cX0_takeTwoRules 83 = .ok (.aload_n 0, 1) := by decide +kernel
theorem dX0_takeTwoRules_84 : decode cX0_takeTwoRules 84 = .ok (.iload 5, 2) := by decide +kernel
theorem dX0_takeTwoRules_86 : decode cX0_takeTwoRules 86 = .ok (.putfield 28, 3) := by decide +kernel
theorem dX0_takeTwoRules_89 : decode cX0_takeTwoRules 89 = .ok (.aload_n 0, 1) := by decide +kernel
theorem dX0_takeTwoRules_90 : decode cX0_takeTwoRules 90 = .ok (.aload_n 0, 1) := by decide +kernel
theorem dX0_takeTwoRules_91 : decode cX0_takeTwoRules 91 = .ok (.getfield 43, 3) := by decide +kernel
theorem dX0_takeTwoRules_94 : decode cX0_takeTwoRules 94 = .ok (.iload_n 2, 1) := by decide +kernel
theorem dX0_takeTwoRules_95 : decode cX0_takeTwoRules 95 = .ok (.iaload, 1) := by decide +kernel
theorem dX0_takeTwoRules_96 : decode cX0_takeTwoRules 96 = .ok (.putfield 31, 3) := by decide +kernel
theorem dX0_takeTwoRules_99 : decode cX0_takeTwoRules 99 = .ok (.aload_n 0, 1) := by decide +kernel
theorem dX0_takeTwoRules_100 : decode cX0_takeTwoRules 100 = .ok (.aload_n 0, 1) := by decide +kernel
theorem dX0_takeTwoRules_101 : decode cX0_takeTwoRules 101 = .ok (.getfield 43, 3) := by decide +kernel
theorem dX0_takeTwoRules_104 : decode cX0_takeTwoRules 104 = .ok (.iload_n 3, 1) := by decide +kernel
theorem dX0_takeTwoRules_105 : decode cX0_takeTwoRules 105 = .ok (.iaload, 1) := by decide +kernel
theorem dX0_takeTwoRules_106 : decode cX0_takeTwoRules 106 = .ok (.putfield 34, 3) := by decide +kernel
theorem dX0_takeTwoRules_109 : decode cX0_takeTwoRules 109 = .ok (.iinc 3 1, 3) := by decide +kernel
theorem dX0_takeTwoRules_112 : decode cX0_takeTwoRules 112 = .ok (.goto (-84), 3) := by decide +kernel
theorem dX0_takeTwoRules_115 : decode cX0_takeTwoRules 115 = .ok (.iinc 2 1, 3) := by decide +kernel
theorem dX0_takeTwoRules_118 : decode cX0_takeTwoRules 118 = .ok (.goto (-99), 3) := by decide +kernel
theorem dX0_takeTwoRules_121 : decode cX0_takeTwoRules 121 = .ok (.return_, 1) := by decide +kernel
theorem dX0_gatherCandidates_0 : decode cX0_gatherCandidates 0 = .ok (.iconst 0, 1) := by decide +kernel
theorem dX0_gatherCandidates_1 : decode cX0_gatherCandidates 1 = .ok (.istore_n 1, 1) := by decide +kernel
theorem dX0_gatherCandidates_2 : decode cX0_gatherCandidates 2 = .ok (.iconst 0, 1) := by decide +kernel
theorem dX0_gatherCandidates_3 : decode cX0_gatherCandidates 3 = .ok (.istore_n 2, 1) := by decide +kernel
theorem dX0_gatherCandidates_4 : decode cX0_gatherCandidates 4 = .ok (.iload_n 2, 1) := by decide +kernel
theorem dX0_gatherCandidates_5 : decode cX0_gatherCandidates 5 = .ok (.sipush 244, 3) := by decide +kernel
theorem dX0_gatherCandidates_8 : decode cX0_gatherCandidates 8 = .ok (.if_icmp .ge 81, 3) := by decide +kernel
theorem dX0_gatherCandidates_11 : decode cX0_gatherCandidates 11 = .ok (.iconst 0, 1) := by decide +kernel
theorem dX0_gatherCandidates_12 : decode cX0_gatherCandidates 12 = .ok (.istore_n 3, 1) := by decide +kernel
theorem dX0_gatherCandidates_13 : decode cX0_gatherCandidates 13 = .ok (.iconst 0, 1) := by decide +kernel
theorem dX0_gatherCandidates_14 : decode cX0_gatherCandidates 14 = .ok (.istore 4, 2) := by decide +kernel
theorem dX0_gatherCandidates_16 : decode cX0_gatherCandidates 16 = .ok (.iload 4, 2) := by decide +kernel
theorem dX0_gatherCandidates_18 : decode cX0_gatherCandidates 18 = .ok (.iload_n 1, 1) := by decide +kernel
theorem dX0_gatherCandidates_19 : decode cX0_gatherCandidates 19 = .ok (.if_icmp .ge 47, 3) := by decide +kernel
theorem dX0_gatherCandidates_22 : decode cX0_gatherCandidates 22 = .ok (.iload_n 3, 1) := by decide +kernel
theorem dX0_gatherCandidates_23 : decode cX0_gatherCandidates 23 = .ok (.ifCond .ne 43, 3) := by decide +kernel
theorem dX0_gatherCandidates_26 : decode cX0_gatherCandidates 26 = .ok (.aload_n 0, 1) := by decide +kernel
theorem dX0_gatherCandidates_27 : decode cX0_gatherCandidates 27 = .ok (.getfield 40, 3) := by decide +kernel
theorem dX0_gatherCandidates_30 : decode cX0_gatherCandidates 30 = .ok (.aload_n 0, 1) := by decide +kernel
theorem dX0_gatherCandidates_31 : decode cX0_gatherCandidates 31 = .ok (.getfield 43, 3) := by decide +kernel
theorem dX0_gatherCandidates_34 : decode cX0_gatherCandidates 34 = .ok (.iload 4, 2) := by decide +kernel
theorem dX0_gatherCandidates_36 : decode cX0_gatherCandidates 36 = .ok (.iaload, 1) := by decide +kernel
theorem dX0_gatherCandidates_37 : decode cX0_gatherCandidates 37 = .ok (.iaload, 1) := by decide +kernel
theorem dX0_gatherCandidates_38 : decode cX0_gatherCandidates 38 = .ok (.istore 5, 2) := by decide +kernel
theorem dX0_gatherCandidates_40 : decode cX0_gatherCandidates 40 = .ok (.iload 5, 2) := by decide +kernel
theorem dX0_gatherCandidates_42 : decode cX0_gatherCandidates 42 = .ok (.aload_n 0, 1) := by decide +kernel
theorem dX0_gatherCandidates_43 : decode cX0_gatherCandidates 43 = .ok (.getfield 40, 3) := by decide +kernel
theorem dX0_gatherCandidates_46 : decode cX0_gatherCandidates 46 = .ok (.iload_n 2, 1) := by decide +kernel
theorem dX0_gatherCandidates_47 : decode cX0_gatherCandidates 47 = .ok (.iaload, 1) := by decide +kernel
theorem dX0_gatherCandidates_48 : decode cX0_gatherCandidates 48 = .ok (.iand, 1) := by decide +kernel
theorem dX0_gatherCandidates_49 : decode cX0_gatherCandidates 49 = .ok (.iload 5, 2) := by decide +kernel
theorem dX0_gatherCandidates_51 : decode cX0_gatherCandidates 51 = .ok (.if_icmp .ne 7, 3) := by decide +kernel
theorem dX0_gatherCandidates_54 : decode cX0_gatherCandidates 54 = .ok (.iconst 1, 1) := by decide +kernel
theorem dX0_gatherCandidates_55 : decode cX0_gatherCandidates 55 = .ok (.goto 4, 3) := by decide +kernel
theorem dX0_gatherCandidates_58 : decode cX0_gatherCandidates 58 = .ok (.iconst 0, 1) := by decide +kernel
theorem dX0_gatherCandidates_59 : decode cX0_gatherCandidates 59 = .ok (.istore_n 3, 1) := by decide +kernel
theorem dX0_gatherCandidates_60 : decode cX0_gatherCandidates 60 = .ok (.iinc 4 1, 3) := by decide +kernel
theorem dX0_gatherCandidates_63 : decode cX0_gatherCandidates 63 = .ok (.goto (-47), 3) := by decide +kernel
theorem dX0_gatherCandidates_66 : decode cX0_gatherCandidates 66 = .ok (.iload_n 3, 1) := by decide +kernel
theorem dX0_gatherCandidates_67 : decode cX0_gatherCandidates 67 = .ok (.ifCond .eq 6, 3) := by decide +kernel
theorem dX0_gatherCandidates_70 : decode cX0_gatherCandidates 70 = .ok (.goto 13, 3) := by decide +kernel
theorem dX0_gatherCandidates_73 : decode cX0_gatherCandidates 73 = .ok (.aload_n 0, 1) := by decide +kernel
theorem dX0_gatherCandidates_74 : decode cX0_gatherCandidates 74 = .ok (.getfield 43, 3) := by decide +kernel
theorem dX0_gatherCandidates_77 : decode cX0_gatherCandidates 77 = .ok (.iload_n 1, 1) := by decide +kernel
theorem dX0_gatherCandidates_78 : decode cX0_gatherCandidates 78 = .ok (.iload_n 2, 1) := by decide +kernel
theorem dX0_gatherCandidates_79 : decode cX0_gatherCandidates 79 = .ok (.iastore, 1) := by decide +kernel
theorem dX0_gatherCandidates_80 : decode cX0_gatherCandidates 80 = .ok (.iinc 1 1, 3) := by decide +kernel
theorem dX0_gatherCandidates_83 : decode cX0_gatherCandidates 83 = .ok (.iinc 2 1, 3) := by decide +kernel
theorem dX0_gatherCandidates_86 : decode cX0_gatherCandidates 86 = .ok (.goto (-82), 3) := by decide +kernel
theorem dX0_gatherCandidates_89 : decode cX0_gatherCandidates 89 = .ok (.iload_n 1, 1) := by decide +kernel
theorem dX0_gatherCandidates_90 : decode cX0_gatherCandidates 90 = .ok (.ireturn, 1) := by decide +kernel
theorem dX0_firstChange_0 : decode cX0_firstChange 0 = .ok (.aload_n 0, 1) := by decide +kernel
theorem dX0_firstChange_1 : decode cX0_firstChange 1 = .ok (.getfield 25, 3) := by decide +kernel
theorem dX0_firstChange_4 : decode cX0_firstChange 4 = .ok (.istore_n 3, 1) := by decide +kernel
theorem dX0_firstChange_5 : decode cX0_firstChange 5 = .ok (.aload_n 1, 1) := by decide +kernel
theorem dX0_firstChange_6 : decode cX0_firstChange 6 = .ok (.getfield 100, 3) := by decide +kernel
theorem dX0_firstChange_9 : decode cX0_firstChange 9 = .ok (.istore 4, 2) := by decide +kernel
theorem dX0_firstChange_11 : decode cX0_firstChange 11 = .ok (.iconst 0, 1) := by decide +kernel
theorem dX0_firstChange_12 : decode cX0_firstChange 12 = .ok (.istore 5, 2) := by decide +kernel
theorem dX0_firstChange_14 : decode cX0_firstChange 14 = .ok (.iload 5, 2) := by decide +kernel
theorem dX0_firstChange_16 : decode cX0_firstChange 16 = .ok (.aload_n 1, 1) := by decide +kernel
theorem dX0_firstChange_17 : decode cX0_firstChange 17 = .ok (.getfield 68, 3) := by decide +kernel
theorem dX0_firstChange_20 : decode cX0_firstChange 20 = .ok (.if_icmp .ge 77, 3) := by decide +kernel
theorem dX0_firstChange_23 : decode cX0_firstChange 23 = .ok (.aload_n 2, 1) := by decide +kernel
theorem dX0_firstChange_24 : decode cX0_firstChange 24 = .ok (.aload_n 1, 1) := by decide +kernel
theorem dX0_firstChange_25 : decode cX0_firstChange 25 = .ok (.getfield 73, 3) := by decide +kernel
theorem dX0_firstChange_28 : decode cX0_firstChange 28 = .ok (.iload 5, 2) := by decide +kernel
theorem dX0_firstChange_30 : decode cX0_firstChange 30 = .ok (.iaload, 1) := by decide +kernel
theorem dX0_firstChange_31 : decode cX0_firstChange 31 = .ok (.aaload, 1) := by decide +kernel
theorem dX0_firstChange_32 : decode cX0_firstChange 32 = .ok (.getfield 103, 3) := by decide +kernel
theorem dX0_firstChange_35 : decode cX0_firstChange 35 = .ok (.iconst 1, 1) := by decide +kernel
theorem dX0_firstChange_36 : decode cX0_firstChange 36 = .ok (.iadd, 1) := by decide +kernel
theorem dX0_firstChange_37 : decode cX0_firstChange 37 = .ok (.istore 6, 2) := by decide +kernel
theorem dX0_firstChange_39 : decode cX0_firstChange 39 = .ok (.iload 6, 2) := by decide +kernel
theorem dX0_firstChange_41 : decode cX0_firstChange 41 = .ok (.aload_n 1, 1) := by decide +kernel
theorem dX0_firstChange_42 : decode cX0_firstChange 42 = .ok (.getfield 106, 3) := by decide +kernel
theorem dX0_firstChange_45 : decode cX0_firstChange 45 = .ok (.if_icmp .le 6, 3) := by decide +kernel
theorem dX0_firstChange_48 : decode cX0_firstChange 48 = .ok (.goto 43, 3) := by decide +kernel
theorem dX0_firstChange_51 : decode cX0_firstChange 51 = .ok (.aload_n 0, 1) := by decide +kernel
theorem dX0_firstChange_52 : decode cX0_firstChange 52 = .ok (.aload_n 0, 1) := by decide +kernel
theorem dX0_firstChange_53 : decode cX0_firstChange 53 = .ok (.iload 6, 2) := by decide +kernel
theorem dX0_firstChange_55 : decode cX0_firstChange 55 = .ok (.aload_n 1, 1) := by decide +kernel
theorem dX0_firstChange_56 : decode cX0_firstChange 56 = .ok (.aload_n 2, 1) := by decide +kernel
theorem dX0_firstChange_57 : decode cX0_firstChange 57 = .ok (.invokevirtual 109, 3) := by decide +kernel
theorem dX0_firstChange_60 : decode cX0_firstChange 60 = .ok (.invokevirtual 113, 3) := by decide +kernel
theorem dX0_firstChange_63 : decode cX0_firstChange 63 = .ok (.istore 7, 2) := by decide +kernel
theorem dX0_firstChange_65 : decode cX0_firstChange 65 = .ok (.iload 7, 2) := by decide +kernel
theorem dX0_firstChange_67 : decode cX0_firstChange 67 = .ok (.iload_n 3, 1) := by decide +kernel
theorem dX0_firstChange_68 : decode cX0_firstChange 68 = .ok (.if_icmp .lt 16, 3) := by decide +kernel
theorem dX0_firstChange_71 : decode cX0_firstChange 71 = .ok (.iload 7, 2) := by decide +kernel
theorem dX0_firstChange_73 : decode cX0_firstChange 73 = .ok (.iload_n 3, 1) := by decide +kernel
theorem dX0_firstChange_74 : decode cX0_firstChange 74 = .ok (.if_icmp .ne 17, 3) := by decide +kernel
theorem dX0_firstChange_77 : decode cX0_firstChange 77 = .ok (.iload 6, 2) := by decide +kernel
theorem dX0_firstChange_79 : decode cX0_firstChange 79 = .ok (.iload 4, 2) := by decide +kernel
theorem dX0_firstChange_81 : decode cX0_firstChange 81 = .ok (.if_icmp .ge 10, 3) := by decide +kernel
theorem dX0_firstChange_84 : decode cX0_firstChange 84 = .ok (.iload 7, 2) := by decide +kernel
theorem dX0_firstChange_86 : decode cX0_firstChange 86 = .ok (.istore_n 3, 1) := by decide +kernel
theorem dX0_firstChange_87 : decode cX0_firstChange 87 = .ok (.iload 6, 2) := by decide +kernel
theorem dX0_firstChange_89 : decode cX0_firstChange 89 = .ok (.istore 4, 2) := by decide +kernel
theorem dX0_firstChange_91 : decode cX0_firstChange 91 = .ok (.iinc 5 1, 3) := by decide +kernel
theorem dX0_firstChange_94 : decode cX0_firstChange 94 = .ok (.goto (-80), 3) := by decide +kernel
theorem dX0_firstChange_97 : decode cX0_firstChange 97 = .ok (.aload_n 0, 1) := by decide +kernel
theorem dX0_firstChange_98 : decode cX0_firstChange 98 = .ok (.aload_n 0, 1) := by decide +kernel
theorem dX0_firstChange_99 : decode cX0_firstChange 99 = .ok (.getfield 25, 3) := by decide +kernel
theorem dX0_firstChange_102 : decode cX0_firstChange 102 = .ok (.iload_n 3, 1) := by decide +kernel
theorem dX0_firstChange_103 : decode cX0_firstChange 103 = .ok (.isub, 1) := by decide +kernel
theorem dX0_firstChange_104 : decode cX0_firstChange 104 = .ok (.putfield 37, 3) := by decide +kernel
theorem dX0_firstChange_107 : decode cX0_firstChange 107 = .ok (.iload 4, 2) := by decide +kernel
theorem dX0_firstChange_109 : decode cX0_firstChange 109 = .ok (.ireturn, 1) := by decide +kernel
theorem dX0_sayingsAhead_0 : decode cX0_sayingsAhead 0 = .ok (.iconst 0, 1) := by decide +kernel
theorem dX0_sayingsAhead_1 : decode cX0_sayingsAhead 1 = .ok (.istore 4, 2) := by decide +kernel
theorem dX0_sayingsAhead_3 : decode cX0_sayingsAhead 3 = .ok (.iconst 0, 1) := by decide +kernel
theorem dX0_sayingsAhead_4 : decode cX0_sayingsAhead 4 = .ok (.istore 5, 2) := by decide +kernel
theorem dX0_sayingsAhead_6 : decode cX0_sayingsAhead 6 = .ok (.iload 5, 2) := by decide +kernel
theorem dX0_sayingsAhead_8 : decode cX0_sayingsAhead 8 = .ok (.aload_n 2, 1) := by decide +kernel
theorem dX0_sayingsAhead_9 : decode cX0_sayingsAhead 9 = .ok (.getfield 68, 3) := by decide +kernel
theorem dX0_sayingsAhead_12 : decode cX0_sayingsAhead 12 = .ok (.if_icmp .ge 36, 3) := by decide +kernel
theorem dX0_sayingsAhead_15 : decode cX0_sayingsAhead 15 = .ok (.aload_n 3, 1) := by decide +kernel
theorem dX0_sayingsAhead_16 : decode cX0_sayingsAhead 16 = .ok (.aload_n 2, 1) := by decide +kernel
theorem dX0_sayingsAhead_17 : decode cX0_sayingsAhead 17 = .ok (.getfield 73, 3) := by decide +kernel
theorem dX0_sayingsAhead_20 : decode cX0_sayingsAhead 20 = .ok (.iload 5, 2) := by decide +kernel
theorem dX0_sayingsAhead_22 : decode cX0_sayingsAhead 22 = .ok (.iaload, 1) := by decide +kernel
theorem dX0_sayingsAhead_23 : decode cX0_sayingsAhead 23 = .ok (.aaload, 1) := by decide +kernel
theorem dX0_sayingsAhead_24 : decode cX0_sayingsAhead 24 = .ok (.getfield 103, 3) := by decide +kernel
theorem dX0_sayingsAhead_27 : decode cX0_sayingsAhead 27 = .ok (.iload_n 1, 1) := by decide +kernel
theorem dX0_sayingsAhead_28 : decode cX0_sayingsAhead 28 = .ok (.if_icmp .ge 14, 3) := by decide +kernel
theorem dX0_sayingsAhead_31 : decode cX0_sayingsAhead 31 = .ok (.iload 4, 2) := by decide +kernel
theorem dX0_sayingsAhead_33 : decode cX0_sayingsAhead 33 = .ok (.sipush 513, 3) := by decide +kernel
theorem dX0_sayingsAhead_36 : decode cX0_sayingsAhead 36 = .ok (.iload 5, 2) := by decide +kernel
theorem dX0_sayingsAhead_38 : decode cX0_sayingsAhead 38 = .ok (.ishl, 1) := by decide +kernel
theorem dX0_sayingsAhead_39 : decode cX0_sayingsAhead 39 = .ok (.ior, 1) := by decide +kernel
theorem dX0_sayingsAhead_40 : decode cX0_sayingsAhead 40 = .ok (.istore 4, 2) := by decide +kernel
theorem dX0_sayingsAhead_42 : decode cX0_sayingsAhead 42 = .ok (.iinc 5 1, 3) := by decide +kernel
theorem dX0_sayingsAhead_45 : decode cX0_sayingsAhead 45 = .ok (.goto (-39), 3) := by decide +kernel
theorem dX0_sayingsAhead_48 : decode cX0_sayingsAhead 48 = .ok (.iload 4, 2) := by decide +kernel
theorem dX0_sayingsAhead_50 : decode cX0_sayingsAhead 50 = .ok (.ireturn, 1) := by decide +kernel
theorem dX0_costParted_0 : decode cX0_costParted 0 = .ok (.aload_n 0, 1) := by decide +kernel
theorem dX0_costParted_1 : decode cX0_costParted 1 = .ok (.aload_n 0, 1) := by decide +kernel
theorem dX0_costParted_2 : decode cX0_costParted 2 = .ok (.getfield 40, 3) := by decide +kernel
theorem dX0_costParted_5 : decode cX0_costParted 5 = .ok (.iconst 0, 1) := by decide +kernel
theorem dX0_costParted_6 : decode cX0_costParted 6 = .ok (.iaload, 1) := by decide +kernel
theorem dX0_costParted_7 : decode cX0_costParted 7 = .ok (.iload_n 1, 1) := by decide +kernel
theorem dX0_costParted_8 : decode cX0_costParted 8 = .ok (.iand, 1) := by decide +kernel
theorem dX0_costParted_9 : decode cX0_costParted 9 = .ok (.invokevirtual 93, 3) := by decide +kernel
theorem dX0_costParted_12 : decode cX0_costParted 12 = .ok (.istore_n 2, 1) := by decide +kernel
theorem dX0_costParted_13 : decode cX0_costParted 13 = .ok (.aload_n 0, 1) := by decide +kernel
theorem dX0_costParted_14 : decode cX0_costParted 14 = .ok (.aload_n 0, 1) := by decide +kernel
theorem dX0_costParted_15 : decode cX0_costParted 15 = .ok (.getfield 40, 3) := by decide +kernel
theorem dX0_costParted_18 : decode cX0_costParted 18 = .ok (.iconst 0, 1) := by decide +kernel
theorem dX0_costParted_19 : decode cX0_costParted 19 = .ok (.iaload, 1) := by decide +kernel
theorem dX0_costParted_20 : decode cX0_costParted 20 = .ok (.iload_n 1, 1) := by decide +kernel
theorem dX0_costParted_21 : decode cX0_costParted 21 = .ok (.iconst (-1), 1) := by decide +kernel
theorem dX0_costParted_22 : decode cX0_costParted 22 = .ok (.ixor, 1) := by decide +kernel
theorem dX0_costParted_23 : decode cX0_costParted 23 = .ok (.iand, 1) := by decide +kernel
theorem dX0_costParted_24 : decode cX0_costParted 24 = .ok (.invokevirtual 93, 3) := by decide +kernel
theorem dX0_costParted_27 : decode cX0_costParted 27 = .ok (.istore_n 3, 1) := by decide +kernel
theorem dX0_costParted_28 : decode cX0_costParted 28 = .ok (.iconst 1, 1) := by decide +kernel
theorem dX0_costParted_29 : decode cX0_costParted 29 = .ok (.istore 4, 2) := by decide +kernel
theorem dX0_costParted_31 : decode cX0_costParted 31 = .ok (.iload 4, 2) := by decide +kernel
theorem dX0_costParted_33 : decode cX0_costParted 33 = .ok (.sipush 244, 3) := by decide +kernel
theorem dX0_costParted_36 : decode cX0_costParted 36 = .ok (.if_icmp .ge 47, 3) := by decide +kernel
theorem dX0_costParted_39 : decode cX0_costParted 39 = .ok (.iload_n 2, 1) := by decide +kernel
theorem dX0_costParted_40 : decode cX0_costParted 40 = .ok (.aload_n 0, 1) := by decide +kernel
theorem dX0_costParted_41 : decode cX0_costParted 41 = .ok (.aload_n 0, 1) := by decide +kernel
theorem dX0_costParted_42 : decode cX0_costParted 42 = .ok (.getfield 40, 3) := by decide +kernel
theorem dX0_costParted_45 : decode cX0_costParted 45 = .ok (.iload 4, 2) := by decide +kernel
theorem dX0_costParted_47 : decode cX0_costParted 47 = .ok (.iaload, 1) := by decide +kernel
theorem dX0_costParted_48 : decode cX0_costParted 48 = .ok (.iload_n 1, 1) := by decide +kernel
theorem dX0_costParted_49 : decode cX0_costParted 49 = .ok (.iand, 1) := by decide +kernel
theorem dX0_costParted_50 : decode cX0_costParted 50 = .ok (.invokevirtual 93, 3) := by decide +kernel
theorem dX0_costParted_53 : decode cX0_costParted 53 = .ok (.invokestatic 50, 3) := by decide +kernel
theorem dX0_costParted_56 : decode cX0_costParted 56 = .ok (.istore_n 2, 1) := by decide +kernel
theorem dX0_costParted_57 : decode cX0_costParted 57 = .ok (.iload_n 3, 1) := by decide +kernel
theorem dX0_costParted_58 : decode cX0_costParted 58 = .ok (.aload_n 0, 1) := by decide +kernel
theorem dX0_costParted_59 : decode cX0_costParted 59 = .ok (.aload_n 0, 1) := by decide +kernel
theorem dX0_costParted_60 : decode cX0_costParted 60 = .ok (.getfield 40, 3) := by decide +kernel
theorem dX0_costParted_63 : decode cX0_costParted 63 = .ok (.iload 4, 2) := by decide +kernel
theorem dX0_costParted_65 : decode cX0_costParted 65 = .ok (.iaload, 1) := by decide +kernel
theorem dX0_costParted_66 : decode cX0_costParted 66 = .ok (.iload_n 1, 1) := by decide +kernel
theorem dX0_costParted_67 : decode cX0_costParted 67 = .ok (.iconst (-1), 1) := by decide +kernel
theorem dX0_costParted_68 : decode cX0_costParted 68 = .ok (.ixor, 1) := by decide +kernel
theorem dX0_costParted_69 : decode cX0_costParted 69 = .ok (.iand, 1) := by decide +kernel
theorem dX0_costParted_70 : decode cX0_costParted 70 = .ok (.invokevirtual 93, 3) := by decide +kernel
theorem dX0_costParted_73 : decode cX0_costParted 73 = .ok (.invokestatic 50, 3) := by decide +kernel
theorem dX0_costParted_76 : decode cX0_costParted 76 = .ok (.istore_n 3, 1) := by decide +kernel
theorem dX0_costParted_77 : decode cX0_costParted 77 = .ok (.iinc 4 1, 3) := by decide +kernel
theorem dX0_costParted_80 : decode cX0_costParted 80 = .ok (.goto (-49), 3) := by decide +kernel
theorem dX0_costParted_83 : decode cX0_costParted 83 = .ok (.iload_n 2, 1) := by decide +kernel
theorem dX0_costParted_84 : decode cX0_costParted 84 = .ok (.iload_n 3, 1) := by decide +kernel
theorem dX0_costParted_85 : decode cX0_costParted 85 = .ok (.iadd, 1) := by decide +kernel
theorem dX0_costParted_86 : decode cX0_costParted 86 = .ok (.ireturn, 1) := by decide +kernel
theorem dX1_init_0 : decode cX1_init 0 = .ok (.aload_n 0, 1) := by decide +kernel
theorem dX1_init_1 : decode cX1_init 1 = .ok (.invokespecial 3, 3) := by decide +kernel
theorem dX1_init_4 : decode cX1_init 4 = .ok (.aload_n 0, 1) := by decide +kernel
theorem dX1_init_5 : decode cX1_init 5 = .ok (.new 9, 3) := by decide +kernel
theorem dX1_init_8 : decode cX1_init 8 = .ok (.dup, 1) := by decide +kernel
theorem dX1_init_9 : decode cX1_init 9 = .ok (.invokespecial 11, 3) := by decide +kernel
theorem dX1_init_12 : decode cX1_init 12 = .ok (.putfield 12, 3) := by decide +kernel
theorem dX1_init_15 : decode cX1_init 15 = .ok (.aload_n 0, 1) := by decide +kernel
theorem dX1_init_16 : decode cX1_init 16 = .ok (.new 18, 3) := by decide +kernel
theorem dX1_init_19 : decode cX1_init 19 = .ok (.dup, 1) := by decide +kernel
theorem dX1_init_20 : decode cX1_init 20 = .ok (.aload_n 0, 1) := by decide +kernel
theorem dX1_init_21 : decode cX1_init 21 = .ok (.getfield 12, 3) := by decide +kernel
theorem dX1_init_24 : decode cX1_init 24 = .ok (.invokespecial 20, 3) := by decide +kernel
theorem dX1_init_27 : decode cX1_init 27 = .ok (.putfield 23, 3) := by decide +kernel
theorem dX1_init_30 : decode cX1_init 30 = .ok (.aload_n 0, 1) := by decide +kernel
theorem dX1_init_31 : decode cX1_init 31 = .ok (.bipush 12, 2) := by decide +kernel
theorem dX1_init_33 : decode cX1_init 33 = .ok (.newarray .int, 2) := by decide +kernel
theorem dX1_init_35 : decode cX1_init 35 = .ok (.putfield 27, 3) := by decide +kernel
theorem dX1_init_38 : decode cX1_init 38 = .ok (.aload_n 0, 1) := by decide +kernel
theorem dX1_init_39 : decode cX1_init 39 = .ok (.iconst 0, 1) := by decide +kernel
theorem dX1_init_40 : decode cX1_init 40 = .ok (.putfield 31, 3) := by decide +kernel
theorem dX1_init_43 : decode cX1_init 43 = .ok (.aload_n 0, 1) := by decide +kernel
theorem dX1_init_44 : decode cX1_init 44 = .ok (.bipush 8, 2) := by decide +kernel
theorem dX1_init_46 : decode cX1_init 46 = .ok (.anewarray 35, 3) := by decide +kernel
theorem dX1_init_49 : decode cX1_init 49 = .ok (.putfield 37, 3) := by decide +kernel
theorem dX1_init_52 : decode cX1_init 52 = .ok (.aload_n 0, 1) := by decide +kernel
theorem dX1_init_53 : decode cX1_init 53 = .ok (.iconst 0, 1) := by decide +kernel
theorem dX1_init_54 : decode cX1_init 54 = .ok (.putfield 41, 3) := by decide +kernel
theorem dX1_init_57 : decode cX1_init 57 = .ok (.aload_n 0, 1) := by decide +kernel
theorem dX1_init_58 : decode cX1_init 58 = .ok (.bipush 24, 2) := by decide +kernel
theorem dX1_init_60 : decode cX1_init 60 = .ok (.anewarray 44, 3) := by decide +kernel
theorem dX1_init_63 : decode cX1_init 63 = .ok (.putfield 46, 3) := by decide +kernel
theorem dX1_init_66 : decode cX1_init 66 = .ok (.aload_n 0, 1) := by decide +kernel
theorem dX1_init_67 : decode cX1_init 67 = .ok (.iconst 0, 1) := by decide +kernel
theorem dX1_init_68 : decode cX1_init 68 = .ok (.putfield 50, 3) := by decide +kernel
theorem dX1_init_71 : decode cX1_init 71 = .ok (.iconst 0, 1) := by decide +kernel
theorem dX1_init_72 : decode cX1_init 72 = .ok (.istore_n 1, 1) := by decide +kernel
theorem dX1_init_73 : decode cX1_init 73 = .ok (.iload_n 1, 1) := by decide +kernel
theorem dX1_init_74 : decode cX1_init 74 = .ok (.bipush 8, 2) := by decide +kernel
theorem dX1_init_76 : decode cX1_init 76 = .ok (.if_icmp .ge 22, 3) := by decide +kernel
theorem dX1_init_79 : decode cX1_init 79 = .ok (.aload_n 0, 1) := by decide +kernel
theorem dX1_init_80 : decode cX1_init 80 = .ok (.getfield 37, 3) := by decide +kernel
theorem dX1_init_83 : decode cX1_init 83 = .ok (.iload_n 1, 1) := by decide +kernel
theorem dX1_init_84 : decode cX1_init 84 = .ok (.new 35, 3) := by decide +kernel
theorem dX1_init_87 : decode cX1_init 87 = .ok (.dup, 1) := by decide +kernel
theorem dX1_init_88 : decode cX1_init 88 = .ok (.invokespecial 53, 3) := by decide +kernel
theorem dX1_init_91 : decode cX1_init 91 = .ok (.aastore, 1) := by decide +kernel
theorem dX1_init_92 : decode cX1_init 92 = .ok (.iinc 1 1, 3) := by decide +kernel
theorem dX1_init_95 : decode cX1_init 95 = .ok (.goto (-22), 3) := by decide +kernel
theorem dX1_init_98 : decode cX1_init 98 = .ok (.iconst 0, 1) := by decide +kernel
theorem dX1_init_99 : decode cX1_init 99 = .ok (.istore_n 1, 1) := by decide +kernel
theorem dX1_init_100 : decode cX1_init 100 = .ok (.iload_n 1, 1) := by decide +kernel
theorem dX1_init_101 : decode cX1_init 101 = .ok (.bipush 24, 2) := by decide +kernel
theorem dX1_init_103 : decode cX1_init 103 = .ok (.if_icmp .ge 22, 3) := by decide +kernel
theorem dX1_init_106 : decode cX1_init 106 = .ok (.aload_n 0, 1) := by decide +kernel
theorem dX1_init_107 : decode cX1_init 107 = .ok (.getfield 46, 3) := by decide +kernel
theorem dX1_init_110 : decode cX1_init 110 = .ok (.iload_n 1, 1) := by decide +kernel
theorem dX1_init_111 : decode cX1_init 111 = .ok (.new 44, 3) := by decide +kernel
theorem dX1_init_114 : decode cX1_init 114 = .ok (.dup, 1) := by decide +kernel
theorem dX1_init_115 : decode cX1_init 115 = .ok (.invokespecial 54, 3) := by decide +kernel
theorem dX1_init_118 : decode cX1_init 118 = .ok (.aastore, 1) := by decide +kernel
theorem dX1_init_119 : decode cX1_init 119 = .ok (.iinc 1 1, 3) := by decide +kernel
theorem dX1_init_122 : decode cX1_init 122 = .ok (.goto (-22), 3) := by decide +kernel
theorem dX1_init_125 : decode cX1_init 125 = .ok (.return_, 1) := by decide +kernel
theorem dX1_hasCase_0 : decode cX1_hasCase 0 = .ok (.iload_n 1, 1) := by decide +kernel
theorem dX1_hasCase_1 : decode cX1_hasCase 1 = .ok (.aload_n 0, 1) := by decide +kernel
theorem dX1_hasCase_2 : decode cX1_hasCase 2 = .ok (.getfield 31, 3) := by decide +kernel
theorem dX1_hasCase_5 : decode cX1_hasCase 5 = .ok (.invokestatic 55, 3) := by decide +kernel
theorem dX1_hasCase_8 : decode cX1_hasCase 8 = .ok (.ireturn, 1) := by decide +kernel
theorem dX1_hasMaster_0 : decode cX1_hasMaster 0 = .ok (.iload_n 1, 1) := by decide +kernel
theorem dX1_hasMaster_1 : decode cX1_hasMaster 1 = .ok (.aload_n 0, 1) := by decide +kernel
theorem dX1_hasMaster_2 : decode cX1_hasMaster 2 = .ok (.getfield 41, 3) := by decide +kernel
theorem dX1_hasMaster_5 : decode cX1_hasMaster 5 = .ok (.invokestatic 55, 3) := by decide +kernel
theorem dX1_hasMaster_8 : decode cX1_hasMaster 8 = .ok (.ireturn, 1) := by decide +kernel
theorem dX1_hasSaying_0 : decode cX1_hasSaying 0 = .ok (.iload_n 1, 1) := by decide +kernel
theorem dX1_hasSaying_1 : decode cX1_hasSaying 1 = .ok (.aload_n 0, 1) := by decide +kernel
theorem dX1_hasSaying_2 : decode cX1_hasSaying 2 = .ok (.getfield 50, 3) := by decide +kernel
theorem dX1_hasSaying_5 : decode cX1_hasSaying 5 = .ok (.invokestatic 55, 3) := by decide +kernel
theorem dX1_hasSaying_8 : decode cX1_hasSaying 8 = .ok (.ireturn, 1) := by decide +kernel
theorem dX1_hasYear_0 : decode cX1_hasYear 0 = .ok (.aload_n 0, 1) := by decide +kernel
theorem dX1_hasYear_1 : decode cX1_hasYear 1 = .ok (.iload_n 1, 1) := by decide +kernel
theorem dX1_hasYear_2 : decode cX1_hasYear 2 = .ok (.invokevirtual 59, 3) := by decide +kernel
theorem dX1_hasYear_5 : decode cX1_hasYear 5 = .ok (.ifCond .eq 33, 3) := by decide +kernel
theorem dX1_hasYear_8 : decode cX1_hasYear 8 = .ok (.iload_n 2, 1) := by decide +kernel
theorem dX1_hasYear_9 : decode cX1_hasYear 9 = .ok (.aload_n 0, 1) := by decide +kernel
theorem dX1_hasYear_10 : decode cX1_hasYear 10 = .ok (.getfield 37, 3) := by decide +kernel
theorem dX1_hasYear_13 : decode cX1_hasYear 13 = .ok (.iload_n 1, 1) := by decide +kernel
theorem dX1_hasYear_14 : decode cX1_hasYear 14 = .ok (.aaload, 1) := by decide +kernel
theorem dX1_hasYear_15 : decode cX1_hasYear 15 = .ok (.getfield 63, 3) := by decide +kernel
theorem dX1_hasYear_18 : decode cX1_hasYear 18 = .ok (.if_icmp .lt 20, 3) := by decide +kernel
theorem dX1_hasYear_21 : decode cX1_hasYear 21 = .ok (.iload_n 2, 1) := by decide +kernel
theorem dX1_hasYear_22 : decode cX1_hasYear 22 = .ok (.aload_n 0, 1) := by decide +kernel
theorem dX1_hasYear_23 : decode cX1_hasYear 23 = .ok (.getfield 37, 3) := by decide +kernel
theorem dX1_hasYear_26 : decode cX1_hasYear 26 = .ok (.iload_n 1, 1) := by decide +kernel
theorem dX1_hasYear_27 : decode cX1_hasYear 27 = .ok (.aaload, 1) := by decide +kernel
theorem dX1_hasYear_28 : decode cX1_hasYear 28 = .ok (.getfield 66, 3) := by decide +kernel
theorem dX1_hasYear_31 : decode cX1_hasYear 31 = .ok (.if_icmp .gt 7, 3) := by decide +kernel
theorem dX1_hasYear_34 : decode cX1_hasYear 34 = .ok (.iconst 1, 1) := by decide +kernel
theorem dX1_hasYear_35 : decode cX1_hasYear 35 = .ok (.goto 4, 3) := by decide +kernel
theorem dX1_hasYear_38 : decode cX1_hasYear 38 = .ok (.iconst 0, 1) := by decide +kernel
theorem dX1_hasYear_39 : decode cX1_hasYear 39 = .ok (.ireturn, 1) := by decide +kernel
theorem dX1_hasRoom_0 : decode cX1_hasRoom 0 = .ok (.aload_n 0, 1) := by decide +kernel
theorem dX1_hasRoom_1 : decode cX1_hasRoom 1 = .ok (.getfield 50, 3) := by decide +kernel
theorem dX1_hasRoom_4 : decode cX1_hasRoom 4 = .ok (.iload_n 2, 1) := by decide +kernel
theorem dX1_hasRoom_5 : decode cX1_hasRoom 5 = .ok (.iadd, 1) := by decide +kernel
theorem dX1_hasRoom_6 : decode cX1_hasRoom 6 = .ok (.bipush 24, 2) := by decide +kernel
theorem dX1_hasRoom_8 : decode cX1_hasRoom 8 = .ok (.if_icmp .gt 23, 3) := by decide +kernel
theorem dX1_hasRoom_11 : decode cX1_hasRoom 11 = .ok (.aload_n 0, 1) := by decide +kernel
theorem dX1_hasRoom_12 : decode cX1_hasRoom 12 = .ok (.getfield 37, 3) := by decide +kernel
theorem dX1_hasRoom_15 : decode cX1_hasRoom 15 = .ok (.iload_n 1, 1) := by decide +kernel
theorem dX1_hasRoom_16 : decode cX1_hasRoom 16 = .ok (.aaload, 1) := by decide +kernel
theorem dX1_hasRoom_17 : decode cX1_hasRoom 17 = .ok (.getfield 69, 3) := by decide +kernel
theorem dX1_hasRoom_20 : decode cX1_hasRoom 20 = .ok (.iload_n 2, 1) := by decide +kernel
theorem dX1_hasRoom_21 : decode cX1_hasRoom 21 = .ok (.iadd, 1) := by decide +kernel
theorem dX1_hasRoom_22 : decode cX1_hasRoom 22 = .ok (.bipush 9, 2) := by decide +kernel
theorem dX1_hasRoom_24 : decode cX1_hasRoom 24 = .ok (.if_icmp .gt 7, 3) := by decide +kernel
theorem dX1_hasRoom_27 : decode cX1_hasRoom 27 = .ok (.iconst 1, 1) := by decide +kernel
theorem dX1_hasRoom_28 : decode cX1_hasRoom 28 = .ok (.goto 4, 3) := by decide +kernel
theorem dX1_hasRoom_31 : decode cX1_hasRoom 31 = .ok (.iconst 0, 1) := by decide +kernel
theorem dX1_hasRoom_32 : decode cX1_hasRoom 32 = .ok (.ireturn, 1) := by decide +kernel
theorem dX1_addCase_0 : decode cX1_addCase 0 = .ok (.aload_n 0, 1) := by decide +kernel
theorem dX1_addCase_1 : decode cX1_addCase 1 = .ok (.getfield 27, 3) := by decide +kernel
theorem dX1_addCase_4 : decode cX1_addCase 4 = .ok (.aload_n 0, 1) := by decide +kernel
theorem dX1_addCase_5 : decode cX1_addCase 5 = .ok (.getfield 31, 3) := by decide +kernel
theorem dX1_addCase_8 : decode cX1_addCase 8 = .ok (.iload_n 1, 1) := by decide +kernel
theorem dX1_addCase_9 : decode cX1_addCase 9 = .ok (.iastore, 1) := by decide +kernel
theorem dX1_addCase_10 : decode cX1_addCase 10 = .ok (.aload_n 0, 1) := by decide +kernel
theorem dX1_addCase_11 : decode cX1_addCase 11 = .ok (.dup, 1) := by decide +kernel
theorem dX1_addCase_12 : decode cX1_addCase 12 = .ok (.getfield 31, 3) := by decide +kernel
theorem dX1_addCase_15 : decode cX1_addCase 15 = .ok (.iconst 1, 1) := by decide +kernel
theorem dX1_addCase_16 : decode cX1_addCase 16 = .ok (.iadd, 1) := by decide +kernel
theorem dX1_addCase_17 : decode cX1_addCase 17 = .ok (.putfield 31, 3) := by decide +kernel
theorem dX1_addCase_20 : decode cX1_addCase 20 = .ok (.aload_n 0, 1) := by decide +kernel
theorem dX1_addCase_21 : decode cX1_addCase 21 = .ok (.getfield 31, 3) := by decide +kernel
theorem dX1_addCase_24 : decode cX1_addCase 24 = .ok (.iconst 1, 1) := by decide +kernel
theorem dX1_addCase_25 : decode cX1_addCase 25 = .ok (.isub, 1) := by decide +kernel
theorem dX1_addCase_26 : decode cX1_addCase 26 = .ok (.ireturn, 1) := by decide +kernel
theorem dX1_addMaster_0 : decode cX1_addMaster 0 = .ok (.aload_n 0, 1) := by decide +kernel
theorem dX1_addMaster_1 : decode cX1_addMaster 1 = .ok (.getfield 37, 3) := by decide +kernel
theorem dX1_addMaster_4 : decode cX1_addMaster 4 = .ok (.aload_n 0, 1) := by decide +kernel
theorem dX1_addMaster_5 : decode cX1_addMaster 5 = .ok (.getfield 41, 3) := by decide +kernel
theorem dX1_addMaster_8 : decode cX1_addMaster 8 = .ok (.aaload, 1) := by decide +kernel
theorem dX1_addMaster_9 : decode cX1_addMaster 9 = .ok (.astore 4, 2) := by decide +kernel
theorem dX1_addMaster_11 : decode cX1_addMaster 11 = .ok (.aload 4, 2) := by decide +kernel
theorem dX1_addMaster_13 : decode cX1_addMaster 13 = .ok (.iload_n 1, 1) := by decide +kernel
theorem dX1_addMaster_14 : decode cX1_addMaster 14 = .ok (.putfield 63, 3) := by decide +kernel
theorem dX1_addMaster_17 : decode cX1_addMaster 17 = .ok (.aload 4, 2) := by decide +kernel
theorem dX1_addMaster_19 : decode cX1_addMaster 19 = .ok (.iload_n 2, 1) := by decide +kernel
theorem dX1_addMaster_20 : decode cX1_addMaster 20 = .ok (.putfield 66, 3) := by decide +kernel
theorem dX1_addMaster_23 : decode cX1_addMaster 23 = .ok (.aload 4, 2) := by decide +kernel
theorem dX1_addMaster_25 : decode cX1_addMaster 25 = .ok (.iload_n 3, 1) := by decide +kernel
theorem dX1_addMaster_26 : decode cX1_addMaster 26 = .ok (.putfield 72, 3) := by decide +kernel
theorem dX1_addMaster_29 : decode cX1_addMaster 29 = .ok (.aload 4, 2) := by decide +kernel
theorem dX1_addMaster_31 : decode cX1_addMaster 31 = .ok (.iload_n 3, 1) := by decide +kernel
theorem dX1_addMaster_32 : decode cX1_addMaster 32 = .ok (.bipush (-9), 2) := by decide +kernel
theorem dX1_addMaster_34 : decode cX1_addMaster 34 = .ok (.if_icmp .ne 7, 3) := by decide +kernel
theorem dX1_addMaster_37 : decode cX1_addMaster 37 = .ok (.iconst 0, 1) := by decide +kernel
theorem dX1_addMaster_38 : decode cX1_addMaster 38 = .ok (.goto 16, 3) := by decide +kernel
theorem dX1_addMaster_41 : decode cX1_addMaster 41 = .ok (.aload_n 0, 1) := by decide +kernel
theorem dX1_addMaster_42 : decode cX1_addMaster 42 = .ok (.getfield 37, 3) := by decide +kernel
theorem dX1_addMaster_45 : decode cX1_addMaster 45 = .ok (.iload_n 3, 1) := by decide +kernel
theorem dX1_addMaster_46 : decode cX1_addMaster 46 = .ok (.aaload, 1) := by decide +kernel
theorem dX1_addMaster_47 : decode cX1_addMaster 47 = .ok (.getfield 75, 3) := by decide +kernel
theorem dX1_addMaster_50 : decode cX1_addMaster 50 = .ok (.iconst 1, 1) := by decide +kernel
theorem dX1_addMaster_51 : decode cX1_addMaster 51 = .ok (.iload_n 3, 1) := by decide +kernel
theorem dX1_addMaster_52 : decode cX1_addMaster 52 = .ok (.ishl, 1) := by decide +kernel
theorem dX1_addMaster_53 : decode cX1_addMaster 53 = .ok (.ior, 1) := by decide +kernel
theorem dX1_addMaster_54 : decode cX1_addMaster 54 = .ok (.putfield 75, 3) := by decide +kernel
theorem dX1_addMaster_57 : decode cX1_addMaster 57 = .ok (.aload_n 0, 1) := by decide +kernel
theorem dX1_addMaster_58 : decode cX1_addMaster 58 = .ok (.dup, 1) := by decide +kernel
theorem dX1_addMaster_59 : decode cX1_addMaster 59 = .ok (.getfield 41, 3) := by decide +kernel
theorem dX1_addMaster_62 : decode cX1_addMaster 62 = .ok (.iconst 1, 1) := by decide +kernel
theorem dX1_addMaster_63 : decode cX1_addMaster 63 = .ok (.iadd, 1) := by decide +kernel
theorem dX1_addMaster_64 : decode cX1_addMaster 64 = .ok (.putfield 41, 3) := by decide +kernel
theorem dX1_addMaster_67 : decode cX1_addMaster 67 = .ok (.aload_n 0, 1) := by decide +kernel
theorem dX1_addMaster_68 : decode cX1_addMaster 68 = .ok (.getfield 41, 3) := by decide +kernel
theorem dX1_addMaster_71 : decode cX1_addMaster 71 = .ok (.iconst 1, 1) := by decide +kernel
theorem dX1_addMaster_72 : decode cX1_addMaster 72 = .ok (.isub, 1) := by decide +kernel
theorem dX1_addMaster_73 : decode cX1_addMaster 73 = .ok (.ireturn, 1) := by decide +kernel
theorem dX1_addSaying_0 : decode cX1_addSaying 0 = .ok (.aload_n 0, 1) := by decide +kernel
theorem dX1_addSaying_1 : decode cX1_addSaying 1 = .ok (.getfield 46, 3) := by decide +kernel
theorem dX1_addSaying_4 : decode cX1_addSaying 4 = .ok (.aload_n 0, 1) := by decide +kernel
theorem dX1_addSaying_5 : decode cX1_addSaying 5 = .ok (.getfield 50, 3) := by decide +kernel
theorem dX1_addSaying_8 : decode cX1_addSaying 8 = .ok (.aaload, 1) := by decide +kernel
theorem dX1_addSaying_9 : decode cX1_addSaying 9 = .ok (.astore 6, 2) := by decide +kernel
theorem dX1_addSaying_11 : decode cX1_addSaying 11 = .ok (.aload 6, 2) := by decide +kernel
theorem dX1_addSaying_13 : decode cX1_addSaying 13 = .ok (.iload_n 1, 1) := by decide +kernel
theorem dX1_addSaying_14 : decode cX1_addSaying 14 = .ok (.putfield 78, 3) := by decide +kernel
theorem dX1_addSaying_17 : decode cX1_addSaying 17 = .ok (.aload 6, 2) := by decide +kernel
theorem dX1_addSaying_19 : decode cX1_addSaying 19 = .ok (.iload_n 2, 1) := by decide +kernel
theorem dX1_addSaying_20 : decode cX1_addSaying 20 = .ok (.putfield 81, 3) := by decide +kernel
theorem dX1_addSaying_23 : decode cX1_addSaying 23 = .ok (.aload 6, 2) := by decide +kernel
theorem dX1_addSaying_25 : decode cX1_addSaying 25 = .ok (.iload_n 3, 1) := by decide +kernel
theorem dX1_addSaying_26 : decode cX1_addSaying 26 = .ok (.putfield 84, 3) := by decide +kernel
theorem dX1_addSaying_29 : decode cX1_addSaying 29 = .ok (.aload 6, 2) := by decide +kernel
theorem dX1_addSaying_31 : decode cX1_addSaying 31 = .ok (.iload 4, 2) := by decide +kernel
theorem dX1_addSaying_33 : decode cX1_addSaying 33 = .ok (.putfield 87, 3) := by decide +kernel
theorem dX1_addSaying_36 : decode cX1_addSaying 36 = .ok (.aload 6, 2) := by decide +kernel
theorem dX1_addSaying_38 : decode cX1_addSaying 38 = .ok (.iload 5, 2) := by decide +kernel
theorem dX1_addSaying_40 : decode cX1_addSaying 40 = .ok (.putfield 90, 3) := by decide +kernel
theorem dX1_addSaying_43 : decode cX1_addSaying 43 = .ok (.aload_n 0, 1) := by decide +kernel
theorem dX1_addSaying_44 : decode cX1_addSaying 44 = .ok (.getfield 37, 3) := by decide +kernel
theorem dX1_addSaying_47 : decode cX1_addSaying 47 = .ok (.iload_n 1, 1) := by decide +kernel
theorem dX1_addSaying_48 : decode cX1_addSaying 48 = .ok (.aaload, 1) := by decide +kernel
theorem dX1_addSaying_49 : decode cX1_addSaying 49 = .ok (.astore 7, 2) := by decide +kernel
theorem dX1_addSaying_51 : decode cX1_addSaying 51 = .ok (.aload 7, 2) := by decide +kernel
theorem dX1_addSaying_53 : decode cX1_addSaying 53 = .ok (.getfield 93, 3) := by decide +kernel
theorem dX1_addSaying_56 : decode cX1_addSaying 56 = .ok (.aload 7, 2) := by decide +kernel
theorem dX1_addSaying_58 : decode cX1_addSaying 58 = .ok (.getfield 69, 3) := by decide +kernel
theorem dX1_addSaying_61 : decode cX1_addSaying 61 = .ok (.aload_n 0, 1) := by decide +kernel
theorem dX1_addSaying_62 : decode cX1_addSaying 62 = .ok (.getfield 50, 3) := by decide +kernel
theorem dX1_addSaying_65 : decode cX1_addSaying 65 = .ok (.iastore, 1) := by decide +kernel
theorem dX1_addSaying_66 : decode cX1_addSaying 66 = .ok (.aload 7, 2) := by decide +kernel
theorem dX1_addSaying_68 : decode cX1_addSaying 68 = .ok (.dup, 1) := by decide +kernel
theorem dX1_addSaying_69 : decode cX1_addSaying 69 = .ok (.getfield 69, 3) := by decide +kernel
theorem dX1_addSaying_72 : decode cX1_addSaying 72 = .ok (.iconst 1, 1) := by decide +kernel
theorem dX1_addSaying_73 : decode cX1_addSaying 73 = .ok (.iadd, 1) := by decide +kernel
theorem dX1_addSaying_74 : decode cX1_addSaying 74 = .ok (.putfield 69, 3) := by decide +kernel
theorem dX1_addSaying_77 : decode cX1_addSaying 77 = .ok (.aload 7, 2) := by decide +kernel
theorem dX1_addSaying_79 : decode cX1_addSaying 79 = .ok (.getfield 96, 3) := by decide +kernel
theorem dX1_addSaying_82 : decode cX1_addSaying 82 = .ok (.iconst 0, 1) := by decide +kernel
theorem dX1_addSaying_83 : decode cX1_addSaying 83 = .ok (.putfield 100, 3) := by decide +kernel
theorem dX1_addSaying_86 : decode cX1_addSaying 86 = .ok (.aload_n 0, 1) := by decide +kernel
theorem dX1_addSaying_87 : decode cX1_addSaying 87 = .ok (.dup, 1) := by decide +kernel
theorem dX1_addSaying_88 : decode cX1_addSaying 88 = .ok (.getfield 50, 3) := by decide +kernel
theorem dX1_addSaying_91 : decode cX1_addSaying 91 = .ok (.iconst 1, 1) := by decide +kernel
theorem dX1_addSaying_92 : decode cX1_addSaying 92 = .ok (.iadd, 1) := by decide +kernel
theorem dX1_addSaying_93 : decode cX1_addSaying 93 = .ok (.putfield 50, 3) := by decide +kernel
theorem dX1_addSaying_96 : decode cX1_addSaying 96 = .ok (.aload_n 0, 1) := by decide +kernel
theorem dX1_addSaying_97 : decode cX1_addSaying 97 = .ok (.getfield 50, 3) := by decide +kernel
theorem dX1_addSaying_100 : decode cX1_addSaying 100 = .ok (.iconst 1, 1) := by decide +kernel
theorem dX1_addSaying_101 : decode cX1_addSaying 101 = .ok (.isub, 1) := by decide +kernel
theorem dX1_addSaying_102 : decode cX1_addSaying 102 = .ok (.ireturn, 1) := by decide +kernel
theorem dX1_reprice_0 : decode cX1_reprice 0 = .ok (.aload_n 0, 1) := by decide +kernel
theorem dX1_reprice_1 : decode cX1_reprice 1 = .ok (.getfield 23, 3) := by decide +kernel
theorem dX1_reprice_4 : decode cX1_reprice 4 = .ok (.iload_n 1, 1) := by decide +kernel
theorem dX1_reprice_5 : decode cX1_reprice 5 = .ok (.putfield 106, 3) := by decide +kernel
theorem dX1_reprice_8 : decode cX1_reprice 8 = .ok (.aload_n 0, 1) := by decide +kernel
theorem dX1_reprice_9 : decode cX1_reprice 9 = .ok (.getfield 23, 3) := by decide +kernel
theorem dX1_reprice_12 : decode cX1_reprice 12 = .ok (.iload_n 2, 1) := by decide +kernel
theorem dX1_reprice_13 : decode cX1_reprice 13 = .ok (.putfield 109, 3) := by decide +kernel
theorem dX1_reprice_16 : decode cX1_reprice 16 = .ok (.aload_n 0, 1) := by decide +kernel
theorem dX1_reprice_17 : decode cX1_reprice 17 = .ok (.getfield 23, 3) := by decide +kernel
theorem dX1_reprice_20 : decode cX1_reprice 20 = .ok (.iload_n 3, 1) := by decide +kernel
theorem dX1_reprice_21 : decode cX1_reprice 21 = .ok (.putfield 112, 3) := by decide +kernel
theorem dX1_reprice_24 : decode cX1_reprice 24 = .ok (.iconst 0, 1) := by decide +kernel
theorem dX1_reprice_25 : decode cX1_reprice 25 = .ok (.istore 4, 2) := by decide +kernel
theorem dX1_reprice_27 : decode cX1_reprice 27 = .ok (.iload 4, 2) := by decide +kernel
theorem dX1_reprice_29 : decode cX1_reprice 29 = .ok (.aload_n 0, 1) := by decide +kernel
theorem dX1_reprice_30 : decode cX1_reprice 30 = .ok (.getfield 41, 3) := by decide +kernel
theorem dX1_reprice_33 : decode cX1_reprice 33 = .ok (.if_icmp .ge 23, 3) := by decide +kernel
theorem dX1_reprice_36 : decode cX1_reprice 36 = .ok (.aload_n 0, 1) := by decide +kernel
theorem dX1_reprice_37 : decode cX1_reprice 37 = .ok (.getfield 37, 3) := by decide +kernel
theorem dX1_reprice_40 : decode cX1_reprice 40 = .ok (.iload 4, 2) := by decide +kernel
theorem dX1_reprice_42 : decode cX1_reprice 42 = .ok (.aaload, 1) := by decide +kernel
theorem dX1_reprice_43 : decode cX1_reprice 43 = .ok (.getfield 96, 3) := by decide +kernel
theorem dX1_reprice_46 : decode cX1_reprice 46 = .ok (.iconst 0, 1) := by decide +kernel
theorem dX1_reprice_47 : decode cX1_reprice 47 = .ok (.putfield 100, 3) := by decide +kernel
theorem dX1_reprice_50 : decode cX1_reprice 50 = .ok (.iinc 4 1, 3) := by decide +kernel
theorem dX1_reprice_53 : decode cX1_reprice 53 = .ok (.goto (-26), 3) := by decide +kernel
theorem dX1_reprice_56 : decode cX1_reprice 56 = .ok (.return_, 1) := by decide +kernel
theorem dX1_lifeFigure_0 : decode cX1_lifeFigure 0 = .ok (.aload_n 0, 1) := by decide +kernel
theorem dX1_lifeFigure_1 : decode cX1_lifeFigure 1 = .ok (.getfield 37, 3) := by decide +kernel
theorem dX1_lifeFigure_4 : decode cX1_lifeFigure 4 = .ok (.iload_n 1, 1) := by decide +kernel
theorem dX1_lifeFigure_5 : decode cX1_lifeFigure 5 = .ok (.aaload, 1) := by decide +kernel
theorem dX1_lifeFigure_6 : decode cX1_lifeFigure 6 = .ok (.astore_n 3, 1) := by decide +kernel
theorem dX1_lifeFigure_7 : decode cX1_lifeFigure 7 = .ok (.iload_n 2, 1) := by decide +kernel
theorem dX1_lifeFigure_8 : decode cX1_lifeFigure 8 = .ok (.tableswitch 52 0 3 #[32, 37, 42, 47], 32) := by decide +kernel
theorem dX1_lifeFigure_40 : decode cX1_lifeFigure 40 = .ok (.aload_n 3, 1) := by decide +kernel
theorem dX1_lifeFigure_41 : decode cX1_lifeFigure 41 = .ok (.getfield 63, 3) := by decide +kernel
theorem dX1_lifeFigure_44 : decode cX1_lifeFigure 44 = .ok (.ireturn, 1) := by decide +kernel
theorem dX1_lifeFigure_45 : decode cX1_lifeFigure 45 = .ok (.aload_n 3, 1) := by decide +kernel
theorem dX1_lifeFigure_46 : decode cX1_lifeFigure 46 = .ok (.getfield 66, 3) := by decide +kernel
theorem dX1_lifeFigure_49 : decode cX1_lifeFigure 49 = .ok (.ireturn, 1) := by decide +kernel
theorem dX1_lifeFigure_50 : decode cX1_lifeFigure 50 = .ok (.aload_n 3, 1) := by decide +kernel
theorem dX1_lifeFigure_51 : decode cX1_lifeFigure 51 = .ok (.getfield 72, 3) := by decide +kernel
theorem dX1_lifeFigure_54 : decode cX1_lifeFigure 54 = .ok (.ireturn, 1) := by decide +kernel
theorem dX1_lifeFigure_55 : decode cX1_lifeFigure 55 = .ok (.aload_n 3, 1) := by decide +kernel
theorem dX1_lifeFigure_56 : decode cX1_lifeFigure 56 = .ok (.getfield 69, 3) := by decide +kernel
theorem dX1_lifeFigure_59 : decode cX1_lifeFigure 59 = .ok (.ireturn, 1) := by decide +kernel
theorem dX1_lifeFigure_60 : decode cX1_lifeFigure 60 = .ok (.aload_n 0, 1) := by decide +kernel
theorem dX1_lifeFigure_61 : decode cX1_lifeFigure 61 = .ok (.iload_n 1, 1) := by decide +kernel
theorem dX1_lifeFigure_62 : decode cX1_lifeFigure 62 = .ok (.invokevirtual 115, 3) := by decide +kernel
theorem dX1_lifeFigure_65 : decode cX1_lifeFigure 65 = .ok (.ireturn, 1) := by decide +kernel
theorem dX1_pupils_0 : decode cX1_pupils 0 = .ok (.iconst 0, 1) := by decide +kernel
theorem dX1_pupils_1 : decode cX1_pupils 1 = .ok (.istore_n 2, 1) := by decide +kernel
theorem dX1_pupils_2 : decode cX1_pupils 2 = .ok (.iconst 0, 1) := by decide +kernel
theorem dX1_pupils_3 : decode cX1_pupils 3 = .ok (.istore_n 3, 1) := by decide +kernel
theorem dX1_pupils_4 : decode cX1_pupils 4 = .ok (.iload_n 3, 1) := by decide +kernel
theorem dX1_pupils_5 : decode cX1_pupils 5 = .ok (.aload_n 0, 1) := by decide +kernel
theorem dX1_pupils_6 : decode cX1_pupils 6 = .ok (.getfield 41, 3) := by decide +kernel
theorem dX1_pupils_9 : decode cX1_pupils 9 = .ok (.if_icmp .ge 29, 3) := by decide +kernel
theorem dX1_pupils_12 : decode cX1_pupils 12 = .ok (.aload_n 0, 1) := by decide +kernel
theorem dX1_pupils_13 : decode cX1_pupils 13 = .ok (.getfield 37, 3) := by decide +kernel
theorem dX1_pupils_16 : decode cX1_pupils 16 = .ok (.iload_n 3, 1) := by decide +kernel
theorem dX1_pupils_17 : decode cX1_pupils 17 = .ok (.aaload, 1) := by decide +kernel
theorem dX1_pupils_18 : decode cX1_pupils 18 = .ok (.getfield 75, 3) := by decide +kernel
theorem dX1_pupils_21 : decode cX1_pupils 21 = .ok (.iload_n 1, 1) := by decide +kernel
theorem dX1_pupils_22 : decode cX1_pupils 22 = .ok (.iushr, 1) := by decide +kernel
theorem dX1_pupils_23 : decode cX1_pupils 23 = .ok (.iconst 1, 1) := by decide +kernel
theorem dX1_pupils_24 : decode cX1_pupils 24 = .ok (.iand, 1) := by decide +kernel
theorem dX1_pupils_25 : decode cX1_pupils 25 = .ok (.iconst 1, 1) := by decide +kernel
theorem dX1_pupils_26 : decode cX1_pupils 26 = .ok (.if_icmp .ne 6, 3) := by decide +kernel
theorem dX1_pupils_29 : decode cX1_pupils 29 = .ok (.iinc 2 1, 3) := by decide +kernel
theorem dX1_pupils_32 : decode cX1_pupils 32 = .ok (.iinc 3 1, 3) := by decide +kernel
theorem dX1_pupils_35 : decode cX1_pupils 35 = .ok (.goto (-31), 3) := by decide +kernel
theorem dX1_pupils_38 : decode cX1_pupils 38 = .ok (.iload_n 2, 1) := by decide +kernel
theorem dX1_pupils_39 : decode cX1_pupils 39 = .ok (.ireturn, 1) := by decide +kernel
theorem dX1_caseTraits_0 : decode cX1_caseTraits 0 = .ok (.aload_n 0, 1) := by decide +kernel
theorem dX1_caseTraits_1 : decode cX1_caseTraits 1 = .ok (.getfield 27, 3) := by decide +kernel
theorem dX1_caseTraits_4 : decode cX1_caseTraits 4 = .ok (.aload_n 0, 1) := by decide +kernel
theorem dX1_caseTraits_5 : decode cX1_caseTraits 5 = .ok (.getfield 46, 3) := by decide +kernel
theorem dX1_caseTraits_8 : decode cX1_caseTraits 8 = .ok (.iload_n 1, 1) := by decide +kernel
theorem dX1_caseTraits_9 : decode cX1_caseTraits 9 = .ok (.aaload, 1) := by decide +kernel
theorem dX1_caseTraits_10 : decode cX1_caseTraits 10 = .ok (.getfield 81, 3) := by decide +kernel
theorem dX1_caseTraits_13 : decode cX1_caseTraits 13 = .ok (.iaload, 1) := by decide +kernel
theorem dX1_caseTraits_14 : decode cX1_caseTraits 14 = .ok (.ireturn, 1) := by decide +kernel
theorem dX1_strainOf_0 : decode cX1_strainOf 0 = .ok (.aload_n 0, 1) := by decide +kernel
theorem dX1_strainOf_1 : decode cX1_strainOf 1 = .ok (.getfield 46, 3) := by decide +kernel
theorem dX1_strainOf_4 : decode cX1_strainOf 4 = .ok (.iload_n 1, 1) := by decide +kernel
theorem dX1_strainOf_5 : decode cX1_strainOf 5 = .ok (.aaload, 1) := by decide +kernel
theorem dX1_strainOf_6 : decode cX1_strainOf 6 = .ok (.astore_n 3, 1) := by decide +kernel
theorem dX1_strainOf_7 : decode cX1_strainOf 7 = .ok (.aload_n 0, 1) := by decide +kernel
theorem dX1_strainOf_8 : decode cX1_strainOf 8 = .ok (.getfield 12, 3) := by decide +kernel
theorem dX1_strainOf_11 : decode cX1_strainOf 11 = .ok (.iload_n 2, 1) := by decide +kernel
theorem dX1_strainOf_12 : decode cX1_strainOf 12 = .ok (.aload_n 0, 1) := by decide +kernel
theorem dX1_strainOf_13 : decode cX1_strainOf 13 = .ok (.iload_n 1, 1) := by decide +kernel
theorem dX1_strainOf_14 : decode cX1_strainOf 14 = .ok (.invokevirtual 119, 3) := by decide +kernel
theorem dX1_strainOf_17 : decode cX1_strainOf 17 = .ok (.aload_n 3, 1) := by decide +kernel
theorem dX1_strainOf_18 : decode cX1_strainOf 18 = .ok (.getfield 87, 3) := by decide +kernel
theorem dX1_strainOf_21 : decode cX1_strainOf 21 = .ok (.aload_n 3, 1) := by decide +kernel
theorem dX1_strainOf_22 : decode cX1_strainOf 22 = .ok (.getfield 90, 3) := by decide +kernel
theorem dX1_strainOf_25 : decode cX1_strainOf 25 = .ok (.invokevirtual 122, 3) := by decide +kernel
theorem dX1_strainOf_28 : decode cX1_strainOf 28 = .ok (.ireturn, 1) := by decide +kernel
theorem dX1_settled_0 : decode cX1_settled 0 = .ok (.iconst 0, 1) := by decide +kernel
theorem dX1_settled_1 : decode cX1_settled 1 = .ok (.istore_n 1, 1) := by decide +kernel
theorem dX1_settled_2 : decode cX1_settled 2 = .ok (.iload_n 1, 1) := by decide +kernel
theorem dX1_settled_3 : decode cX1_settled 3 = .ok (.aload_n 0, 1) := by decide +kernel
theorem dX1_settled_4 : decode cX1_settled 4 = .ok (.getfield 41, 3) := by decide +kernel
theorem dX1_settled_7 : decode cX1_settled 7 = .ok (.if_icmp .ge 75, 3) := by decide +kernel
theorem dX1_settled_10 : decode cX1_settled 10 = .ok (.aload_n 0, 1) := by decide +kernel
theorem dX1_settled_11 : decode cX1_settled 11 = .ok (.getfield 37, 3) := by decide +kernel
theorem dX1_settled_14 : decode cX1_settled 14 = .ok (.iload_n 1, 1) := by decide +kernel
theorem dX1_settled_15 : decode cX1_settled 15 = .ok (.aaload, 1) := by decide +kernel
theorem dX1_settled_16 : decode cX1_settled 16 = .ok (.getfield 96, 3) := by decide +kernel
theorem dX1_settled_19 : decode cX1_settled 19 = .ok (.getfield 100, 3) := by decide +kernel
theorem dX1_settled_22 : decode cX1_settled 22 = .ok (.ifCond .eq 6, 3) := by decide +kernel
theorem dX1_settled_25 : decode cX1_settled 25 = .ok (.goto 51, 3) := by decide +kernel
theorem dX1_settled_28 : decode cX1_settled 28 = .ok (.aload_n 0, 1) := by decide +kernel
theorem dX1_settled_29 : decode cX1_settled 29 = .ok (.getfield 23, 3) := by decide +kernel
theorem dX1_settled_32 : decode cX1_settled 32 = .ok (.aload_n 0, 1) := by decide +kernel
theorem dX1_settled_33 : decode cX1_settled 33 = .ok (.getfield 37, 3) := by decide +kernel
theorem dX1_settled_36 : decode cX1_settled 36 = .ok (.iload_n 1, 1) := by decide +kernel
theorem dX1_settled_37 : decode cX1_settled 37 = .ok (.aaload, 1) := by decide +kernel
theorem dX1_settled_38 : decode cX1_settled 38 = .ok (.aload_n 0, 1) := by decide +kernel
theorem dX1_settled_39 : decode cX1_settled 39 = .ok (.getfield 46, 3) := by decide +kernel
theorem dX1_settled_42 : decode cX1_settled 42 = .ok (.aload_n 0, 1) := by decide +kernel
theorem dX1_settled_43 : decode cX1_settled 43 = .ok (.getfield 27, 3) := by decide +kernel
theorem dX1_settled_46 : decode cX1_settled 46 = .ok (.invokevirtual 126, 3) := by decide +kernel
theorem dX1_settled_49 : decode cX1_settled 49 = .ok (.aload_n 0, 1) := by decide +kernel
theorem dX1_settled_50 : decode cX1_settled 50 = .ok (.getfield 23, 3) := by decide +kernel
theorem dX1_settled_53 : decode cX1_settled 53 = .ok (.invokevirtual 130, 3) := by decide +kernel
theorem dX1_settled_56 : decode cX1_settled 56 = .ok (.aload_n 0, 1) := by decide +kernel
theorem dX1_settled_57 : decode cX1_settled 57 = .ok (.getfield 37, 3) := by decide +kernel
theorem dX1_settled_60 : decode cX1_settled 60 = .ok (.iload_n 1, 1) := by decide +kernel
theorem dX1_settled_61 : decode cX1_settled 61 = .ok (.aaload, 1) := by decide +kernel
theorem dX1_settled_62 : decode cX1_settled 62 = .ok (.getfield 96, 3) := by decide +kernel
theorem dX1_settled_65 : decode cX1_settled 65 = .ok (.aload_n 0, 1) := by decide +kernel
theorem dX1_settled_66 : decode cX1_settled 66 = .ok (.getfield 23, 3) := by decide +kernel
theorem dX1_settled_69 : decode cX1_settled 69 = .ok (.aload_n 0, 1) := by decide +kernel
theorem dX1_settled_70 : decode cX1_settled 70 = .ok (.getfield 12, 3) := by decide +kernel
theorem dX1_settled_73 : decode cX1_settled 73 = .ok (.invokevirtual 133, 3) := by decide +kernel
theorem dX1_settled_76 : decode cX1_settled 76 = .ok (.iinc 1 1, 3) := by decide +kernel
theorem dX1_settled_79 : decode cX1_settled 79 = .ok (.goto (-77), 3) := by decide +kernel
theorem dX1_settled_82 : decode cX1_settled 82 = .ok (.aload_n 0, 1) := by decide +kernel
theorem dX1_settled_83 : decode cX1_settled 83 = .ok (.getfield 37, 3) := by decide +kernel
theorem dX1_settled_86 : decode cX1_settled 86 = .ok (.areturn, 1) := by decide +kernel
theorem dX1_changeYear_0 : decode cX1_changeYear 0 = .ok (.aload_n 0, 1) := by decide +kernel
theorem dX1_changeYear_1 : decode cX1_changeYear 1 = .ok (.getfield 23, 3) := by decide +kernel
theorem dX1_changeYear_4 : decode cX1_changeYear 4 = .ok (.aload_n 0, 1) := by decide +kernel
theorem dX1_changeYear_5 : decode cX1_changeYear 5 = .ok (.getfield 37, 3) := by decide +kernel
theorem dX1_changeYear_8 : decode cX1_changeYear 8 = .ok (.iload_n 1, 1) := by decide +kernel
theorem dX1_changeYear_9 : decode cX1_changeYear 9 = .ok (.aaload, 1) := by decide +kernel
theorem dX1_changeYear_10 : decode cX1_changeYear 10 = .ok (.aload_n 0, 1) := by decide +kernel
theorem dX1_changeYear_11 : decode cX1_changeYear 11 = .ok (.getfield 46, 3) := by decide +kernel
theorem dX1_changeYear_14 : decode cX1_changeYear 14 = .ok (.aload_n 0, 1) := by decide +kernel
theorem dX1_changeYear_15 : decode cX1_changeYear 15 = .ok (.getfield 27, 3) := by decide +kernel
theorem dX1_changeYear_18 : decode cX1_changeYear 18 = .ok (.invokevirtual 126, 3) := by decide +kernel
theorem dX1_changeYear_21 : decode cX1_changeYear 21 = .ok (.aload_n 0, 1) := by decide +kernel
theorem dX1_changeYear_22 : decode cX1_changeYear 22 = .ok (.getfield 23, 3) := by decide +kernel
theorem dX1_changeYear_25 : decode cX1_changeYear 25 = .ok (.aload_n 0, 1) := by decide +kernel
theorem dX1_changeYear_26 : decode cX1_changeYear 26 = .ok (.getfield 37, 3) := by decide +kernel
theorem dX1_changeYear_29 : decode cX1_changeYear 29 = .ok (.iload_n 1, 1) := by decide +kernel
theorem dX1_changeYear_30 : decode cX1_changeYear 30 = .ok (.aaload, 1) := by decide +kernel
theorem dX1_changeYear_31 : decode cX1_changeYear 31 = .ok (.aload_n 0, 1) := by decide +kernel
theorem dX1_changeYear_32 : decode cX1_changeYear 32 = .ok (.getfield 46, 3) := by decide +kernel
theorem dX1_changeYear_35 : decode cX1_changeYear 35 = .ok (.invokevirtual 137, 3) := by decide +kernel
theorem dX1_changeYear_38 : decode cX1_changeYear 38 = .ok (.ireturn, 1) := by decide +kernel
theorem dX1_sumIfOtherwise_0 : decode cX1_sumIfOtherwise 0 = .ok (.aload_n 0, 1) := by decide +kernel
theorem dX1_sumIfOtherwise_1 : decode cX1_sumIfOtherwise 1 = .ok (.getfield 46, 3) := by decide +kernel
theorem dX1_sumIfOtherwise_4 : decode cX1_sumIfOtherwise 4 = .ok (.iload_n 1, 1) := by decide +kernel
theorem dX1_sumIfOtherwise_5 : decode cX1_sumIfOtherwise 5 = .ok (.aaload, 1) := by decide +kernel
theorem dX1_sumIfOtherwise_6 : decode cX1_sumIfOtherwise 6 = .ok (.astore_n 2, 1) := by decide +kernel
theorem dX1_sumIfOtherwise_7 : decode cX1_sumIfOtherwise 7 = .ok (.aload_n 2, 1) := by decide +kernel
theorem dX1_sumIfOtherwise_8 : decode cX1_sumIfOtherwise 8 = .ok (.iconst 1, 1) := by decide +kernel
theorem dX1_sumIfOtherwise_9 : decode cX1_sumIfOtherwise 9 = .ok (.aload_n 2, 1) := by decide +kernel
theorem dX1_sumIfOtherwise_10 : decode cX1_sumIfOtherwise 10 = .ok (.getfield 87, 3) := by decide +kernel
theorem dX1_sumIfOtherwise_13 : decode cX1_sumIfOtherwise 13 = .ok (.isub, 1) := by decide +kernel
theorem dX1_sumIfOtherwise_14 : decode cX1_sumIfOtherwise 14 = .ok (.putfield 87, 3) := by decide +kernel
theorem dX1_sumIfOtherwise_17 : decode cX1_sumIfOtherwise 17 = .ok (.aload_n 0, 1) := by decide +kernel
theorem dX1_sumIfOtherwise_18 : decode cX1_sumIfOtherwise 18 = .ok (.getfield 23, 3) := by decide +kernel
theorem dX1_sumIfOtherwise_21 : decode cX1_sumIfOtherwise 21 = .ok (.aload_n 0, 1) := by decide +kernel
theorem dX1_sumIfOtherwise_22 : decode cX1_sumIfOtherwise 22 = .ok (.getfield 37, 3) := by decide +kernel
theorem dX1_sumIfOtherwise_25 : decode cX1_sumIfOtherwise 25 = .ok (.aload_n 2, 1) := by decide +kernel
theorem dX1_sumIfOtherwise_26 : decode cX1_sumIfOtherwise 26 = .ok (.getfield 78, 3) := by decide +kernel
theorem dX1_sumIfOtherwise_29 : decode cX1_sumIfOtherwise 29 = .ok (.aaload, 1) := by decide +kernel
theorem dX1_sumIfOtherwise_30 : decode cX1_sumIfOtherwise 30 = .ok (.aload_n 0, 1) := by decide +kernel
theorem dX1_sumIfOtherwise_31 : decode cX1_sumIfOtherwise 31 = .ok (.getfield 46, 3) := by decide +kernel
theorem dX1_sumIfOtherwise_34 : decode cX1_sumIfOtherwise 34 = .ok (.aload_n 0, 1) := by decide +kernel
theorem dX1_sumIfOtherwise_35 : decode cX1_sumIfOtherwise 35 = .ok (.getfield 27, 3) := by decide +kernel
theorem dX1_sumIfOtherwise_38 : decode cX1_sumIfOtherwise 38 = .ok (.invokevirtual 126, 3) := by decide +kernel
theorem dX1_sumIfOtherwise_41 : decode cX1_sumIfOtherwise 41 = .ok (.aload_n 0, 1) := by decide +kernel
theorem dX1_sumIfOtherwise_42 : decode cX1_sumIfOtherwise 42 = .ok (.getfield 23, 3) := by decide +kernel
theorem dX1_sumIfOtherwise_45 : decode cX1_sumIfOtherwise 45 = .ok (.invokevirtual 130, 3) := by decide +kernel
theorem dX1_sumIfOtherwise_48 : decode cX1_sumIfOtherwise 48 = .ok (.aload_n 2, 1) := by decide +kernel
theorem dX1_sumIfOtherwise_49 : decode cX1_sumIfOtherwise 49 = .ok (.iconst 1, 1) := by decide +kernel
theorem dX1_sumIfOtherwise_50 : decode cX1_sumIfOtherwise 50 = .ok (.aload_n 2, 1) := by decide +kernel
theorem dX1_sumIfOtherwise_51 : decode cX1_sumIfOtherwise 51 = .ok (.getfield 87, 3) := by decide +kernel
theorem dX1_sumIfOtherwise_54 : decode cX1_sumIfOtherwise 54 = .ok (.isub, 1) := by decide +kernel
theorem dX1_sumIfOtherwise_55 : decode cX1_sumIfOtherwise 55 = .ok (.putfield 87, 3) := by decide +kernel
theorem dX1_sumIfOtherwise_58 : decode cX1_sumIfOtherwise 58 = .ok (.aload_n 0, 1) := by decide +kernel
theorem dX1_sumIfOtherwise_59 : decode cX1_sumIfOtherwise 59 = .ok (.getfield 23, 3) := by decide +kernel
theorem dX1_sumIfOtherwise_62 : decode cX1_sumIfOtherwise 62 = .ok (.getfield 141, 3) := by decide +kernel
theorem dX1_sumIfOtherwise_65 : decode cX1_sumIfOtherwise 65 = .ok (.ireturn, 1) := by decide +kernel
theorem dX1_opponents_0 : decode cX1_opponents 0 = .ok (.aload_n 0, 1) := by decide +kernel
theorem dX1_opponents_1 : decode cX1_opponents 1 = .ok (.getfield 46, 3) := by decide +kernel
theorem dX1_opponents_4 : decode cX1_opponents 4 = .ok (.iload_n 1, 1) := by decide +kernel
theorem dX1_opponents_5 : decode cX1_opponents 5 = .ok (.aaload, 1) := by decide +kernel
theorem dX1_opponents_6 : decode cX1_opponents 6 = .ok (.astore_n 3, 1) := by decide +kernel
theorem dX1_opponents_7 : decode cX1_opponents 7 = .ok (.iconst 0, 1) := by decide +kernel
theorem dX1_opponents_8 : decode cX1_opponents 8 = .ok (.istore 4, 2) := by decide +kernel
theorem dX1_opponents_10 : decode cX1_opponents 10 = .ok (.iconst 0, 1) := by decide +kernel
theorem dX1_opponents_11 : decode cX1_opponents 11 = .ok (.istore 5, 2) := by decide +kernel
theorem dX1_opponents_13 : decode cX1_opponents 13 = .ok (.iload 5, 2) := by decide +kernel
theorem dX1_opponents_15 : decode cX1_opponents 15 = .ok (.aload_n 0, 1) := by decide +kernel
theorem dX1_opponents_16 : decode cX1_opponents 16 = .ok (.getfield 41, 3) := by decide +kernel
theorem dX1_opponents_19 : decode cX1_opponents 19 = .ok (.if_icmp .ge 71, 3) := by decide +kernel
theorem dX1_opponents_22 : decode cX1_opponents 22 = .ok (.aload_n 2, 1) := by decide +kernel
theorem dX1_opponents_23 : decode cX1_opponents 23 = .ok (.iload 5, 2) := by decide +kernel
theorem dX1_opponents_25 : decode cX1_opponents 25 = .ok (.aaload, 1) := by decide +kernel
theorem dX1_opponents_26 : decode cX1_opponents 26 = .ok (.astore 6, 2) := by decide +kernel
theorem dX1_opponents_28 : decode cX1_opponents 28 = .ok (.iload 5, 2) := by decide +kernel
theorem dX1_opponents_30 : decode cX1_opponents 30 = .ok (.aload_n 3, 1) := by decide +kernel
theorem dX1_opponents_31 : decode cX1_opponents 31 = .ok (.getfield 78, 3) := by decide +kernel
theorem dX1_opponents_34 : decode cX1_opponents 34 = .ok (.if_icmp .eq 50, 3) := by decide +kernel
theorem dX1_opponents_37 : decode cX1_opponents 37 = .ok (.aload 6, 2) := by decide +kernel
theorem dX1_opponents_39 : decode cX1_opponents 39 = .ok (.invokevirtual 144, 3) := by decide +kernel
theorem dX1_opponents_42 : decode cX1_opponents 42 = .ok (.ifCond .ne 6, 3) := by decide +kernel
theorem dX1_opponents_45 : decode cX1_opponents 45 = .ok (.goto 39, 3) := by decide +kernel
theorem dX1_opponents_48 : decode cX1_opponents 48 = .ok (.aload_n 0, 1) := by decide +kernel
theorem dX1_opponents_49 : decode cX1_opponents 49 = .ok (.getfield 12, 3) := by decide +kernel
theorem dX1_opponents_52 : decode cX1_opponents 52 = .ok (.aload 6, 2) := by decide +kernel
theorem dX1_opponents_54 : decode cX1_opponents 54 = .ok (.getfield 96, 3) := by decide +kernel
theorem dX1_opponents_57 : decode cX1_opponents 57 = .ok (.getfield 148, 3) := by decide +kernel
theorem dX1_opponents_60 : decode cX1_opponents 60 = .ok (.aload_n 0, 1) := by decide +kernel
theorem dX1_opponents_61 : decode cX1_opponents 61 = .ok (.iload_n 1, 1) := by decide +kernel
theorem dX1_opponents_62 : decode cX1_opponents 62 = .ok (.invokevirtual 119, 3) := by decide +kernel
theorem dX1_opponents_65 : decode cX1_opponents 65 = .ok (.invokevirtual 151, 3) := by decide +kernel
theorem dX1_opponents_68 : decode cX1_opponents 68 = .ok (.aload_n 3, 1) := by decide +kernel
theorem dX1_opponents_69 : decode cX1_opponents 69 = .ok (.getfield 87, 3) := by decide +kernel
theorem dX1_opponents_72 : decode cX1_opponents 72 = .ok (.if_icmp .eq 12, 3) := by decide +kernel
theorem dX1_opponents_75 : decode cX1_opponents 75 = .ok (.iload 4, 2) := by decide +kernel
theorem dX1_opponents_77 : decode cX1_opponents 77 = .ok (.iconst 1, 1) := by decide +kernel
theorem dX1_opponents_78 : decode cX1_opponents 78 = .ok (.iload 5, 2) := by decide +kernel
theorem dX1_opponents_80 : decode cX1_opponents 80 = .ok (.ishl, 1) := by decide +kernel
theorem dX1_opponents_81 : decode cX1_opponents 81 = .ok (.ior, 1) := by decide +kernel
theorem dX1_opponents_82 : decode cX1_opponents 82 = .ok (.istore 4, 2) := by decide +kernel
theorem dX1_opponents_84 : decode cX1_opponents 84 = .ok (.iinc 5 1, 3) := by decide +kernel
theorem dX1_opponents_87 : decode cX1_opponents 87 = .ok (.goto (-74), 3) := by decide +kernel
theorem dX1_opponents_90 : decode cX1_opponents 90 = .ok (.iload 4, 2) := by decide +kernel
theorem dX1_opponents_92 : decode cX1_opponents 92 = .ok (.ireturn, 1) := by decide +kernel
theorem dX1_knownToAll_0 : decode cX1_knownToAll 0 = .ok (.iconst 0, 1) := by decide +kernel
theorem dX1_knownToAll_1 : decode cX1_knownToAll 1 = .ok (.istore_n 3, 1) := by decide +kernel
theorem dX1_knownToAll_2 : decode cX1_knownToAll 2 = .ok (.iconst 0, 1) := by decide +kernel
theorem dX1_knownToAll_3 : decode cX1_knownToAll 3 = .ok (.istore 4, 2) := by decide +kernel
theorem dX1_knownToAll_5 : decode cX1_knownToAll 5 = .ok (.iconst 0, 1) := by decide +kernel
theorem dX1_knownToAll_6 : decode cX1_knownToAll 6 = .ok (.istore 5, 2) := by decide +kernel
theorem dX1_knownToAll_8 : decode cX1_knownToAll 8 = .ok (.iload 5, 2) := by decide +kernel
theorem dX1_knownToAll_10 : decode cX1_knownToAll 10 = .ok (.aload_n 0, 1) := by decide +kernel
theorem dX1_knownToAll_11 : decode cX1_knownToAll 11 = .ok (.getfield 41, 3) := by decide +kernel
theorem dX1_knownToAll_14 : decode cX1_knownToAll 14 = .ok (.if_icmp .ge 52, 3) := by decide +kernel
theorem dX1_knownToAll_17 : decode cX1_knownToAll 17 = .ok (.aload_n 2, 1) := by decide +kernel
theorem dX1_knownToAll_18 : decode cX1_knownToAll 18 = .ok (.iload 5, 2) := by decide +kernel
theorem dX1_knownToAll_20 : decode cX1_knownToAll 20 = .ok (.aaload, 1) := by decide +kernel
theorem dX1_knownToAll_21 : decode cX1_knownToAll 21 = .ok (.astore 6, 2) := by decide +kernel
theorem dX1_knownToAll_23 : decode cX1_knownToAll 23 = .ok (.aload 6, 2) := by decide +kernel
theorem dX1_knownToAll_25 : decode cX1_knownToAll 25 = .ok (.invokevirtual 144, 3) := by decide +kernel
theorem dX1_knownToAll_28 : decode cX1_knownToAll 28 = .ok (.ifCond .ne 6, 3) := by decide +kernel
theorem dX1_knownToAll_31 : decode cX1_knownToAll 31 = .ok (.goto 29, 3) := by decide +kernel
theorem dX1_knownToAll_34 : decode cX1_knownToAll 34 = .ok (.iload_n 3, 1) := by decide +kernel
theorem dX1_knownToAll_35 : decode cX1_knownToAll 35 = .ok (.aload 6, 2) := by decide +kernel
theorem dX1_knownToAll_37 : decode cX1_knownToAll 37 = .ok (.getfield 96, 3) := by decide +kernel
theorem dX1_knownToAll_40 : decode cX1_knownToAll 40 = .ok (.iload_n 1, 1) := by decide +kernel
theorem dX1_knownToAll_41 : decode cX1_knownToAll 41 = .ok (.invokevirtual 155, 3) := by decide +kernel
theorem dX1_knownToAll_44 : decode cX1_knownToAll 44 = .ok (.ior, 1) := by decide +kernel
theorem dX1_knownToAll_45 : decode cX1_knownToAll 45 = .ok (.istore_n 3, 1) := by decide +kernel
theorem dX1_knownToAll_46 : decode cX1_knownToAll 46 = .ok (.iload 4, 2) := by decide +kernel
theorem dX1_knownToAll_48 : decode cX1_knownToAll 48 = .ok (.aload 6, 2) := by decide +kernel
theorem dX1_knownToAll_50 : decode cX1_knownToAll 50 = .ok (.getfield 96, 3) := by decide +kernel
theorem dX1_knownToAll_53 : decode cX1_knownToAll 53 = .ok (.iload_n 1, 1) := by decide +kernel
theorem dX1_knownToAll_54 : decode cX1_knownToAll 54 = .ok (.invokevirtual 158, 3) := by decide +kernel
theorem dX1_knownToAll_57 : decode cX1_knownToAll 57 = .ok (.ior, 1) := by decide +kernel
theorem dX1_knownToAll_58 : decode cX1_knownToAll 58 = .ok (.istore 4, 2) := by decide +kernel
theorem dX1_knownToAll_60 : decode cX1_knownToAll 60 = .ok (.iinc 5 1, 3) := by decide +kernel
theorem dX1_knownToAll_63 : decode cX1_knownToAll 63 = .ok (.goto (-55), 3) := by decide +kernel
theorem dX1_knownToAll_66 : decode cX1_knownToAll 66 = .ok (.iload_n 3, 1) := by decide +kernel
theorem dX1_knownToAll_67 : decode cX1_knownToAll 67 = .ok (.ifCond .eq 8, 3) := by decide +kernel
theorem dX1_knownToAll_70 : decode cX1_knownToAll 70 = .ok (.iload 4, 2) := by decide +kernel
theorem dX1_knownToAll_72 : decode cX1_knownToAll 72 = .ok (.ifCond .ne 7, 3) := by decide +kernel
theorem dX1_knownToAll_75 : decode cX1_knownToAll 75 = .ok (.iconst 1, 1) := by decide +kernel
theorem dX1_knownToAll_76 : decode cX1_knownToAll 76 = .ok (.goto 4, 3) := by decide +kernel
theorem dX1_knownToAll_79 : decode cX1_knownToAll 79 = .ok (.iconst 0, 1) := by decide +kernel
theorem dX1_knownToAll_80 : decode cX1_knownToAll 80 = .ok (.ireturn, 1) := by decide +kernel
theorem dX1_manyUnsure_0 : decode cX1_manyUnsure 0 = .ok (.iconst 0, 1) := by decide +kernel
theorem dX1_manyUnsure_1 : decode cX1_manyUnsure 1 = .ok (.istore_n 3, 1) := by decide +kernel
theorem dX1_manyUnsure_2 : decode cX1_manyUnsure 2 = .ok (.iconst 0, 1) := by decide +kernel
theorem dX1_manyUnsure_3 : decode cX1_manyUnsure 3 = .ok (.istore 4, 2) := by decide +kernel
theorem dX1_manyUnsure_5 : decode cX1_manyUnsure 5 = .ok (.iload 4, 2) := by decide +kernel
theorem dX1_manyUnsure_7 : decode cX1_manyUnsure 7 = .ok (.aload_n 0, 1) := by decide +kernel
theorem dX1_manyUnsure_8 : decode cX1_manyUnsure 8 = .ok (.getfield 41, 3) := by decide +kernel
theorem dX1_manyUnsure_11 : decode cX1_manyUnsure 11 = .ok (.if_icmp .ge 39, 3) := by decide +kernel
theorem dX1_manyUnsure_14 : decode cX1_manyUnsure 14 = .ok (.aload_n 2, 1) := by decide +kernel
theorem dX1_manyUnsure_15 : decode cX1_manyUnsure 15 = .ok (.iload 4, 2) := by decide +kernel
theorem dX1_manyUnsure_17 : decode cX1_manyUnsure 17 = .ok (.aaload, 1) := by decide +kernel
theorem dX1_manyUnsure_18 : decode cX1_manyUnsure 18 = .ok (.astore 5, 2) := by decide +kernel
theorem dX1_manyUnsure_20 : decode cX1_manyUnsure 20 = .ok (.aload 5, 2) := by decide +kernel
theorem dX1_manyUnsure_22 : decode cX1_manyUnsure 22 = .ok (.invokevirtual 144, 3) := by decide +kernel
theorem dX1_manyUnsure_25 : decode cX1_manyUnsure 25 = .ok (.ifCond .eq 19, 3) := by decide +kernel
theorem dX1_manyUnsure_28 : decode cX1_manyUnsure 28 = .ok (.aload 5, 2) := by decide +kernel
theorem dX1_manyUnsure_30 : decode cX1_manyUnsure 30 = .ok (.getfield 96, 3) := by decide +kernel
theorem dX1_manyUnsure_33 : decode cX1_manyUnsure 33 = .ok (.iload_n 1, 1) := by decide +kernel
theorem dX1_manyUnsure_34 : decode cX1_manyUnsure 34 = .ok (.invokevirtual 161, 3) := by decide +kernel
theorem dX1_manyUnsure_37 : decode cX1_manyUnsure 37 = .ok (.iconst 2, 1) := by decide +kernel
theorem dX1_manyUnsure_38 : decode cX1_manyUnsure 38 = .ok (.if_icmp .ne 6, 3) := by decide +kernel
theorem dX1_manyUnsure_41 : decode cX1_manyUnsure 41 = .ok (.iinc 3 1, 3) := by decide +kernel
theorem dX1_manyUnsure_44 : decode cX1_manyUnsure 44 = .ok (.iinc 4 1, 3) := by decide +kernel
theorem dX1_manyUnsure_47 : decode cX1_manyUnsure 47 = .ok (.goto (-42), 3) := by decide +kernel
theorem dX1_manyUnsure_50 : decode cX1_manyUnsure 50 = .ok (.iload_n 3, 1) := by decide +kernel
theorem dX1_manyUnsure_51 : decode cX1_manyUnsure 51 = .ok (.ireturn, 1) := by decide +kernel
theorem dX1_yearsApart_0 : decode cX1_yearsApart 0 = .ok (.sipush 1000, 3) := by decide +kernel
theorem dX1_yearsApart_3 : decode cX1_yearsApart 3 = .ok (.istore_n 2, 1) := by decide +kernel
theorem dX1_yearsApart_4 : decode cX1_yearsApart 4 = .ok (.iconst (-1), 1) := by decide +kernel
theorem dX1_yearsApart_5 : decode cX1_yearsApart 5 = .ok (.istore_n 3, 1) := by decide +kernel
theorem dX1_yearsApart_6 : decode cX1_yearsApart 6 = .ok (.iconst 0, 1) := by decide +kernel
theorem dX1_yearsApart_7 : decode cX1_yearsApart 7 = .ok (.istore 4, 2) := by decide +kernel
theorem dX1_yearsApart_9 : decode cX1_yearsApart 9 = .ok (.iload 4, 2) := by decide +kernel
theorem dX1_yearsApart_11 : decode cX1_yearsApart 11 = .ok (.aload_n 0, 1) := by decide +kernel
theorem dX1_yearsApart_12 : decode cX1_yearsApart 12 = .ok (.getfield 50, 3) := by decide +kernel
theorem dX1_yearsApart_15 : decode cX1_yearsApart 15 = .ok (.if_icmp .ge 59, 3) := by decide +kernel
theorem dX1_yearsApart_18 : decode cX1_yearsApart 18 = .ok (.iload_n 1, 1) := by decide +kernel
theorem dX1_yearsApart_19 : decode cX1_yearsApart 19 = .ok (.aload_n 0, 1) := by decide +kernel
theorem dX1_yearsApart_20 : decode cX1_yearsApart 20 = .ok (.getfield 46, 3) := by decide +kernel
theorem dX1_yearsApart_23 : decode cX1_yearsApart 23 = .ok (.iload 4, 2) := by decide +kernel
theorem dX1_yearsApart_25 : decode cX1_yearsApart 25 = .ok (.aaload, 1) := by decide +kernel
theorem dX1_yearsApart_26 : decode cX1_yearsApart 26 = .ok (.getfield 78, 3) := by decide +kernel
theorem dX1_yearsApart_29 : decode cX1_yearsApart 29 = .ok (.iushr, 1) := by decide +kernel
theorem dX1_yearsApart_30 : decode cX1_yearsApart 30 = .ok (.iconst 1, 1) := by decide +kernel
theorem dX1_yearsApart_31 : decode cX1_yearsApart 31 = .ok (.iand, 1) := by decide +kernel
theorem dX1_yearsApart_32 : decode cX1_yearsApart 32 = .ok (.ifCond .ne 6, 3) := by decide +kernel
theorem dX1_yearsApart_35 : decode cX1_yearsApart 35 = .ok (.goto 33, 3) := by decide +kernel
theorem dX1_yearsApart_38 : decode cX1_yearsApart 38 = .ok (.iload_n 2, 1) := by decide +kernel
theorem dX1_yearsApart_39 : decode cX1_yearsApart 39 = .ok (.aload_n 0, 1) := by decide +kernel
theorem dX1_yearsApart_40 : decode cX1_yearsApart 40 = .ok (.getfield 46, 3) := by decide +kernel
theorem dX1_yearsApart_43 : decode cX1_yearsApart 43 = .ok (.iload 4, 2) := by decide +kernel
theorem dX1_yearsApart_45 : decode cX1_yearsApart 45 = .ok (.aaload, 1) := by decide +kernel
theorem dX1_yearsApart_46 : decode cX1_yearsApart 46 = .ok (.getfield 84, 3) := by decide +kernel
theorem dX1_yearsApart_49 : decode cX1_yearsApart 49 = .ok (.invokestatic 164, 3) := by decide +kernel
theorem dX1_yearsApart_52 : decode cX1_yearsApart 52 = .ok (.istore_n 2, 1) := by decide +kernel
theorem dX1_yearsApart_53 : decode cX1_yearsApart 53 = .ok (.iload_n 3, 1) := by decide +kernel
theorem dX1_yearsApart_54 : decode cX1_yearsApart 54 = .ok (.aload_n 0, 1) := by decide +kernel
theorem dX1_yearsApart_55 : decode cX1_yearsApart 55 = .ok (.getfield 46, 3) := by decide +kernel
theorem dX1_yearsApart_58 : decode cX1_yearsApart 58 = .ok (.iload 4, 2) := by decide +kernel
theorem dX1_yearsApart_60 : decode cX1_yearsApart 60 = .ok (.aaload, 1) := by decide +kernel
theorem dX1_yearsApart_61 : decode cX1_yearsApart 61 = .ok (.getfield 84, 3) := by decide +kernel
theorem dX1_yearsApart_64 : decode cX1_yearsApart 64 = .ok (.invokestatic 169, 3) := by decide +kernel
theorem dX1_yearsApart_67 : decode cX1_yearsApart 67 = .ok (.istore_n 3, 1) := by decide +kernel
theorem dX1_yearsApart_68 : decode cX1_yearsApart 68 = .ok (.iinc 4 1, 3) := by decide +kernel
theorem dX1_yearsApart_71 : decode cX1_yearsApart 71 = .ok (.goto (-62), 3) := by decide +kernel
theorem dX1_yearsApart_74 : decode cX1_yearsApart 74 = .ok (.iconst 0, 1) := by decide +kernel
theorem dX1_yearsApart_75 : decode cX1_yearsApart 75 = .ok (.iload_n 3, 1) := by decide +kernel
theorem dX1_yearsApart_76 : decode cX1_yearsApart 76 = .ok (.iload_n 2, 1) := by decide +kernel
theorem dX1_yearsApart_77 : decode cX1_yearsApart 77 = .ok (.isub, 1) := by decide +kernel
theorem dX1_yearsApart_78 : decode cX1_yearsApart 78 = .ok (.invokestatic 169, 3) := by decide +kernel
theorem dX1_yearsApart_81 : decode cX1_yearsApart 81 = .ok (.ireturn, 1) := by decide +kernel
theorem dX1_digestFrom_0 : decode cX1_digestFrom 0 = .ok (.lload_n 1, 1) := by decide +kernel
theorem dX1_digestFrom_1 : decode cX1_digestFrom 1 = .ok (.lstore_n 3, 1) := by decide +kernel
theorem dX1_digestFrom_2 : decode cX1_digestFrom 2 = .ok (.iconst 0, 1) := by decide +kernel
theorem dX1_digestFrom_3 : decode cX1_digestFrom 3 = .ok (.istore 5, 2) := by decide +kernel
theorem dX1_digestFrom_5 : decode cX1_digestFrom 5 = .ok (.iload 5, 2) := by decide +kernel
theorem dX1_digestFrom_7 : decode cX1_digestFrom 7 = .ok (.aload_n 0, 1) := by decide +kernel
theorem dX1_digestFrom_8 : decode cX1_digestFrom 8 = .ok (.getfield 31, 3) := by decide +kernel
theorem dX1_digestFrom_11 : decode cX1_digestFrom 11 = .ok (.if_icmp .ge 24, 3) := by decide +kernel
theorem dX1_digestFrom_14 : decode cX1_digestFrom 14 = .ok (.ldc2_w 172, 3) := by decide +kernel
theorem dX1_digestFrom_17 : decode cX1_digestFrom 17 = .ok (.lload_n 3, 1) := by decide +kernel
theorem dX1_digestFrom_18 : decode cX1_digestFrom 18 = .ok (.lmul, 1) := by decide +kernel
theorem dX1_digestFrom_19 : decode cX1_digestFrom 19 = .ok (.aload_n 0, 1) := by decide +kernel
theorem dX1_digestFrom_20 : decode cX1_digestFrom 20 = .ok (.getfield 27, 3) := by decide +kernel
theorem dX1_digestFrom_23 : decode cX1_digestFrom 23 = .ok (.iload 5, 2) := by decide +kernel
theorem dX1_digestFrom_25 : decode cX1_digestFrom 25 = .ok (.iaload, 1) := by decide +kernel
theorem dX1_digestFrom_26 : decode cX1_digestFrom 26 = .ok (.i2l, 1) := by decide +kernel
theorem dX1_digestFrom_27 : decode cX1_digestFrom 27 = .ok (.ladd, 1) := by decide +kernel
theorem dX1_digestFrom_28 : decode cX1_digestFrom 28 = .ok (.lstore_n 3, 1) := by decide +kernel
theorem dX1_digestFrom_29 : decode cX1_digestFrom 29 = .ok (.iinc 5 1, 3) := by decide +kernel
theorem dX1_digestFrom_32 : decode cX1_digestFrom 32 = .ok (.goto (-27), 3) := by decide +kernel
theorem dX1_digestFrom_35 : decode cX1_digestFrom 35 = .ok (.iconst 0, 1) := by decide +kernel
theorem dX1_digestFrom_36 : decode cX1_digestFrom 36 = .ok (.istore 5, 2) := by decide +kernel
theorem dX1_digestFrom_38 : decode cX1_digestFrom 38 = .ok (.iload 5, 2) := by decide +kernel
theorem dX1_digestFrom_40 : decode cX1_digestFrom 40 = .ok (.aload_n 0, 1) := by decide +kernel
theorem dX1_digestFrom_41 : decode cX1_digestFrom 41 = .ok (.getfield 41, 3) := by decide +kernel
theorem dX1_digestFrom_44 : decode cX1_digestFrom 44 = .ok (.if_icmp .ge 40, 3) := by decide +kernel
theorem dX1_digestFrom_47 : decode cX1_digestFrom 47 = .ok (.iconst 0, 1) := by decide +kernel
theorem dX1_digestFrom_48 : decode cX1_digestFrom 48 = .ok (.istore 6, 2) := by decide +kernel
theorem dX1_digestFrom_50 : decode cX1_digestFrom 50 = .ok (.iload 6, 2) := by decide +kernel
theorem dX1_digestFrom_52 : decode cX1_digestFrom 52 = .ok (.iconst 5, 1) := by decide +kernel
theorem dX1_digestFrom_53 : decode cX1_digestFrom 53 = .ok (.if_icmp .ge 25, 3) := by decide +kernel
theorem dX1_digestFrom_56 : decode cX1_digestFrom 56 = .ok (.ldc2_w 172, 3) := by decide +kernel
theorem dX1_digestFrom_59 : decode cX1_digestFrom 59 = .ok (.lload_n 3, 1) := by decide +kernel
theorem dX1_digestFrom_60 : decode cX1_digestFrom 60 = .ok (.lmul, 1) := by decide +kernel
theorem dX1_digestFrom_61 : decode cX1_digestFrom 61 = .ok (.aload_n 0, 1) := by decide +kernel
theorem dX1_digestFrom_62 : decode cX1_digestFrom 62 = .ok (.iload 5, 2) := by decide +kernel
theorem dX1_digestFrom_64 : decode cX1_digestFrom 64 = .ok (.iload 6, 2) := by decide +kernel
theorem dX1_digestFrom_66 : decode cX1_digestFrom 66 = .ok (.invokevirtual 174, 3) := by decide +kernel
theorem dX1_digestFrom_69 : decode cX1_digestFrom 69 = .ok (.i2l, 1) := by decide +kernel
theorem dX1_digestFrom_70 : decode cX1_digestFrom 70 = .ok (.ladd, 1) := by decide +kernel
theorem dX1_digestFrom_71 : decode cX1_digestFrom 71 = .ok (.lstore_n 3, 1) := by decide +kernel
theorem dX1_digestFrom_72 : decode cX1_digestFrom 72 = .ok (.iinc 6 1, 3) := by decide +kernel
theorem dX1_digestFrom_75 : decode cX1_digestFrom 75 = .ok (.goto (-25), 3) := by decide +kernel
theorem dX1_digestFrom_78 : decode cX1_digestFrom 78 = .ok (.iinc 5 1, 3) := by decide +kernel
theorem dX1_digestFrom_81 : decode cX1_digestFrom 81 = .ok (.goto (-43), 3) := by decide +kernel
theorem dX1_digestFrom_84 : decode cX1_digestFrom 84 = .ok (.iconst 0, 1) := by decide +kernel
theorem dX1_digestFrom_85 : decode cX1_digestFrom 85 = .ok (.istore 5, 2) := by decide +kernel
theorem dX1_digestFrom_87 : decode cX1_digestFrom 87 = .ok (.iload 5, 2) := by decide +kernel
theorem dX1_digestFrom_89 : decode cX1_digestFrom 89 = .ok (.aload_n 0, 1) := by decide +kernel
theorem dX1_digestFrom_90 : decode cX1_digestFrom 90 = .ok (.getfield 50, 3) := by decide +kernel
theorem dX1_digestFrom_93 : decode cX1_digestFrom 93 = .ok (.if_icmp .ge 80, 3) := by decide +kernel
theorem dX1_digestFrom_96 : decode cX1_digestFrom 96 = .ok (.iconst 0, 1) := by decide +kernel
theorem dX1_digestFrom_97 : decode cX1_digestFrom 97 = .ok (.istore 6, 2) := by decide +kernel
theorem dX1_digestFrom_99 : decode cX1_digestFrom 99 = .ok (.iload 6, 2) := by decide +kernel
theorem dX1_digestFrom_101 : decode cX1_digestFrom 101 = .ok (.iconst 5, 1) := by decide +kernel
theorem dX1_digestFrom_102 : decode cX1_digestFrom 102 = .ok (.if_icmp .ge 29, 3) := by decide +kernel
theorem dX1_digestFrom_105 : decode cX1_digestFrom 105 = .ok (.ldc2_w 172, 3) := by decide +kernel
theorem dX1_digestFrom_108 : decode cX1_digestFrom 108 = .ok (.lload_n 3, 1) := by decide +kernel
theorem dX1_digestFrom_109 : decode cX1_digestFrom 109 = .ok (.lmul, 1) := by decide +kernel
theorem dX1_digestFrom_110 : decode cX1_digestFrom 110 = .ok (.aload_n 0, 1) := by decide +kernel
theorem dX1_digestFrom_111 : decode cX1_digestFrom 111 = .ok (.getfield 46, 3) := by decide +kernel
theorem dX1_digestFrom_114 : decode cX1_digestFrom 114 = .ok (.iload 5, 2) := by decide +kernel
theorem dX1_digestFrom_116 : decode cX1_digestFrom 116 = .ok (.aaload, 1) := by decide +kernel
theorem dX1_digestFrom_117 : decode cX1_digestFrom 117 = .ok (.iload 6, 2) := by decide +kernel
theorem dX1_digestFrom_119 : decode cX1_digestFrom 119 = .ok (.invokevirtual 177, 3) := by decide +kernel
theorem dX1_digestFrom_122 : decode cX1_digestFrom 122 = .ok (.i2l, 1) := by decide +kernel
theorem dX1_digestFrom_123 : decode cX1_digestFrom 123 = .ok (.ladd, 1) := by decide +kernel
theorem dX1_digestFrom_124 : decode cX1_digestFrom 124 = .ok (.lstore_n 3, 1) := by decide +kernel
theorem dX1_digestFrom_125 : decode cX1_digestFrom 125 = .ok (.iinc 6 1, 3) := by decide +kernel
theorem dX1_digestFrom_128 : decode cX1_digestFrom 128 = .ok (.goto (-29), 3) := by decide +kernel
theorem dX1_digestFrom_131 : decode cX1_digestFrom 131 = .ok (.iconst 0, 1) := by decide +kernel
theorem dX1_digestFrom_132 : decode cX1_digestFrom 132 = .ok (.istore 6, 2) := by decide +kernel
theorem dX1_digestFrom_134 : decode cX1_digestFrom 134 = .ok (.iload 6, 2) := by decide +kernel
theorem dX1_digestFrom_136 : decode cX1_digestFrom 136 = .ok (.iconst 5, 1) := by decide +kernel
theorem dX1_digestFrom_137 : decode cX1_digestFrom 137 = .ok (.if_icmp .ge 30, 3) := by decide +kernel
theorem dX1_digestFrom_140 : decode cX1_digestFrom 140 = .ok (.ldc2_w 172, 3) := by decide +kernel
theorem dX1_digestFrom_143 : decode cX1_digestFrom 143 = .ok (.lload_n 3, 1) := by decide +kernel
theorem dX1_digestFrom_144 : decode cX1_digestFrom 144 = .ok (.lmul, 1) := by decide +kernel
theorem dX1_digestFrom_145 : decode cX1_digestFrom 145 = .ok (.aload_n 0, 1) := by decide +kernel
theorem dX1_digestFrom_146 : decode cX1_digestFrom 146 = .ok (.getfield 46, 3) := by decide +kernel
theorem dX1_digestFrom_149 : decode cX1_digestFrom 149 = .ok (.iload 5, 2) := by decide +kernel
theorem dX1_digestFrom_151 : decode cX1_digestFrom 151 = .ok (.aaload, 1) := by decide +kernel
theorem dX1_digestFrom_152 : decode cX1_digestFrom 152 = .ok (.getfield 180, 3) := by decide +kernel
theorem dX1_digestFrom_155 : decode cX1_digestFrom 155 = .ok (.iload 6, 2) := by decide +kernel
theorem dX1_digestFrom_157 : decode cX1_digestFrom 157 = .ok (.iaload, 1) := by decide +kernel
theorem dX1_digestFrom_158 : decode cX1_digestFrom 158 = .ok (.i2l, 1) := by decide +kernel
theorem dX1_digestFrom_159 : decode cX1_digestFrom 159 = .ok (.ladd, 1) := by decide +kernel
theorem dX1_digestFrom_160 : decode cX1_digestFrom 160 = .ok (.lstore_n 3, 1) := by decide +kernel
theorem dX1_digestFrom_161 : decode cX1_digestFrom 161 = .ok (.iinc 6 1, 3) := by decide +kernel
theorem dX1_digestFrom_164 : decode cX1_digestFrom 164 = .ok (.goto (-30), 3) := by decide +kernel
theorem dX1_digestFrom_167 : decode cX1_digestFrom 167 = .ok (.iinc 5 1, 3) := by decide +kernel
theorem dX1_digestFrom_170 : decode cX1_digestFrom 170 = .ok (.goto (-83), 3) := by decide +kernel
theorem dX1_digestFrom_173 : decode cX1_digestFrom 173 = .ok (.ldc2_w 172, 3) := by decide +kernel
theorem dX1_digestFrom_176 : decode cX1_digestFrom 176 = .ok (.lload_n 3, 1) := by decide +kernel
theorem dX1_digestFrom_177 : decode cX1_digestFrom 177 = .ok (.lmul, 1) := by decide +kernel
theorem dX1_digestFrom_178 : decode cX1_digestFrom 178 = .ok (.aload_n 0, 1) := by decide +kernel
theorem dX1_digestFrom_179 : decode cX1_digestFrom 179 = .ok (.getfield 23, 3) := by decide +kernel
theorem dX1_digestFrom_182 : decode cX1_digestFrom 182 = .ok (.getfield 106, 3) := by decide +kernel
theorem dX1_digestFrom_185 : decode cX1_digestFrom 185 = .ok (.i2l, 1) := by decide +kernel
theorem dX1_digestFrom_186 : decode cX1_digestFrom 186 = .ok (.ladd, 1) := by decide +kernel
theorem dX1_digestFrom_187 : decode cX1_digestFrom 187 = .ok (.lstore_n 3, 1) := by decide +kernel
theorem dX1_digestFrom_188 : decode cX1_digestFrom 188 = .ok (.ldc2_w 172, 3) := by decide +kernel
theorem dX1_digestFrom_191 : decode cX1_digestFrom 191 = .ok (.lload_n 3, 1) := by decide +kernel
theorem dX1_digestFrom_192 : decode cX1_digestFrom 192 = .ok (.lmul, 1) := by decide +kernel
theorem dX1_digestFrom_193 : decode cX1_digestFrom 193 = .ok (.aload_n 0, 1) := by decide +kernel
theorem dX1_digestFrom_194 : decode cX1_digestFrom 194 = .ok (.getfield 23, 3) := by decide +kernel
theorem dX1_digestFrom_197 : decode cX1_digestFrom 197 = .ok (.getfield 109, 3) := by decide +kernel
theorem dX1_digestFrom_200 : decode cX1_digestFrom 200 = .ok (.i2l, 1) := by decide +kernel
theorem dX1_digestFrom_201 : decode cX1_digestFrom 201 = .ok (.ladd, 1) := by decide +kernel
theorem dX1_digestFrom_202 : decode cX1_digestFrom 202 = .ok (.lstore_n 3, 1) := by decide +kernel
theorem dX1_digestFrom_203 : decode cX1_digestFrom 203 = .ok (.ldc2_w 172, 3) := by decide +kernel
theorem dX1_digestFrom_206 : decode cX1_digestFrom 206 = .ok (.lload_n 3, 1) := by decide +kernel
theorem dX1_digestFrom_207 : decode cX1_digestFrom 207 = .ok (.lmul, 1) := by decide +kernel
theorem dX1_digestFrom_208 : decode cX1_digestFrom 208 = .ok (.aload_n 0, 1) := by decide +kernel
theorem dX1_digestFrom_209 : decode cX1_digestFrom 209 = .ok (.getfield 23, 3) := by decide +kernel
theorem dX1_digestFrom_212 : decode cX1_digestFrom 212 = .ok (.getfield 112, 3) := by decide +kernel
theorem dX1_digestFrom_215 : decode cX1_digestFrom 215 = .ok (.i2l, 1) := by decide +kernel
theorem dX1_digestFrom_216 : decode cX1_digestFrom 216 = .ok (.ladd, 1) := by decide +kernel
theorem dX1_digestFrom_217 : decode cX1_digestFrom 217 = .ok (.lreturn, 1) := by decide +kernel
theorem dX2_init_0 : decode cX2_init 0 = .ok (.aload_n 0, 1) := by decide +kernel
theorem dX2_init_1 : decode cX2_init 1 = .ok (.invokespecial 3, 3) := by decide +kernel
theorem dX2_init_4 : decode cX2_init 4 = .ok (.aload_n 0, 1) := by decide +kernel
theorem dX2_init_5 : decode cX2_init 5 = .ok (.iconst 0, 1) := by decide +kernel
theorem dX2_init_6 : decode cX2_init 6 = .ok (.putfield 9, 3) := by decide +kernel
theorem dX2_init_9 : decode cX2_init 9 = .ok (.aload_n 0, 1) := by decide +kernel
theorem dX2_init_10 : decode cX2_init 10 = .ok (.aload_n 1, 1) := by decide +kernel
theorem dX2_init_11 : decode cX2_init 11 = .ok (.putfield 15, 3) := by decide +kernel
theorem dX2_init_14 : decode cX2_init 14 = .ok (.return_, 1) := by decide +kernel
theorem dX2_ruling_0 : decode cX2_ruling 0 = .ok (.iload_n 1, 1) := by decide +kernel
theorem dX2_ruling_1 : decode cX2_ruling 1 = .ok (.iconst 1, 1) := by decide +kernel
theorem dX2_ruling_2 : decode cX2_ruling 2 = .ok (.if_icmp .ne 12, 3) := by decide +kernel
theorem dX2_ruling_5 : decode cX2_ruling 5 = .ok (.aload_n 0, 1) := by decide +kernel
theorem dX2_ruling_6 : decode cX2_ruling 6 = .ok (.iload_n 2, 1) := by decide +kernel
theorem dX2_ruling_7 : decode cX2_ruling 7 = .ok (.aload_n 3, 1) := by decide +kernel
theorem dX2_ruling_8 : decode cX2_ruling 8 = .ok (.invokevirtual 19, 3) := by decide +kernel
theorem dX2_ruling_11 : decode cX2_ruling 11 = .ok (.goto 10, 3) := by decide +kernel
theorem dX2_ruling_14 : decode cX2_ruling 14 = .ok (.aload_n 0, 1) := by decide +kernel
theorem dX2_ruling_15 : decode cX2_ruling 15 = .ok (.iload_n 1, 1) := by decide +kernel
theorem dX2_ruling_16 : decode cX2_ruling 16 = .ok (.iload_n 2, 1) := by decide +kernel
theorem dX2_ruling_17 : decode cX2_ruling 17 = .ok (.aload_n 3, 1) := by decide +kernel
theorem dX2_ruling_18 : decode cX2_ruling 18 = .ok (.invokevirtual 23, 3) := by decide +kernel
theorem dX2_ruling_21 : decode cX2_ruling 21 = .ok (.ireturn, 1) := by decide +kernel
theorem dX2_ofTheMore_0 : decode cX2_ofTheMore 0 = .ok (.iconst 0, 1) := by decide +kernel
theorem dX2_ofTheMore_1 : decode cX2_ofTheMore 1 = .ok (.istore 4, 2) := by decide +kernel
theorem dX2_ofTheMore_3 : decode cX2_ofTheMore 3 = .ok (.iconst 0, 1) := by decide +kernel
theorem dX2_ofTheMore_4 : decode cX2_ofTheMore 4 = .ok (.istore 5, 2) := by decide +kernel
theorem dX2_ofTheMore_6 : decode cX2_ofTheMore 6 = .ok (.iconst 0, 1) := by decide +kernel
theorem dX2_ofTheMore_7 : decode cX2_ofTheMore 7 = .ok (.istore 6, 2) := by decide +kernel
theorem dX2_ofTheMore_9 : decode cX2_ofTheMore 9 = .ok (.iload 6, 2) := by decide +kernel
theorem dX2_ofTheMore_11 : decode cX2_ofTheMore 11 = .ok (.aload_n 0, 1) := by decide +kernel
theorem dX2_ofTheMore_12 : decode cX2_ofTheMore 12 = .ok (.getfield 15, 3) := by decide +kernel
theorem dX2_ofTheMore_15 : decode cX2_ofTheMore 15 = .ok (.getfield 27, 3) := by decide +kernel
theorem dX2_ofTheMore_18 : decode cX2_ofTheMore 18 = .ok (.if_icmp .ge 85, 3) := by decide +kernel
theorem dX2_ofTheMore_21 : decode cX2_ofTheMore 21 = .ok (.aload_n 3, 1) := by decide +kernel
theorem dX2_ofTheMore_22 : decode cX2_ofTheMore 22 = .ok (.iload 6, 2) := by decide +kernel
theorem dX2_ofTheMore_24 : decode cX2_ofTheMore 24 = .ok (.aaload, 1) := by decide +kernel
theorem dX2_ofTheMore_25 : decode cX2_ofTheMore 25 = .ok (.invokevirtual 32, 3) := by decide +kernel
theorem dX2_ofTheMore_28 : decode cX2_ofTheMore 28 = .ok (.ifCond .ne 6, 3) := by decide +kernel
theorem dX2_ofTheMore_31 : decode cX2_ofTheMore 31 = .ok (.goto 66, 3) := by decide +kernel
theorem dX2_ofTheMore_34 : decode cX2_ofTheMore 34 = .ok (.iload_n 1, 1) := by decide +kernel
theorem dX2_ofTheMore_35 : decode cX2_ofTheMore 35 = .ok (.ifCond .ne 7, 3) := by decide +kernel
theorem dX2_ofTheMore_38 : decode cX2_ofTheMore 38 = .ok (.iconst 1, 1) := by decide +kernel
theorem dX2_ofTheMore_39 : decode cX2_ofTheMore 39 = .ok (.goto 14, 3) := by decide +kernel
theorem dX2_ofTheMore_42 : decode cX2_ofTheMore 42 = .ok (.aload_n 0, 1) := by decide +kernel
theorem dX2_ofTheMore_43 : decode cX2_ofTheMore 43 = .ok (.getfield 15, 3) := by decide +kernel
theorem dX2_ofTheMore_46 : decode cX2_ofTheMore 46 = .ok (.iload 6, 2) := by decide +kernel
theorem dX2_ofTheMore_48 : decode cX2_ofTheMore 48 = .ok (.invokevirtual 38, 3) := by decide +kernel
theorem dX2_ofTheMore_51 : decode cX2_ofTheMore 51 = .ok (.iconst 1, 1) := by decide +kernel
theorem dX2_ofTheMore_52 : decode cX2_ofTheMore 52 = .ok (.iadd, 1) := by decide +kernel
theorem dX2_ofTheMore_53 : decode cX2_ofTheMore 53 = .ok (.istore 7, 2) := by decide +kernel
theorem dX2_ofTheMore_55 : decode cX2_ofTheMore 55 = .ok (.aload_n 0, 1) := by decide +kernel
theorem dX2_ofTheMore_56 : decode cX2_ofTheMore 56 = .ok (.getfield 15, 3) := by decide +kernel
theorem dX2_ofTheMore_59 : decode cX2_ofTheMore 59 = .ok (.getfield 42, 3) := by decide +kernel
theorem dX2_ofTheMore_62 : decode cX2_ofTheMore 62 = .ok (.aload_n 3, 1) := by decide +kernel
theorem dX2_ofTheMore_63 : decode cX2_ofTheMore 63 = .ok (.iload 6, 2) := by decide +kernel
theorem dX2_ofTheMore_65 : decode cX2_ofTheMore 65 = .ok (.aaload, 1) := by decide +kernel
theorem dX2_ofTheMore_66 : decode cX2_ofTheMore 66 = .ok (.getfield 46, 3) := by decide +kernel
theorem dX2_ofTheMore_69 : decode cX2_ofTheMore 69 = .ok (.getfield 50, 3) := by decide +kernel
theorem dX2_ofTheMore_72 : decode cX2_ofTheMore 72 = .ok (.iload_n 2, 1) := by decide +kernel
theorem dX2_ofTheMore_73 : decode cX2_ofTheMore 73 = .ok (.invokevirtual 55, 3) := by decide +kernel
theorem dX2_ofTheMore_76 : decode cX2_ofTheMore 76 = .ok (.iconst 1, 1) := by decide +kernel
theorem dX2_ofTheMore_77 : decode cX2_ofTheMore 77 = .ok (.if_icmp .ne 13, 3) := by decide +kernel
theorem dX2_ofTheMore_80 : decode cX2_ofTheMore 80 = .ok (.iload 4, 2) := by decide +kernel
theorem dX2_ofTheMore_82 : decode cX2_ofTheMore 82 = .ok (.iload 7, 2) := by decide +kernel
theorem dX2_ofTheMore_84 : decode cX2_ofTheMore 84 = .ok (.iadd, 1) := by decide +kernel
theorem dX2_ofTheMore_85 : decode cX2_ofTheMore 85 = .ok (.istore 4, 2) := by decide +kernel
theorem dX2_ofTheMore_87 : decode cX2_ofTheMore 87 = .ok (.goto 10, 3) := by decide +kernel
theorem dX2_ofTheMore_90 : decode cX2_ofTheMore 90 = .ok (.iload 5, 2) := by decide +kernel
theorem dX2_ofTheMore_92 : decode cX2_ofTheMore 92 = .ok (.iload 7, 2) := by decide +kernel
theorem dX2_ofTheMore_94 : decode cX2_ofTheMore 94 = .ok (.iadd, 1) := by decide +kernel
theorem dX2_ofTheMore_95 : decode cX2_ofTheMore 95 = .ok (.istore 5, 2) := by decide +kernel
theorem dX2_ofTheMore_97 : decode cX2_ofTheMore 97 = .ok (.iinc 6 1, 3) := by decide +kernel
theorem dX2_ofTheMore_100 : decode cX2_ofTheMore 100 = .ok (.goto (-91), 3) := by decide +kernel
theorem dX2_ofTheMore_103 : decode cX2_ofTheMore 103 = .ok (.aload_n 0, 1) := by decide +kernel
theorem dX2_ofTheMore_104 : decode cX2_ofTheMore 104 = .ok (.iload 4, 2) := by decide +kernel
theorem dX2_ofTheMore_106 : decode cX2_ofTheMore 106 = .ok (.putfield 9, 3) := by decide +kernel
theorem dX2_ofTheMore_109 : decode cX2_ofTheMore 109 = .ok (.iload 4, 2) := by decide +kernel
theorem dX2_ofTheMore_111 : decode cX2_ofTheMore 111 = .ok (.iload 5, 2) := by decide +kernel
theorem dX2_ofTheMore_113 : decode cX2_ofTheMore 113 = .ok (.if_icmp .ne 8, 3) := by decide +kernel
theorem dX2_ofTheMore_116 : decode cX2_ofTheMore 116 = .ok (.bipush (-9), 2) := by decide +kernel
theorem dX2_ofTheMore_118 : decode cX2_ofTheMore 118 = .ok (.goto 15, 3) := by decide +kernel
theorem dX2_ofTheMore_121 : decode cX2_ofTheMore 121 = .ok (.iload 4, 2) := by decide +kernel
theorem dX2_ofTheMore_123 : decode cX2_ofTheMore 123 = .ok (.iload 5, 2) := by decide +kernel
theorem dX2_ofTheMore_125 : decode cX2_ofTheMore 125 = .ok (.if_icmp .le 7, 3) := by decide +kernel
theorem dX2_ofTheMore_128 : decode cX2_ofTheMore 128 = .ok (.iconst 1, 1) := by decide +kernel
theorem dX2_ofTheMore_129 : decode cX2_ofTheMore 129 = .ok (.goto 4, 3) := by decide +kernel
theorem dX2_ofTheMore_132 : decode cX2_ofTheMore 132 = .ok (.iconst 0, 1) := by decide +kernel
theorem dX2_ofTheMore_133 : decode cX2_ofTheMore 133 = .ok (.ireturn, 1) := by decide +kernel
theorem dX2_ofTheLater_0 : decode cX2_ofTheLater 0 = .ok (.bipush (-9), 2) := by decide +kernel
theorem dX2_ofTheLater_2 : decode cX2_ofTheLater 2 = .ok (.istore_n 3, 1) := by decide +kernel
theorem dX2_ofTheLater_3 : decode cX2_ofTheLater 3 = .ok (.iconst 0, 1) := by decide +kernel
theorem dX2_ofTheLater_4 : decode cX2_ofTheLater 4 = .ok (.istore 4, 2) := by decide +kernel
theorem dX2_ofTheLater_6 : decode cX2_ofTheLater 6 = .ok (.iload 4, 2) := by decide +kernel
theorem dX2_ofTheLater_8 : decode cX2_ofTheLater 8 = .ok (.aload_n 0, 1) := by decide +kernel
theorem dX2_ofTheLater_9 : decode cX2_ofTheLater 9 = .ok (.getfield 15, 3) := by decide +kernel
theorem dX2_ofTheLater_12 : decode cX2_ofTheLater 12 = .ok (.getfield 27, 3) := by decide +kernel
theorem dX2_ofTheLater_15 : decode cX2_ofTheLater 15 = .ok (.if_icmp .ge 47, 3) := by decide +kernel
theorem dX2_ofTheLater_18 : decode cX2_ofTheLater 18 = .ok (.aload_n 2, 1) := by decide +kernel
theorem dX2_ofTheLater_19 : decode cX2_ofTheLater 19 = .ok (.iload 4, 2) := by decide +kernel
theorem dX2_ofTheLater_21 : decode cX2_ofTheLater 21 = .ok (.aaload, 1) := by decide +kernel
theorem dX2_ofTheLater_22 : decode cX2_ofTheLater 22 = .ok (.invokevirtual 32, 3) := by decide +kernel
theorem dX2_ofTheLater_25 : decode cX2_ofTheLater 25 = .ok (.ifCond .ne 6, 3) := by decide +kernel
theorem dX2_ofTheLater_28 : decode cX2_ofTheLater 28 = .ok (.goto 28, 3) := by decide +kernel
theorem dX2_ofTheLater_31 : decode cX2_ofTheLater 31 = .ok (.iload_n 3, 1) := by decide +kernel
theorem dX2_ofTheLater_32 : decode cX2_ofTheLater 32 = .ok (.bipush (-9), 2) := by decide +kernel
theorem dX2_ofTheLater_34 : decode cX2_ofTheLater 34 = .ok (.if_icmp .eq 19, 3) := by decide +kernel
theorem dX2_ofTheLater_37 : decode cX2_ofTheLater 37 = .ok (.aload_n 2, 1) := by decide +kernel
theorem dX2_ofTheLater_38 : decode cX2_ofTheLater 38 = .ok (.iload 4, 2) := by decide +kernel
theorem dX2_ofTheLater_40 : decode cX2_ofTheLater 40 = .ok (.aaload, 1) := by decide +kernel
theorem dX2_ofTheLater_41 : decode cX2_ofTheLater 41 = .ok (.getfield 61, 3) := by decide +kernel
theorem dX2_ofTheLater_44 : decode cX2_ofTheLater 44 = .ok (.aload_n 2, 1) := by decide +kernel
theorem dX2_ofTheLater_45 : decode cX2_ofTheLater 45 = .ok (.iload_n 3, 1) := by decide +kernel
theorem dX2_ofTheLater_46 : decode cX2_ofTheLater 46 = .ok (.aaload, 1) := by decide +kernel
theorem dX2_ofTheLater_47 : decode cX2_ofTheLater 47 = .ok (.getfield 61, 3) := by decide +kernel
theorem dX2_ofTheLater_50 : decode cX2_ofTheLater 50 = .ok (.if_icmp .le 6, 3) := by decide +kernel
theorem dX2_ofTheLater_53 : decode cX2_ofTheLater 53 = .ok (.iload 4, 2) := by decide +kernel
theorem dX2_ofTheLater_55 : decode cX2_ofTheLater 55 = .ok (.istore_n 3, 1) := by decide +kernel
theorem dX2_ofTheLater_56 : decode cX2_ofTheLater 56 = .ok (.iinc 4 1, 3) := by decide +kernel
theorem dX2_ofTheLater_59 : decode cX2_ofTheLater 59 = .ok (.goto (-53), 3) := by decide +kernel
theorem dX2_ofTheLater_62 : decode cX2_ofTheLater 62 = .ok (.aload_n 0, 1) := by decide +kernel
theorem dX2_ofTheLater_63 : decode cX2_ofTheLater 63 = .ok (.iload_n 3, 1) := by decide +kernel
theorem dX2_ofTheLater_64 : decode cX2_ofTheLater 64 = .ok (.putfield 9, 3) := by decide +kernel
theorem dX2_ofTheLater_67 : decode cX2_ofTheLater 67 = .ok (.iload_n 3, 1) := by decide +kernel
theorem dX2_ofTheLater_68 : decode cX2_ofTheLater 68 = .ok (.bipush (-9), 2) := by decide +kernel
theorem dX2_ofTheLater_70 : decode cX2_ofTheLater 70 = .ok (.if_icmp .ne 8, 3) := by decide +kernel
theorem dX2_ofTheLater_73 : decode cX2_ofTheLater 73 = .ok (.bipush (-9), 2) := by decide +kernel
theorem dX2_ofTheLater_75 : decode cX2_ofTheLater 75 = .ok (.goto 23, 3) := by decide +kernel
theorem dX2_ofTheLater_78 : decode cX2_ofTheLater 78 = .ok (.aload_n 0, 1) := by decide +kernel
theorem dX2_ofTheLater_79 : decode cX2_ofTheLater 79 = .ok (.getfield 15, 3) := by decide +kernel
theorem dX2_ofTheLater_82 : decode cX2_ofTheLater 82 = .ok (.getfield 42, 3) := by decide +kernel
theorem dX2_ofTheLater_85 : decode cX2_ofTheLater 85 = .ok (.aload_n 2, 1) := by decide +kernel
theorem dX2_ofTheLater_86 : decode cX2_ofTheLater 86 = .ok (.iload_n 3, 1) := by decide +kernel
theorem dX2_ofTheLater_87 : decode cX2_ofTheLater 87 = .ok (.aaload, 1) := by decide +kernel
theorem dX2_ofTheLater_88 : decode cX2_ofTheLater 88 = .ok (.getfield 46, 3) := by decide +kernel
theorem dX2_ofTheLater_91 : decode cX2_ofTheLater 91 = .ok (.getfield 50, 3) := by decide +kernel
theorem dX2_ofTheLater_94 : decode cX2_ofTheLater 94 = .ok (.iload_n 1, 1) := by decide +kernel
theorem dX2_ofTheLater_95 : decode cX2_ofTheLater 95 = .ok (.invokevirtual 55, 3) := by decide +kernel
theorem dX2_ofTheLater_98 : decode cX2_ofTheLater 98 = .ok (.ireturn, 1) := by decide +kernel
theorem dX3_init_0 : decode cX3_init 0 = .ok (.aload_n 0, 1) := by decide +kernel
theorem dX3_init_1 : decode cX3_init 1 = .ok (.invokespecial 3, 3) := by decide +kernel
theorem dX3_init_4 : decode cX3_init 4 = .ok (.aload_n 0, 1) := by decide +kernel
theorem dX3_init_5 : decode cX3_init 5 = .ok (.iconst 0, 1) := by decide +kernel
theorem dX3_init_6 : decode cX3_init 6 = .ok (.putfield 9, 3) := by decide +kernel
theorem dX3_init_9 : decode cX3_init 9 = .ok (.aload_n 0, 1) := by decide +kernel
theorem dX3_init_10 : decode cX3_init 10 = .ok (.iconst 0, 1) := by decide +kernel
theorem dX3_init_11 : decode cX3_init 11 = .ok (.putfield 15, 3) := by decide +kernel
theorem dX3_init_14 : decode cX3_init 14 = .ok (.aload_n 0, 1) := by decide +kernel
theorem dX3_init_15 : decode cX3_init 15 = .ok (.bipush (-9), 2) := by decide +kernel
theorem dX3_init_17 : decode cX3_init 17 = .ok (.putfield 18, 3) := by decide +kernel
theorem dX3_init_20 : decode cX3_init 20 = .ok (.aload_n 0, 1) := by decide +kernel
theorem dX3_init_21 : decode cX3_init 21 = .ok (.iconst 0, 1) := by decide +kernel
theorem dX3_init_22 : decode cX3_init 22 = .ok (.putfield 21, 3) := by decide +kernel
theorem dX3_init_25 : decode cX3_init 25 = .ok (.aload_n 0, 1) := by decide +kernel
theorem dX3_init_26 : decode cX3_init 26 = .ok (.bipush 9, 2) := by decide +kernel
theorem dX3_init_28 : decode cX3_init 28 = .ok (.newarray .int, 2) := by decide +kernel
theorem dX3_init_30 : decode cX3_init 30 = .ok (.putfield 24, 3) := by decide +kernel
theorem dX3_init_33 : decode cX3_init 33 = .ok (.aload_n 0, 1) := by decide +kernel
theorem dX3_init_34 : decode cX3_init 34 = .ok (.iconst 0, 1) := by decide +kernel
theorem dX3_init_35 : decode cX3_init 35 = .ok (.putfield 28, 3) := by decide +kernel
theorem dX3_init_38 : decode cX3_init 38 = .ok (.aload_n 0, 1) := by decide +kernel
theorem dX3_init_39 : decode cX3_init 39 = .ok (.new 31, 3) := by decide +kernel
theorem dX3_init_42 : decode cX3_init 42 = .ok (.dup, 1) := by decide +kernel
theorem dX3_init_43 : decode cX3_init 43 = .ok (.invokespecial 33, 3) := by decide +kernel
theorem dX3_init_46 : decode cX3_init 46 = .ok (.putfield 34, 3) := by decide +kernel
theorem dX3_init_49 : decode cX3_init 49 = .ok (.return_, 1) := by decide +kernel
theorem dX3_hasSpoken_0 : decode cX3_hasSpoken 0 = .ok (.aload_n 0, 1) := by decide +kernel
theorem dX3_hasSpoken_1 : decode cX3_hasSpoken 1 = .ok (.getfield 28, 3) := by decide +kernel
theorem dX3_hasSpoken_4 : decode cX3_hasSpoken 4 = .ok (.ifCond .le 7, 3) := by decide +kernel
theorem dX3_hasSpoken_7 : decode cX3_hasSpoken 7 = .ok (.iconst 1, 1) := by decide +kernel
theorem dX3_hasSpoken_8 : decode cX3_hasSpoken 8 = .ok (.goto 4, 3) := by decide +kernel
theorem dX3_hasSpoken_11 : decode cX3_hasSpoken 11 = .ok (.iconst 0, 1) := by decide +kernel
theorem dX3_hasSpoken_12 : decode cX3_hasSpoken 12 = .ok (.ireturn, 1) := by decide +kernel
theorem dX4_init_0 : decode cX4_init 0 = .ok (.aload_n 0, 1) := by decide +kernel
theorem dX4_init_1 : decode cX4_init 1 = .ok (.invokespecial 3, 3) := by decide +kernel
theorem dX4_init_4 : decode cX4_init 4 = .ok (.aload_n 0, 1) := by decide +kernel
theorem dX4_init_5 : decode cX4_init 5 = .ok (.iconst 0, 1) := by decide +kernel
theorem dX4_init_6 : decode cX4_init 6 = .ok (.putfield 9, 3) := by decide +kernel
theorem dX4_init_9 : decode cX4_init 9 = .ok (.aload_n 0, 1) := by decide +kernel
theorem dX4_init_10 : decode cX4_init 10 = .ok (.iconst 0, 1) := by decide +kernel
theorem dX4_init_11 : decode cX4_init 11 = .ok (.putfield 15, 3) := by decide +kernel
theorem dX4_init_14 : decode cX4_init 14 = .ok (.aload_n 0, 1) := by decide +kernel
theorem dX4_init_15 : decode cX4_init 15 = .ok (.iconst 0, 1) := by decide +kernel
theorem dX4_init_16 : decode cX4_init 16 = .ok (.putfield 19, 3) := by decide +kernel
theorem dX4_init_19 : decode cX4_init 19 = .ok (.aload_n 0, 1) := by decide +kernel
theorem dX4_init_20 : decode cX4_init 20 = .ok (.bipush (-9), 2) := by decide +kernel
theorem dX4_init_22 : decode cX4_init 22 = .ok (.putfield 22, 3) := by decide +kernel
theorem dX4_init_25 : decode cX4_init 25 = .ok (.aload_n 0, 1) := by decide +kernel
theorem dX4_init_26 : decode cX4_init 26 = .ok (.sipush 244, 3) := by decide +kernel
theorem dX4_init_29 : decode cX4_init 29 = .ok (.newarray .int, 2) := by decide +kernel
theorem dX4_init_31 : decode cX4_init 31 = .ok (.putfield 25, 3) := by decide +kernel
theorem dX4_init_34 : decode cX4_init 34 = .ok (.aload_n 0, 1) := by decide +kernel
theorem dX4_init_35 : decode cX4_init 35 = .ok (.iconst 0, 1) := by decide +kernel
theorem dX4_init_36 : decode cX4_init 36 = .ok (.putfield 29, 3) := by decide +kernel
theorem dX4_init_39 : decode cX4_init 39 = .ok (.aload_n 0, 1) := by decide +kernel
theorem dX4_init_40 : decode cX4_init 40 = .ok (.iconst 0, 1) := by decide +kernel
theorem dX4_init_41 : decode cX4_init 41 = .ok (.putfield 32, 3) := by decide +kernel
theorem dX4_init_44 : decode cX4_init 44 = .ok (.aload_n 0, 1) := by decide +kernel
theorem dX4_init_45 : decode cX4_init 45 = .ok (.iconst 0, 1) := by decide +kernel
theorem dX4_init_46 : decode cX4_init 46 = .ok (.putfield 35, 3) := by decide +kernel
theorem dX4_init_49 : decode cX4_init 49 = .ok (.return_, 1) := by decide +kernel
theorem dX4_learn_0 : decode cX4_learn 0 = .ok (.aload_n 0, 1) := by decide +kernel
theorem dX4_learn_1 : decode cX4_learn 1 = .ok (.aload_n 1, 1) := by decide +kernel
theorem dX4_learn_2 : decode cX4_learn 2 = .ok (.getfield 38, 3) := by decide +kernel
theorem dX4_learn_5 : decode cX4_learn 5 = .ok (.putfield 15, 3) := by decide +kernel
theorem dX4_learn_8 : decode cX4_learn 8 = .ok (.aload_n 0, 1) := by decide +kernel
theorem dX4_learn_9 : decode cX4_learn 9 = .ok (.aload_n 1, 1) := by decide +kernel
theorem dX4_learn_10 : decode cX4_learn 10 = .ok (.getfield 41, 3) := by decide +kernel
theorem dX4_learn_13 : decode cX4_learn 13 = .ok (.putfield 19, 3) := by decide +kernel
theorem dX4_learn_16 : decode cX4_learn 16 = .ok (.aload_n 0, 1) := by decide +kernel
theorem dX4_learn_17 : decode cX4_learn 17 = .ok (.aload_n 1, 1) := by decide +kernel
theorem dX4_learn_18 : decode cX4_learn 18 = .ok (.getfield 42, 3) := by decide +kernel
theorem dX4_learn_21 : decode cX4_learn 21 = .ok (.putfield 22, 3) := by decide +kernel
theorem dX4_learn_24 : decode cX4_learn 24 = .ok (.aload_n 0, 1) := by decide +kernel
theorem dX4_learn_25 : decode cX4_learn 25 = .ok (.iconst 0, 1) := by decide +kernel
theorem dX4_learn_26 : decode cX4_learn 26 = .ok (.putfield 29, 3) := by decide +kernel
theorem dX4_learn_29 : decode cX4_learn 29 = .ok (.aload_n 0, 1) := by decide +kernel
theorem dX4_learn_30 : decode cX4_learn 30 = .ok (.iconst 0, 1) := by decide +kernel
theorem dX4_learn_31 : decode cX4_learn 31 = .ok (.putfield 32, 3) := by decide +kernel
theorem dX4_learn_34 : decode cX4_learn 34 = .ok (.aload_n 0, 1) := by decide +kernel
theorem dX4_learn_35 : decode cX4_learn 35 = .ok (.iconst 0, 1) := by decide +kernel
theorem dX4_learn_36 : decode cX4_learn 36 = .ok (.putfield 35, 3) := by decide +kernel
theorem dX4_learn_39 : decode cX4_learn 39 = .ok (.iconst 0, 1) := by decide +kernel
theorem dX4_learn_40 : decode cX4_learn 40 = .ok (.istore_n 3, 1) := by decide +kernel
theorem dX4_learn_41 : decode cX4_learn 41 = .ok (.iload_n 3, 1) := by decide +kernel
theorem dX4_learn_42 : decode cX4_learn 42 = .ok (.sipush 244, 3) := by decide +kernel
theorem dX4_learn_45 : decode cX4_learn 45 = .ok (.if_icmp .ge 77, 3) := by decide +kernel
theorem dX4_learn_48 : decode cX4_learn 48 = .ok (.aload_n 1, 1) := by decide +kernel
theorem dX4_learn_49 : decode cX4_learn 49 = .ok (.getfield 43, 3) := by decide +kernel
theorem dX4_learn_52 : decode cX4_learn 52 = .ok (.iload_n 3, 1) := by decide +kernel
theorem dX4_learn_53 : decode cX4_learn 53 = .ok (.iaload, 1) := by decide +kernel
theorem dX4_learn_54 : decode cX4_learn 54 = .ok (.aload_n 1, 1) := by decide +kernel
theorem dX4_learn_55 : decode cX4_learn 55 = .ok (.getfield 46, 3) := by decide +kernel
theorem dX4_learn_58 : decode cX4_learn 58 = .ok (.if_icmp .eq 6, 3) := by decide +kernel
theorem dX4_learn_61 : decode cX4_learn 61 = .ok (.goto 55, 3) := by decide +kernel
theorem dX4_learn_64 : decode cX4_learn 64 = .ok (.aload_n 0, 1) := by decide +kernel
theorem dX4_learn_65 : decode cX4_learn 65 = .ok (.getfield 25, 3) := by decide +kernel
theorem dX4_learn_68 : decode cX4_learn 68 = .ok (.aload_n 0, 1) := by decide +kernel
theorem dX4_learn_69 : decode cX4_learn 69 = .ok (.getfield 29, 3) := by decide +kernel
theorem dX4_learn_72 : decode cX4_learn 72 = .ok (.iload_n 3, 1) := by decide +kernel
theorem dX4_learn_73 : decode cX4_learn 73 = .ok (.iastore, 1) := by decide +kernel
theorem dX4_learn_74 : decode cX4_learn 74 = .ok (.aload_n 0, 1) := by decide +kernel
theorem dX4_learn_75 : decode cX4_learn 75 = .ok (.dup, 1) := by decide +kernel
theorem dX4_learn_76 : decode cX4_learn 76 = .ok (.getfield 29, 3) := by decide +kernel
theorem dX4_learn_79 : decode cX4_learn 79 = .ok (.iconst 1, 1) := by decide +kernel
theorem dX4_learn_80 : decode cX4_learn 80 = .ok (.iadd, 1) := by decide +kernel
theorem dX4_learn_81 : decode cX4_learn 81 = .ok (.putfield 29, 3) := by decide +kernel
theorem dX4_learn_84 : decode cX4_learn 84 = .ok (.aload_n 0, 1) := by decide +kernel
theorem dX4_learn_85 : decode cX4_learn 85 = .ok (.dup, 1) := by decide +kernel
theorem dX4_learn_86 : decode cX4_learn 86 = .ok (.getfield 32, 3) := by decide +kernel
theorem dX4_learn_89 : decode cX4_learn 89 = .ok (.aload_n 2, 1) := by decide +kernel
theorem dX4_learn_90 : decode cX4_learn 90 = .ok (.getfield 49, 3) := by decide +kernel
theorem dX4_learn_93 : decode cX4_learn 93 = .ok (.iload_n 3, 1) := by decide +kernel
theorem dX4_learn_94 : decode cX4_learn 94 = .ok (.iaload, 1) := by decide +kernel
theorem dX4_learn_95 : decode cX4_learn 95 = .ok (.ior, 1) := by decide +kernel
theorem dX4_learn_96 : decode cX4_learn 96 = .ok (.putfield 32, 3) := by decide +kernel
theorem dX4_learn_99 : decode cX4_learn 99 = .ok (.aload_n 0, 1) := by decide +kernel
theorem dX4_learn_100 : decode cX4_learn 100 = .ok (.dup, 1) := by decide +kernel
theorem dX4_learn_101 : decode cX4_learn 101 = .ok (.getfield 35, 3) := by decide +kernel
theorem dX4_learn_104 : decode cX4_learn 104 = .ok (.aload_n 2, 1) := by decide +kernel
theorem dX4_learn_105 : decode cX4_learn 105 = .ok (.getfield 49, 3) := by decide +kernel
theorem dX4_learn_108 : decode cX4_learn 108 = .ok (.iload_n 3, 1) := by decide +kernel
theorem dX4_learn_109 : decode cX4_learn 109 = .ok (.iaload, 1) := by decide +kernel
theorem dX4_learn_110 : decode cX4_learn 110 = .ok (.iconst (-1), 1) := by decide +kernel
theorem dX4_learn_111 : decode cX4_learn 111 = .ok (.ixor, 1) := by decide +kernel
theorem dX4_learn_112 : decode cX4_learn 112 = .ok (.ior, 1) := by decide +kernel
theorem dX4_learn_113 : decode cX4_learn 113 = .ok (.putfield 35, 3) := by decide +kernel
theorem dX4_learn_116 : decode cX4_learn 116 = .ok (.iinc 3 1, 3) := by decide +kernel
theorem dX4_learn_119 : decode cX4_learn 119 = .ok (.goto (-78), 3) := by decide +kernel
theorem dX4_learn_122 : decode cX4_learn 122 = .ok (.aload_n 0, 1) := by decide +kernel
theorem dX4_learn_123 : decode cX4_learn 123 = .ok (.iconst 1, 1) := by decide +kernel
theorem dX4_learn_124 : decode cX4_learn 124 = .ok (.putfield 9, 3) := by decide +kernel
theorem dX4_learn_127 : decode cX4_learn 127 = .ok (.return_, 1) := by decide +kernel
theorem dX4_lastCheap_0 : decode cX4_lastCheap 0 = .ok (.aload_n 0, 1) := by decide +kernel
theorem dX4_lastCheap_1 : decode cX4_lastCheap 1 = .ok (.getfield 29, 3) := by decide +kernel
theorem dX4_lastCheap_4 : decode cX4_lastCheap 4 = .ok (.ifCond .le 17, 3) := by decide +kernel
theorem dX4_lastCheap_7 : decode cX4_lastCheap 7 = .ok (.aload_n 0, 1) := by decide +kernel
theorem dX4_lastCheap_8 : decode cX4_lastCheap 8 = .ok (.getfield 25, 3) := by decide +kernel
theorem dX4_lastCheap_11 : decode cX4_lastCheap 11 = .ok (.aload_n 0, 1) := by decide +kernel
theorem dX4_lastCheap_12 : decode cX4_lastCheap 12 = .ok (.getfield 29, 3) := by decide +kernel
theorem dX4_lastCheap_15 : decode cX4_lastCheap 15 = .ok (.iconst 1, 1) := by decide +kernel
theorem dX4_lastCheap_16 : decode cX4_lastCheap 16 = .ok (.isub, 1) := by decide +kernel
theorem dX4_lastCheap_17 : decode cX4_lastCheap 17 = .ok (.iaload, 1) := by decide +kernel
theorem dX4_lastCheap_18 : decode cX4_lastCheap 18 = .ok (.goto 5, 3) := by decide +kernel
theorem dX4_lastCheap_21 : decode cX4_lastCheap 21 = .ok (.bipush (-9), 2) := by decide +kernel
theorem dX4_lastCheap_23 : decode cX4_lastCheap 23 = .ok (.ireturn, 1) := by decide +kernel
theorem dX4_mayOwe_0 : decode cX4_mayOwe 0 = .ok (.aload_n 0, 1) := by decide +kernel
theorem dX4_mayOwe_1 : decode cX4_mayOwe 1 = .ok (.getfield 32, 3) := by decide +kernel
theorem dX4_mayOwe_4 : decode cX4_mayOwe 4 = .ok (.iload_n 1, 1) := by decide +kernel
theorem dX4_mayOwe_5 : decode cX4_mayOwe 5 = .ok (.iushr, 1) := by decide +kernel
theorem dX4_mayOwe_6 : decode cX4_mayOwe 6 = .ok (.iconst 1, 1) := by decide +kernel
theorem dX4_mayOwe_7 : decode cX4_mayOwe 7 = .ok (.iand, 1) := by decide +kernel
theorem dX4_mayOwe_8 : decode cX4_mayOwe 8 = .ok (.iconst 1, 1) := by decide +kernel
theorem dX4_mayOwe_9 : decode cX4_mayOwe 9 = .ok (.if_icmp .ne 7, 3) := by decide +kernel
theorem dX4_mayOwe_12 : decode cX4_mayOwe 12 = .ok (.iconst 1, 1) := by decide +kernel
theorem dX4_mayOwe_13 : decode cX4_mayOwe 13 = .ok (.goto 4, 3) := by decide +kernel
theorem dX4_mayOwe_16 : decode cX4_mayOwe 16 = .ok (.iconst 0, 1) := by decide +kernel
theorem dX4_mayOwe_17 : decode cX4_mayOwe 17 = .ok (.ireturn, 1) := by decide +kernel
theorem dX4_mayNotOwe_0 : decode cX4_mayNotOwe 0 = .ok (.aload_n 0, 1) := by decide +kernel
theorem dX4_mayNotOwe_1 : decode cX4_mayNotOwe 1 = .ok (.getfield 35, 3) := by decide +kernel
theorem dX4_mayNotOwe_4 : decode cX4_mayNotOwe 4 = .ok (.iload_n 1, 1) := by decide +kernel
theorem dX4_mayNotOwe_5 : decode cX4_mayNotOwe 5 = .ok (.iushr, 1) := by decide +kernel
theorem dX4_mayNotOwe_6 : decode cX4_mayNotOwe 6 = .ok (.iconst 1, 1) := by decide +kernel
theorem dX4_mayNotOwe_7 : decode cX4_mayNotOwe 7 = .ok (.iand, 1) := by decide +kernel
theorem dX4_mayNotOwe_8 : decode cX4_mayNotOwe 8 = .ok (.iconst 1, 1) := by decide +kernel
theorem dX4_mayNotOwe_9 : decode cX4_mayNotOwe 9 = .ok (.if_icmp .ne 7, 3) := by decide +kernel
theorem dX4_mayNotOwe_12 : decode cX4_mayNotOwe 12 = .ok (.iconst 1, 1) := by decide +kernel
theorem dX4_mayNotOwe_13 : decode cX4_mayNotOwe 13 = .ok (.goto 4, 3) := by decide +kernel
theorem dX4_mayNotOwe_16 : decode cX4_mayNotOwe 16 = .ok (.iconst 0, 1) := by decide +kernel
theorem dX4_mayNotOwe_17 : decode cX4_mayNotOwe 17 = .ok (.ireturn, 1) := by decide +kernel
theorem dX4_wouldSay_0 : decode cX4_wouldSay 0 = .ok (.aload_n 0, 1) := by decide +kernel
theorem dX4_wouldSay_1 : decode cX4_wouldSay 1 = .ok (.iload_n 1, 1) := by decide +kernel
theorem dX4_wouldSay_2 : decode cX4_wouldSay 2 = .ok (.invokevirtual 54, 3) := by decide +kernel
theorem dX4_wouldSay_5 : decode cX4_wouldSay 5 = .ok (.ifCond .ne 5, 3) := by decide +kernel
theorem dX4_wouldSay_8 : decode cX4_wouldSay 8 = .ok (.iconst 0, 1) := by decide +kernel
theorem dX4_wouldSay_9 : decode cX4_wouldSay 9 = .ok (.ireturn, 1) := by decide +kernel
theorem dX4_wouldSay_10 : decode cX4_wouldSay 10 = .ok (.aload_n 0, 1) := by decide +kernel
theorem dX4_wouldSay_11 : decode cX4_wouldSay 11 = .ok (.iload_n 1, 1) := by decide +kernel
theorem dX4_wouldSay_12 : decode cX4_wouldSay 12 = .ok (.invokevirtual 58, 3) := by decide +kernel
theorem dX4_wouldSay_15 : decode cX4_wouldSay 15 = .ok (.ifCond .eq 7, 3) := by decide +kernel
theorem dX4_wouldSay_18 : decode cX4_wouldSay 18 = .ok (.iconst 2, 1) := by decide +kernel
theorem dX4_wouldSay_19 : decode cX4_wouldSay 19 = .ok (.goto 4, 3) := by decide +kernel
theorem dX4_wouldSay_22 : decode cX4_wouldSay 22 = .ok (.iconst 1, 1) := by decide +kernel
theorem dX4_wouldSay_23 : decode cX4_wouldSay 23 = .ok (.ireturn, 1) := by decide +kernel
theorem dX5_init_0 : decode cX5_init 0 = .ok (.aload_n 0, 1) := by decide +kernel
theorem dX5_init_1 : decode cX5_init 1 = .ok (.invokespecial 3, 3) := by decide +kernel
theorem dX5_init_4 : decode cX5_init 4 = .ok (.aload_n 0, 1) := by decide +kernel
theorem dX5_init_5 : decode cX5_init 5 = .ok (.iconst 0, 1) := by decide +kernel
theorem dX5_init_6 : decode cX5_init 6 = .ok (.putfield 9, 3) := by decide +kernel
theorem dX5_init_9 : decode cX5_init 9 = .ok (.aload_n 0, 1) := by decide +kernel
theorem dX5_init_10 : decode cX5_init 10 = .ok (.iconst 0, 1) := by decide +kernel
theorem dX5_init_11 : decode cX5_init 11 = .ok (.putfield 15, 3) := by decide +kernel
theorem dX5_init_14 : decode cX5_init 14 = .ok (.aload_n 0, 1) := by decide +kernel
theorem dX5_init_15 : decode cX5_init 15 = .ok (.iconst 0, 1) := by decide +kernel
theorem dX5_init_16 : decode cX5_init 16 = .ok (.putfield 18, 3) := by decide +kernel
theorem dX5_init_19 : decode cX5_init 19 = .ok (.aload_n 0, 1) := by decide +kernel
theorem dX5_init_20 : decode cX5_init 20 = .ok (.iconst 0, 1) := by decide +kernel
theorem dX5_init_21 : decode cX5_init 21 = .ok (.putfield 21, 3) := by decide +kernel
theorem dX5_init_24 : decode cX5_init 24 = .ok (.return_, 1) := by decide +kernel
theorem dX5_figure_0 : decode cX5_figure 0 = .ok (.iload_n 1, 1) := by decide +kernel
theorem dX5_figure_1 : decode cX5_figure 1 = .ok (.lookupswitch 37 #[(0, 27), (1, 32)], 27) := by decide +kernel
theorem dX5_figure_28 : decode cX5_figure 28 = .ok (.aload_n 0, 1) := by decide +kernel
theorem dX5_figure_29 : decode cX5_figure 29 = .ok (.getfield 9, 3) := by decide +kernel
theorem dX5_figure_32 : decode cX5_figure 32 = .ok (.ireturn, 1) := by decide +kernel
theorem dX5_figure_33 : decode cX5_figure 33 = .ok (.aload_n 0, 1) := by decide +kernel
theorem dX5_figure_34 : decode cX5_figure 34 = .ok (.getfield 15, 3) := by decide +kernel
theorem dX5_figure_37 : decode cX5_figure 37 = .ok (.ireturn, 1) := by decide +kernel
theorem dX5_figure_38 : decode cX5_figure 38 = .ok (.aload_n 0, 1) := by decide +kernel
theorem dX5_figure_39 : decode cX5_figure 39 = .ok (.getfield 18, 3) := by decide +kernel
theorem dX5_figure_42 : decode cX5_figure 42 = .ok (.ireturn, 1) := by decide +kernel
theorem dX6_init_0 : decode cX6_init 0 = .ok (.aload_n 0, 1) := by decide +kernel
theorem dX6_init_1 : decode cX6_init 1 = .ok (.invokespecial 3, 3) := by decide +kernel
theorem dX6_init_4 : decode cX6_init 4 = .ok (.aload_n 0, 1) := by decide +kernel
theorem dX6_init_5 : decode cX6_init 5 = .ok (.bipush 40, 2) := by decide +kernel
theorem dX6_init_7 : decode cX6_init 7 = .ok (.anewarray 9, 3) := by decide +kernel
theorem dX6_init_10 : decode cX6_init 10 = .ok (.putfield 11, 3) := by decide +kernel
theorem dX6_init_13 : decode cX6_init 13 = .ok (.aload_n 0, 1) := by decide +kernel
theorem dX6_init_14 : decode cX6_init 14 = .ok (.iconst 0, 1) := by decide +kernel
theorem dX6_init_15 : decode cX6_init 15 = .ok (.putfield 17, 3) := by decide +kernel
theorem dX6_init_18 : decode cX6_init 18 = .ok (.aload_n 0, 1) := by decide +kernel
theorem dX6_init_19 : decode cX6_init 19 = .ok (.iconst 0, 1) := by decide +kernel
theorem dX6_init_20 : decode cX6_init 20 = .ok (.putfield 21, 3) := by decide +kernel
theorem dX6_init_23 : decode cX6_init 23 = .ok (.aload_n 0, 1) := by decide +kernel
theorem dX6_init_24 : decode cX6_init 24 = .ok (.iconst 0, 1) := by decide +kernel
theorem dX6_init_25 : decode cX6_init 25 = .ok (.putfield 24, 3) := by decide +kernel
theorem dX6_init_28 : decode cX6_init 28 = .ok (.aload_n 0, 1) := by decide +kernel
theorem dX6_init_29 : decode cX6_init 29 = .ok (.aload_n 1, 1) := by decide +kernel
theorem dX6_init_30 : decode cX6_init 30 = .ok (.putfield 27, 3) := by decide +kernel
theorem dX6_init_33 : decode cX6_init 33 = .ok (.iconst 0, 1) := by decide +kernel
theorem dX6_init_34 : decode cX6_init 34 = .ok (.istore_n 2, 1) := by decide +kernel
theorem dX6_init_35 : decode cX6_init 35 = .ok (.iload_n 2, 1) := by decide +kernel
theorem dX6_init_36 : decode cX6_init 36 = .ok (.bipush 40, 2) := by decide +kernel
theorem dX6_init_38 : decode cX6_init 38 = .ok (.if_icmp .ge 22, 3) := by decide +kernel
theorem dX6_init_41 : decode cX6_init 41 = .ok (.aload_n 0, 1) := by decide +kernel
theorem dX6_init_42 : decode cX6_init 42 = .ok (.getfield 11, 3) := by decide +kernel
theorem dX6_init_45 : decode cX6_init 45 = .ok (.iload_n 2, 1) := by decide +kernel
theorem dX6_init_46 : decode cX6_init 46 = .ok (.new 9, 3) := by decide +kernel
theorem dX6_init_49 : decode cX6_init 49 = .ok (.dup, 1) := by decide +kernel
theorem dX6_init_50 : decode cX6_init 50 = .ok (.invokespecial 31, 3) := by decide +kernel
theorem dX6_init_53 : decode cX6_init 53 = .ok (.aastore, 1) := by decide +kernel
theorem dX6_init_54 : decode cX6_init 54 = .ok (.iinc 2 1, 3) := by decide +kernel
theorem dX6_init_57 : decode cX6_init 57 = .ok (.goto (-22), 3) := by decide +kernel
theorem dX6_init_60 : decode cX6_init 60 = .ok (.return_, 1) := by decide +kernel
theorem dX6_takes_0 : decode cX6_takes 0 = .ok (.iload_n 2, 1) := by decide +kernel
theorem dX6_takes_1 : decode cX6_takes 1 = .ok (.tableswitch 86 1 5 #[35, 57, 63, 72, 78], 35) := by decide +kernel
theorem dX6_takes_36 : decode cX6_takes 36 = .ok (.aload_n 0, 1) := by decide +kernel
theorem dX6_takes_37 : decode cX6_takes 37 = .ok (.getfield 27, 3) := by decide +kernel
theorem dX6_takes_40 : decode cX6_takes 40 = .ok (.iload_n 3, 1) := by decide +kernel
theorem dX6_takes_41 : decode cX6_takes 41 = .ok (.invokevirtual 32, 3) := by decide +kernel
theorem dX6_takes_44 : decode cX6_takes 44 = .ok (.ifCond .eq 12, 3) := by decide +kernel
theorem dX6_takes_47 : decode cX6_takes 47 = .ok (.iload_n 3, 1) := by decide +kernel
theorem dX6_takes_48 : decode cX6_takes 48 = .ok (.iload_n 1, 1) := by decide +kernel
theorem dX6_takes_49 : decode cX6_takes 49 = .ok (.if_icmp .eq 7, 3) := by decide +kernel
theorem dX6_takes_52 : decode cX6_takes 52 = .ok (.iconst 1, 1) := by decide +kernel
theorem dX6_takes_53 : decode cX6_takes 53 = .ok (.goto 4, 3) := by decide +kernel
theorem dX6_takes_56 : decode cX6_takes 56 = .ok (.iconst 0, 1) := by decide +kernel
theorem dX6_takes_57 : decode cX6_takes 57 = .ok (.ireturn, 1) := by decide +kernel
theorem dX6_takes_58 : decode cX6_takes 58 = .ok (.iload_n 3, 1) := by decide +kernel
theorem dX6_takes_59 : decode cX6_takes 59 = .ok (.iconst 5, 1) := by decide +kernel
theorem dX6_takes_60 : decode cX6_takes 60 = .ok (.invokestatic 38, 3) := by decide +kernel
theorem dX6_takes_63 : decode cX6_takes 63 = .ok (.ireturn, 1) := by decide +kernel
theorem dX6_takes_64 : decode cX6_takes 64 = .ok (.aload_n 0, 1) := by decide +kernel
theorem dX6_takes_65 : decode cX6_takes 65 = .ok (.getfield 27, 3) := by decide +kernel
theorem dX6_takes_68 : decode cX6_takes 68 = .ok (.iload_n 3, 1) := by decide +kernel
theorem dX6_takes_69 : decode cX6_takes 69 = .ok (.invokevirtual 42, 3) := by decide +kernel
theorem dX6_takes_72 : decode cX6_takes 72 = .ok (.ireturn, 1) := by decide +kernel
theorem dX6_takes_73 : decode cX6_takes 73 = .ok (.iload_n 3, 1) := by decide +kernel
theorem dX6_takes_74 : decode cX6_takes 74 = .ok (.iconst 5, 1) := by decide +kernel
theorem dX6_takes_75 : decode cX6_takes 75 = .ok (.invokestatic 38, 3) := by decide +kernel
theorem dX6_takes_78 : decode cX6_takes 78 = .ok (.ireturn, 1) := by decide +kernel
theorem dX6_takes_79 : decode cX6_takes 79 = .ok (.iload_n 3, 1) := by decide +kernel
theorem dX6_takes_80 : decode cX6_takes 80 = .ok (.sipush 1000, 3) := by decide +kernel
theorem dX6_takes_83 : decode cX6_takes 83 = .ok (.invokestatic 38, 3) := by decide +kernel
theorem dX6_takes_86 : decode cX6_takes 86 = .ok (.ireturn, 1) := by decide +kernel
theorem dX6_takes_87 : decode cX6_takes 87 = .ok (.iconst 1, 1) := by decide +kernel
theorem dX6_takes_88 : decode cX6_takes 88 = .ok (.ireturn, 1) := by decide +kernel
end
section
theorem dX6_addMove_0 : decode cX6_addMove 0 = .ok (.aload_n 0, 1) := by decide +kernel
theorem dX6_addMove_1 : decode cX6_addMove 1 = .ok (.getfield 11, 3) := by decide +kernel
theorem dX6_addMove_4 : decode cX6_addMove 4 = .ok (.aload_n 0, 1) := by decide +kernel
theorem dX6_addMove_5 : decode cX6_addMove 5 = .ok (.getfield 17, 3) := by decide +kernel
theorem dX6_addMove_8 : decode cX6_addMove 8 = .ok (.aaload, 1) := by decide +kernel
theorem dX6_addMove_9 : decode cX6_addMove 9 = .ok (.astore 4, 2) := by decide +kernel
theorem dX6_addMove_11 : decode cX6_addMove 11 = .ok (.aload 4, 2) := by decide +kernel
theorem dX6_addMove_13 : decode cX6_addMove 13 = .ok (.iload_n 2, 1) := by decide +kernel
theorem dX6_addMove_14 : decode cX6_addMove 14 = .ok (.putfield 45, 3) := by decide +kernel
theorem dX6_addMove_17 : decode cX6_addMove 17 = .ok (.aload 4, 2) := by decide +kernel
theorem dX6_addMove_19 : decode cX6_addMove 19 = .ok (.iload_n 1, 1) := by decide +kernel
theorem dX6_addMove_20 : decode cX6_addMove 20 = .ok (.putfield 48, 3) := by decide +kernel
theorem dX6_addMove_23 : decode cX6_addMove 23 = .ok (.aload 4, 2) := by decide +kernel
theorem dX6_addMove_25 : decode cX6_addMove 25 = .ok (.iload_n 2, 1) := by decide +kernel
theorem dX6_addMove_26 : decode cX6_addMove 26 = .ok (.ifCond .eq 9, 3) := by decide +kernel
theorem dX6_addMove_29 : decode cX6_addMove 29 = .ok (.iload_n 2, 1) := by decide +kernel
theorem dX6_addMove_30 : decode cX6_addMove 30 = .ok (.bipush 6, 2) := by decide +kernel
theorem dX6_addMove_32 : decode cX6_addMove 32 = .ok (.if_icmp .ne 7, 3) := by decide +kernel
theorem dX6_addMove_35 : decode cX6_addMove 35 = .ok (.iconst 0, 1) := by decide +kernel
theorem dX6_addMove_36 : decode cX6_addMove 36 = .ok (.goto 4, 3) := by decide +kernel
theorem dX6_addMove_39 : decode cX6_addMove 39 = .ok (.iload_n 3, 1) := by decide +kernel
theorem dX6_addMove_40 : decode cX6_addMove 40 = .ok (.putfield 51, 3) := by decide +kernel
theorem dX6_addMove_43 : decode cX6_addMove 43 = .ok (.aload_n 0, 1) := by decide +kernel
theorem dX6_addMove_44 : decode cX6_addMove 44 = .ok (.dup, 1) := by decide +kernel
theorem dX6_addMove_45 : decode cX6_addMove 45 = .ok (.getfield 17, 3) := by decide +kernel
theorem dX6_addMove_48 : decode cX6_addMove 48 = .ok (.iconst 1, 1) := by decide +kernel
theorem dX6_addMove_49 : decode cX6_addMove 49 = .ok (.iadd, 1) := by decide +kernel
theorem dX6_addMove_50 : decode cX6_addMove 50 = .ok (.putfield 17, 3) := by decide +kernel
theorem dX6_addMove_53 : decode cX6_addMove 53 = .ok (.aload_n 0, 1) := by decide +kernel
theorem dX6_addMove_54 : decode cX6_addMove 54 = .ok (.getfield 17, 3) := by decide +kernel
theorem dX6_addMove_57 : decode cX6_addMove 57 = .ok (.iconst 1, 1) := by decide +kernel
theorem dX6_addMove_58 : decode cX6_addMove 58 = .ok (.isub, 1) := by decide +kernel
theorem dX6_addMove_59 : decode cX6_addMove 59 = .ok (.ireturn, 1) := by decide +kernel
theorem dX6_objections_0 : decode cX6_objections 0 = .ok (.iconst 0, 1) := by decide +kernel
theorem dX6_objections_1 : decode cX6_objections 1 = .ok (.istore_n 1, 1) := by decide +kernel
theorem dX6_objections_2 : decode cX6_objections 2 = .ok (.iconst 0, 1) := by decide +kernel
theorem dX6_objections_3 : decode cX6_objections 3 = .ok (.istore_n 2, 1) := by decide +kernel
theorem dX6_objections_4 : decode cX6_objections 4 = .ok (.iload_n 2, 1) := by decide +kernel
theorem dX6_objections_5 : decode cX6_objections 5 = .ok (.aload_n 0, 1) := by decide +kernel
theorem dX6_objections_6 : decode cX6_objections 6 = .ok (.getfield 17, 3) := by decide +kernel
theorem dX6_objections_9 : decode cX6_objections 9 = .ok (.if_icmp .ge 25, 3) := by decide +kernel
theorem dX6_objections_12 : decode cX6_objections 12 = .ok (.aload_n 0, 1) := by decide +kernel
theorem dX6_objections_13 : decode cX6_objections 13 = .ok (.getfield 11, 3) := by decide +kernel
theorem dX6_objections_16 : decode cX6_objections 16 = .ok (.iload_n 2, 1) := by decide +kernel
theorem dX6_objections_17 : decode cX6_objections 17 = .ok (.aaload, 1) := by decide +kernel
theorem dX6_objections_18 : decode cX6_objections 18 = .ok (.getfield 45, 3) := by decide +kernel
theorem dX6_objections_21 : decode cX6_objections 21 = .ok (.iconst 1, 1) := by decide +kernel
theorem dX6_objections_22 : decode cX6_objections 22 = .ok (.if_icmp .ne 6, 3) := by decide +kernel
theorem dX6_objections_25 : decode cX6_objections 25 = .ok (.iinc 1 1, 3) := by decide +kernel
theorem dX6_objections_28 : decode cX6_objections 28 = .ok (.iinc 2 1, 3) := by decide +kernel
theorem dX6_objections_31 : decode cX6_objections 31 = .ok (.goto (-27), 3) := by decide +kernel
theorem dX6_objections_34 : decode cX6_objections 34 = .ok (.iload_n 1, 1) := by decide +kernel
theorem dX6_objections_35 : decode cX6_objections 35 = .ok (.ireturn, 1) := by decide +kernel
theorem dX6_markOf_0 : decode cX6_markOf 0 = .ok (.aload_n 0, 1) := by decide +kernel
theorem dX6_markOf_1 : decode cX6_markOf 1 = .ok (.getfield 27, 3) := by decide +kernel
theorem dX6_markOf_4 : decode cX6_markOf 4 = .ok (.getfield 54, 3) := by decide +kernel
theorem dX6_markOf_7 : decode cX6_markOf 7 = .ok (.aload_n 1, 1) := by decide +kernel
theorem dX6_markOf_8 : decode cX6_markOf 8 = .ok (.getfield 48, 3) := by decide +kernel
theorem dX6_markOf_11 : decode cX6_markOf 11 = .ok (.aaload, 1) := by decide +kernel
theorem dX6_markOf_12 : decode cX6_markOf 12 = .ok (.astore_n 3, 1) := by decide +kernel
theorem dX6_markOf_13 : decode cX6_markOf 13 = .ok (.aload_n 0, 1) := by decide +kernel
theorem dX6_markOf_14 : decode cX6_markOf 14 = .ok (.getfield 27, 3) := by decide +kernel
theorem dX6_markOf_17 : decode cX6_markOf 17 = .ok (.aload_n 1, 1) := by decide +kernel
theorem dX6_markOf_18 : decode cX6_markOf 18 = .ok (.getfield 48, 3) := by decide +kernel
theorem dX6_markOf_21 : decode cX6_markOf 21 = .ok (.invokevirtual 58, 3) := by decide +kernel
theorem dX6_markOf_24 : decode cX6_markOf 24 = .ok (.istore 4, 2) := by decide +kernel
theorem dX6_markOf_26 : decode cX6_markOf 26 = .ok (.aload_n 1, 1) := by decide +kernel
theorem dX6_markOf_27 : decode cX6_markOf 27 = .ok (.getfield 45, 3) := by decide +kernel
theorem dX6_markOf_30 : decode cX6_markOf 30 = .ok (.tableswitch 110 1 5 #[34, 52, 62, 87, 97], 34) := by decide +kernel
theorem dX6_markOf_64 : decode cX6_markOf 64 = .ok (.iload 4, 2) := by decide +kernel
theorem dX6_markOf_66 : decode cX6_markOf 66 = .ok (.aload_n 0, 1) := by decide +kernel
theorem dX6_markOf_67 : decode cX6_markOf 67 = .ok (.getfield 27, 3) := by decide +kernel
theorem dX6_markOf_70 : decode cX6_markOf 70 = .ok (.aload_n 1, 1) := by decide +kernel
theorem dX6_markOf_71 : decode cX6_markOf 71 = .ok (.getfield 51, 3) := by decide +kernel
theorem dX6_markOf_74 : decode cX6_markOf 74 = .ok (.invokevirtual 58, 3) := by decide +kernel
theorem dX6_markOf_77 : decode cX6_markOf 77 = .ok (.ixor, 1) := by decide +kernel
theorem dX6_markOf_78 : decode cX6_markOf 78 = .ok (.invokestatic 62, 3) := by decide +kernel
theorem dX6_markOf_81 : decode cX6_markOf 81 = .ok (.ireturn, 1) := by decide +kernel
theorem dX6_markOf_82 : decode cX6_markOf 82 = .ok (.iload 4, 2) := by decide +kernel
theorem dX6_markOf_84 : decode cX6_markOf 84 = .ok (.aload_n 1, 1) := by decide +kernel
theorem dX6_markOf_85 : decode cX6_markOf 85 = .ok (.getfield 51, 3) := by decide +kernel
theorem dX6_markOf_88 : decode cX6_markOf 88 = .ok (.iushr, 1) := by decide +kernel
theorem dX6_markOf_89 : decode cX6_markOf 89 = .ok (.iconst 1, 1) := by decide +kernel
theorem dX6_markOf_90 : decode cX6_markOf 90 = .ok (.iand, 1) := by decide +kernel
theorem dX6_markOf_91 : decode cX6_markOf 91 = .ok (.ireturn, 1) := by decide +kernel
theorem dX6_markOf_92 : decode cX6_markOf 92 = .ok (.aload_n 0, 1) := by decide +kernel
theorem dX6_markOf_93 : decode cX6_markOf 93 = .ok (.getfield 27, 3) := by decide +kernel
theorem dX6_markOf_96 : decode cX6_markOf 96 = .ok (.getfield 67, 3) := by decide +kernel
theorem dX6_markOf_99 : decode cX6_markOf 99 = .ok (.aload_n 2, 1) := by decide +kernel
theorem dX6_markOf_100 : decode cX6_markOf 100 = .ok (.aload_n 1, 1) := by decide +kernel
theorem dX6_markOf_101 : decode cX6_markOf 101 = .ok (.getfield 51, 3) := by decide +kernel
theorem dX6_markOf_104 : decode cX6_markOf 104 = .ok (.aaload, 1) := by decide +kernel
theorem dX6_markOf_105 : decode cX6_markOf 105 = .ok (.getfield 71, 3) := by decide +kernel
theorem dX6_markOf_108 : decode cX6_markOf 108 = .ok (.getfield 77, 3) := by decide +kernel
theorem dX6_markOf_111 : decode cX6_markOf 111 = .ok (.iload 4, 2) := by decide +kernel
theorem dX6_markOf_113 : decode cX6_markOf 113 = .ok (.invokevirtual 82, 3) := by decide +kernel
theorem dX6_markOf_116 : decode cX6_markOf 116 = .ok (.ireturn, 1) := by decide +kernel
theorem dX6_markOf_117 : decode cX6_markOf 117 = .ok (.iload 4, 2) := by decide +kernel
theorem dX6_markOf_119 : decode cX6_markOf 119 = .ok (.iconst 1, 1) := by decide +kernel
theorem dX6_markOf_120 : decode cX6_markOf 120 = .ok (.aload_n 1, 1) := by decide +kernel
theorem dX6_markOf_121 : decode cX6_markOf 121 = .ok (.getfield 51, 3) := by decide +kernel
theorem dX6_markOf_124 : decode cX6_markOf 124 = .ok (.ishl, 1) := by decide +kernel
theorem dX6_markOf_125 : decode cX6_markOf 125 = .ok (.ixor, 1) := by decide +kernel
theorem dX6_markOf_126 : decode cX6_markOf 126 = .ok (.ireturn, 1) := by decide +kernel
theorem dX6_markOf_127 : decode cX6_markOf 127 = .ok (.aload_n 0, 1) := by decide +kernel
theorem dX6_markOf_128 : decode cX6_markOf 128 = .ok (.aload_n 3, 1) := by decide +kernel
theorem dX6_markOf_129 : decode cX6_markOf 129 = .ok (.getfield 88, 3) := by decide +kernel
theorem dX6_markOf_132 : decode cX6_markOf 132 = .ok (.aload_n 1, 1) := by decide +kernel
theorem dX6_markOf_133 : decode cX6_markOf 133 = .ok (.getfield 51, 3) := by decide +kernel
theorem dX6_markOf_136 : decode cX6_markOf 136 = .ok (.invokevirtual 93, 3) := by decide +kernel
theorem dX6_markOf_139 : decode cX6_markOf 139 = .ok (.ireturn, 1) := by decide +kernel
theorem dX6_markOf_140 : decode cX6_markOf 140 = .ok (.aload_n 0, 1) := by decide +kernel
theorem dX6_markOf_141 : decode cX6_markOf 141 = .ok (.getfield 27, 3) := by decide +kernel
theorem dX6_markOf_144 : decode cX6_markOf 144 = .ok (.getfield 96, 3) := by decide +kernel
theorem dX6_markOf_147 : decode cX6_markOf 147 = .ok (.aload_n 0, 1) := by decide +kernel
theorem dX6_markOf_148 : decode cX6_markOf 148 = .ok (.getfield 27, 3) := by decide +kernel
theorem dX6_markOf_151 : decode cX6_markOf 151 = .ok (.aload_n 1, 1) := by decide +kernel
theorem dX6_markOf_152 : decode cX6_markOf 152 = .ok (.getfield 48, 3) := by decide +kernel
theorem dX6_markOf_155 : decode cX6_markOf 155 = .ok (.aload_n 2, 1) := by decide +kernel
theorem dX6_markOf_156 : decode cX6_markOf 156 = .ok (.aload_n 3, 1) := by decide +kernel
theorem dX6_markOf_157 : decode cX6_markOf 157 = .ok (.getfield 88, 3) := by decide +kernel
theorem dX6_markOf_160 : decode cX6_markOf 160 = .ok (.aaload, 1) := by decide +kernel
theorem dX6_markOf_161 : decode cX6_markOf 161 = .ok (.getfield 71, 3) := by decide +kernel
theorem dX6_markOf_164 : decode cX6_markOf 164 = .ok (.getfield 77, 3) := by decide +kernel
theorem dX6_markOf_167 : decode cX6_markOf 167 = .ok (.invokevirtual 100, 3) := by decide +kernel
theorem dX6_markOf_170 : decode cX6_markOf 170 = .ok (.invokevirtual 103, 3) := by decide +kernel
theorem dX6_markOf_173 : decode cX6_markOf 173 = .ok (.ireturn, 1) := by decide +kernel
theorem dX6_sayingsFrom_0 : decode cX6_sayingsFrom 0 = .ok (.iconst 0, 1) := by decide +kernel
theorem dX6_sayingsFrom_1 : decode cX6_sayingsFrom 1 = .ok (.istore_n 3, 1) := by decide +kernel
theorem dX6_sayingsFrom_2 : decode cX6_sayingsFrom 2 = .ok (.iconst 0, 1) := by decide +kernel
theorem dX6_sayingsFrom_3 : decode cX6_sayingsFrom 3 = .ok (.istore 4, 2) := by decide +kernel
theorem dX6_sayingsFrom_5 : decode cX6_sayingsFrom 5 = .ok (.iload 4, 2) := by decide +kernel
theorem dX6_sayingsFrom_7 : decode cX6_sayingsFrom 7 = .ok (.aload_n 0, 1) := by decide +kernel
theorem dX6_sayingsFrom_8 : decode cX6_sayingsFrom 8 = .ok (.getfield 27, 3) := by decide +kernel
theorem dX6_sayingsFrom_11 : decode cX6_sayingsFrom 11 = .ok (.getfield 108, 3) := by decide +kernel
theorem dX6_sayingsFrom_14 : decode cX6_sayingsFrom 14 = .ok (.if_icmp .ge 46, 3) := by decide +kernel
theorem dX6_sayingsFrom_17 : decode cX6_sayingsFrom 17 = .ok (.aload_n 0, 1) := by decide +kernel
theorem dX6_sayingsFrom_18 : decode cX6_sayingsFrom 18 = .ok (.getfield 27, 3) := by decide +kernel
theorem dX6_sayingsFrom_21 : decode cX6_sayingsFrom 21 = .ok (.getfield 54, 3) := by decide +kernel
theorem dX6_sayingsFrom_24 : decode cX6_sayingsFrom 24 = .ok (.iload 4, 2) := by decide +kernel
theorem dX6_sayingsFrom_26 : decode cX6_sayingsFrom 26 = .ok (.aaload, 1) := by decide +kernel
theorem dX6_sayingsFrom_27 : decode cX6_sayingsFrom 27 = .ok (.getfield 88, 3) := by decide +kernel
theorem dX6_sayingsFrom_30 : decode cX6_sayingsFrom 30 = .ok (.iload_n 1, 1) := by decide +kernel
theorem dX6_sayingsFrom_31 : decode cX6_sayingsFrom 31 = .ok (.if_icmp .ne 23, 3) := by decide +kernel
theorem dX6_sayingsFrom_34 : decode cX6_sayingsFrom 34 = .ok (.aload_n 0, 1) := by decide +kernel
theorem dX6_sayingsFrom_35 : decode cX6_sayingsFrom 35 = .ok (.getfield 27, 3) := by decide +kernel
theorem dX6_sayingsFrom_38 : decode cX6_sayingsFrom 38 = .ok (.getfield 54, 3) := by decide +kernel
theorem dX6_sayingsFrom_41 : decode cX6_sayingsFrom 41 = .ok (.iload 4, 2) := by decide +kernel
theorem dX6_sayingsFrom_43 : decode cX6_sayingsFrom 43 = .ok (.aaload, 1) := by decide +kernel
theorem dX6_sayingsFrom_44 : decode cX6_sayingsFrom 44 = .ok (.getfield 111, 3) := by decide +kernel
theorem dX6_sayingsFrom_47 : decode cX6_sayingsFrom 47 = .ok (.iload_n 2, 1) := by decide +kernel
theorem dX6_sayingsFrom_48 : decode cX6_sayingsFrom 48 = .ok (.if_icmp .lt 6, 3) := by decide +kernel
theorem dX6_sayingsFrom_51 : decode cX6_sayingsFrom 51 = .ok (.iinc 3 1, 3) := by decide +kernel
theorem dX6_sayingsFrom_54 : decode cX6_sayingsFrom 54 = .ok (.iinc 4 1, 3) := by decide +kernel
theorem dX6_sayingsFrom_57 : decode cX6_sayingsFrom 57 = .ok (.goto (-52), 3) := by decide +kernel
theorem dX6_sayingsFrom_60 : decode cX6_sayingsFrom 60 = .ok (.iload_n 3, 1) := by decide +kernel
theorem dX6_sayingsFrom_61 : decode cX6_sayingsFrom 61 = .ok (.ireturn, 1) := by decide +kernel
theorem dX6_readThrough_0 : decode cX6_readThrough 0 = .ok (.aload_n 0, 1) := by decide +kernel
theorem dX6_readThrough_1 : decode cX6_readThrough 1 = .ok (.iconst 0, 1) := by decide +kernel
theorem dX6_readThrough_2 : decode cX6_readThrough 2 = .ok (.putfield 21, 3) := by decide +kernel
theorem dX6_readThrough_5 : decode cX6_readThrough 5 = .ok (.aload_n 0, 1) := by decide +kernel
theorem dX6_readThrough_6 : decode cX6_readThrough 6 = .ok (.iconst 0, 1) := by decide +kernel
theorem dX6_readThrough_7 : decode cX6_readThrough 7 = .ok (.putfield 24, 3) := by decide +kernel
theorem dX6_readThrough_10 : decode cX6_readThrough 10 = .ok (.iconst 0, 1) := by decide +kernel
theorem dX6_readThrough_11 : decode cX6_readThrough 11 = .ok (.istore_n 2, 1) := by decide +kernel
theorem dX6_readThrough_12 : decode cX6_readThrough 12 = .ok (.iload_n 2, 1) := by decide +kernel
theorem dX6_readThrough_13 : decode cX6_readThrough 13 = .ok (.aload_n 0, 1) := by decide +kernel
theorem dX6_readThrough_14 : decode cX6_readThrough 14 = .ok (.getfield 17, 3) := by decide +kernel
theorem dX6_readThrough_17 : decode cX6_readThrough 17 = .ok (.if_icmp .ge 132, 3) := by decide +kernel
theorem dX6_readThrough_20 : decode cX6_readThrough 20 = .ok (.aload_n 0, 1) := by decide +kernel
theorem dX6_readThrough_21 : decode cX6_readThrough 21 = .ok (.getfield 11, 3) := by decide +kernel
theorem dX6_readThrough_24 : decode cX6_readThrough 24 = .ok (.iload_n 2, 1) := by decide +kernel
theorem dX6_readThrough_25 : decode cX6_readThrough 25 = .ok (.aaload, 1) := by decide +kernel
theorem dX6_readThrough_26 : decode cX6_readThrough 26 = .ok (.astore_n 3, 1) := by decide +kernel
theorem dX6_readThrough_27 : decode cX6_readThrough 27 = .ok (.aload_n 3, 1) := by decide +kernel
theorem dX6_readThrough_28 : decode cX6_readThrough 28 = .ok (.aload_n 3, 1) := by decide +kernel
theorem dX6_readThrough_29 : decode cX6_readThrough 29 = .ok (.getfield 45, 3) := by decide +kernel
theorem dX6_readThrough_32 : decode cX6_readThrough 32 = .ok (.iconst 1, 1) := by decide +kernel
theorem dX6_readThrough_33 : decode cX6_readThrough 33 = .ok (.if_icmp .ne 7, 3) := by decide +kernel
theorem dX6_readThrough_36 : decode cX6_readThrough 36 = .ok (.iconst 1, 1) := by decide +kernel
theorem dX6_readThrough_37 : decode cX6_readThrough 37 = .ok (.goto 4, 3) := by decide +kernel
theorem dX6_readThrough_40 : decode cX6_readThrough 40 = .ok (.iconst 0, 1) := by decide +kernel
theorem dX6_readThrough_41 : decode cX6_readThrough 41 = .ok (.putfield 114, 3) := by decide +kernel
theorem dX6_readThrough_44 : decode cX6_readThrough 44 = .ok (.aload_n 3, 1) := by decide +kernel
theorem dX6_readThrough_45 : decode cX6_readThrough 45 = .ok (.getfield 114, 3) := by decide +kernel
theorem dX6_readThrough_48 : decode cX6_readThrough 48 = .ok (.ifCond .eq 13, 3) := by decide +kernel
theorem dX6_readThrough_51 : decode cX6_readThrough 51 = .ok (.aload_n 0, 1) := by decide +kernel
theorem dX6_readThrough_52 : decode cX6_readThrough 52 = .ok (.dup, 1) := by decide +kernel
theorem dX6_readThrough_53 : decode cX6_readThrough 53 = .ok (.getfield 21, 3) := by decide +kernel
theorem dX6_readThrough_56 : decode cX6_readThrough 56 = .ok (.iconst 1, 1) := by decide +kernel
theorem dX6_readThrough_57 : decode cX6_readThrough 57 = .ok (.iadd, 1) := by decide +kernel
theorem dX6_readThrough_58 : decode cX6_readThrough 58 = .ok (.putfield 21, 3) := by decide +kernel
theorem dX6_readThrough_61 : decode cX6_readThrough 61 = .ok (.aload_n 3, 1) := by decide +kernel
theorem dX6_readThrough_62 : decode cX6_readThrough 62 = .ok (.getfield 45, 3) := by decide +kernel
theorem dX6_readThrough_65 : decode cX6_readThrough 65 = .ok (.iconst 2, 1) := by decide +kernel
theorem dX6_readThrough_66 : decode cX6_readThrough 66 = .ok (.if_icmp .ge 6, 3) := by decide +kernel
theorem dX6_readThrough_69 : decode cX6_readThrough 69 = .ok (.goto 74, 3) := by decide +kernel
theorem dX6_readThrough_72 : decode cX6_readThrough 72 = .ok (.aload_n 0, 1) := by decide +kernel
theorem dX6_readThrough_73 : decode cX6_readThrough 73 = .ok (.iload_n 2, 1) := by decide +kernel
theorem dX6_readThrough_74 : decode cX6_readThrough 74 = .ok (.aload_n 3, 1) := by decide +kernel
theorem dX6_readThrough_75 : decode cX6_readThrough 75 = .ok (.getfield 48, 3) := by decide +kernel
theorem dX6_readThrough_78 : decode cX6_readThrough 78 = .ok (.invokevirtual 118, 3) := by decide +kernel
theorem dX6_readThrough_81 : decode cX6_readThrough 81 = .ok (.istore 4, 2) := by decide +kernel
theorem dX6_readThrough_83 : decode cX6_readThrough 83 = .ok (.iload 4, 2) := by decide +kernel
theorem dX6_readThrough_85 : decode cX6_readThrough 85 = .ok (.bipush (-9), 2) := by decide +kernel
theorem dX6_readThrough_87 : decode cX6_readThrough 87 = .ok (.if_icmp .eq 46, 3) := by decide +kernel
theorem dX6_readThrough_90 : decode cX6_readThrough 90 = .ok (.aload_n 0, 1) := by decide +kernel
theorem dX6_readThrough_91 : decode cX6_readThrough 91 = .ok (.aload_n 3, 1) := by decide +kernel
theorem dX6_readThrough_92 : decode cX6_readThrough 92 = .ok (.aload_n 0, 1) := by decide +kernel
theorem dX6_readThrough_93 : decode cX6_readThrough 93 = .ok (.getfield 11, 3) := by decide +kernel
theorem dX6_readThrough_96 : decode cX6_readThrough 96 = .ok (.iload 4, 2) := by decide +kernel
theorem dX6_readThrough_98 : decode cX6_readThrough 98 = .ok (.aaload, 1) := by decide +kernel
theorem dX6_readThrough_99 : decode cX6_readThrough 99 = .ok (.getfield 51, 3) := by decide +kernel
theorem dX6_readThrough_102 : decode cX6_readThrough 102 = .ok (.aload_n 1, 1) := by decide +kernel
theorem dX6_readThrough_103 : decode cX6_readThrough 103 = .ok (.invokevirtual 121, 3) := by decide +kernel
theorem dX6_readThrough_106 : decode cX6_readThrough 106 = .ok (.ifCond .eq 27, 3) := by decide +kernel
theorem dX6_readThrough_109 : decode cX6_readThrough 109 = .ok (.aload_n 0, 1) := by decide +kernel
theorem dX6_readThrough_110 : decode cX6_readThrough 110 = .ok (.getfield 11, 3) := by decide +kernel
theorem dX6_readThrough_113 : decode cX6_readThrough 113 = .ok (.iload 4, 2) := by decide +kernel
theorem dX6_readThrough_115 : decode cX6_readThrough 115 = .ok (.aaload, 1) := by decide +kernel
theorem dX6_readThrough_116 : decode cX6_readThrough 116 = .ok (.iconst 0, 1) := by decide +kernel
theorem dX6_readThrough_117 : decode cX6_readThrough 117 = .ok (.putfield 114, 3) := by decide +kernel
theorem dX6_readThrough_120 : decode cX6_readThrough 120 = .ok (.aload_n 0, 1) := by decide +kernel
theorem dX6_readThrough_121 : decode cX6_readThrough 121 = .ok (.dup, 1) := by decide +kernel
theorem dX6_readThrough_122 : decode cX6_readThrough 122 = .ok (.getfield 21, 3) := by decide +kernel
theorem dX6_readThrough_125 : decode cX6_readThrough 125 = .ok (.iconst 1, 1) := by decide +kernel
theorem dX6_readThrough_126 : decode cX6_readThrough 126 = .ok (.isub, 1) := by decide +kernel
theorem dX6_readThrough_127 : decode cX6_readThrough 127 = .ok (.putfield 21, 3) := by decide +kernel
theorem dX6_readThrough_130 : decode cX6_readThrough 130 = .ok (.goto 13, 3) := by decide +kernel
theorem dX6_readThrough_133 : decode cX6_readThrough 133 = .ok (.aload_n 0, 1) := by decide +kernel
theorem dX6_readThrough_134 : decode cX6_readThrough 134 = .ok (.dup, 1) := by decide +kernel
theorem dX6_readThrough_135 : decode cX6_readThrough 135 = .ok (.getfield 24, 3) := by decide +kernel
theorem dX6_readThrough_138 : decode cX6_readThrough 138 = .ok (.iconst 1, 1) := by decide +kernel
theorem dX6_readThrough_139 : decode cX6_readThrough 139 = .ok (.iadd, 1) := by decide +kernel
theorem dX6_readThrough_140 : decode cX6_readThrough 140 = .ok (.putfield 24, 3) := by decide +kernel
theorem dX6_readThrough_143 : decode cX6_readThrough 143 = .ok (.iinc 2 1, 3) := by decide +kernel
theorem dX6_readThrough_146 : decode cX6_readThrough 146 = .ok (.goto (-134), 3) := by decide +kernel
theorem dX6_readThrough_149 : decode cX6_readThrough 149 = .ok (.return_, 1) := by decide +kernel
theorem dX6_lastOpen_0 : decode cX6_lastOpen 0 = .ok (.iload_n 1, 1) := by decide +kernel
theorem dX6_lastOpen_1 : decode cX6_lastOpen 1 = .ok (.iconst 1, 1) := by decide +kernel
theorem dX6_lastOpen_2 : decode cX6_lastOpen 2 = .ok (.isub, 1) := by decide +kernel
theorem dX6_lastOpen_3 : decode cX6_lastOpen 3 = .ok (.istore_n 3, 1) := by decide +kernel
theorem dX6_lastOpen_4 : decode cX6_lastOpen 4 = .ok (.iload_n 3, 1) := by decide +kernel
theorem dX6_lastOpen_5 : decode cX6_lastOpen 5 = .ok (.ifCond .lt 36, 3) := by decide +kernel
theorem dX6_lastOpen_8 : decode cX6_lastOpen 8 = .ok (.aload_n 0, 1) := by decide +kernel
theorem dX6_lastOpen_9 : decode cX6_lastOpen 9 = .ok (.getfield 11, 3) := by decide +kernel
theorem dX6_lastOpen_12 : decode cX6_lastOpen 12 = .ok (.iload_n 3, 1) := by decide +kernel
theorem dX6_lastOpen_13 : decode cX6_lastOpen 13 = .ok (.aaload, 1) := by decide +kernel
theorem dX6_lastOpen_14 : decode cX6_lastOpen 14 = .ok (.getfield 114, 3) := by decide +kernel
theorem dX6_lastOpen_17 : decode cX6_lastOpen 17 = .ok (.ifCond .eq 18, 3) := by decide +kernel
theorem dX6_lastOpen_20 : decode cX6_lastOpen 20 = .ok (.aload_n 0, 1) := by decide +kernel
theorem dX6_lastOpen_21 : decode cX6_lastOpen 21 = .ok (.getfield 11, 3) := by decide +kernel
theorem dX6_lastOpen_24 : decode cX6_lastOpen 24 = .ok (.iload_n 3, 1) := by decide +kernel
theorem dX6_lastOpen_25 : decode cX6_lastOpen 25 = .ok (.aaload, 1) := by decide +kernel
theorem dX6_lastOpen_26 : decode cX6_lastOpen 26 = .ok (.getfield 48, 3) := by decide +kernel
theorem dX6_lastOpen_29 : decode cX6_lastOpen 29 = .ok (.iload_n 2, 1) := by decide +kernel
theorem dX6_lastOpen_30 : decode cX6_lastOpen 30 = .ok (.if_icmp .ne 5, 3) := by decide +kernel
theorem dX6_lastOpen_33 : decode cX6_lastOpen 33 = .ok (.iload_n 3, 1) := by decide +kernel
theorem dX6_lastOpen_34 : decode cX6_lastOpen 34 = .ok (.ireturn, 1) := by decide +kernel
theorem dX6_lastOpen_35 : decode cX6_lastOpen 35 = .ok (.iinc 3 (-1), 3) := by decide +kernel
theorem dX6_lastOpen_38 : decode cX6_lastOpen 38 = .ok (.goto (-34), 3) := by decide +kernel
theorem dX6_lastOpen_41 : decode cX6_lastOpen 41 = .ok (.bipush (-9), 2) := by decide +kernel
theorem dX6_lastOpen_43 : decode cX6_lastOpen 43 = .ok (.ireturn, 1) := by decide +kernel
theorem dX6_closes_0 : decode cX6_closes 0 = .ok (.aload_n 0, 1) := by decide +kernel
theorem dX6_closes_1 : decode cX6_closes 1 = .ok (.getfield 27, 3) := by decide +kernel
theorem dX6_closes_4 : decode cX6_closes 4 = .ok (.getfield 54, 3) := by decide +kernel
theorem dX6_closes_7 : decode cX6_closes 7 = .ok (.aload_n 1, 1) := by decide +kernel
theorem dX6_closes_8 : decode cX6_closes 8 = .ok (.getfield 48, 3) := by decide +kernel
theorem dX6_closes_11 : decode cX6_closes 11 = .ok (.aaload, 1) := by decide +kernel
theorem dX6_closes_12 : decode cX6_closes 12 = .ok (.astore 4, 2) := by decide +kernel
theorem dX6_closes_14 : decode cX6_closes 14 = .ok (.aload_n 0, 1) := by decide +kernel
theorem dX6_closes_15 : decode cX6_closes 15 = .ok (.getfield 27, 3) := by decide +kernel
theorem dX6_closes_18 : decode cX6_closes 18 = .ok (.getfield 54, 3) := by decide +kernel
theorem dX6_closes_21 : decode cX6_closes 21 = .ok (.iload_n 2, 1) := by decide +kernel
theorem dX6_closes_22 : decode cX6_closes 22 = .ok (.aaload, 1) := by decide +kernel
theorem dX6_closes_23 : decode cX6_closes 23 = .ok (.astore 5, 2) := by decide +kernel
theorem dX6_closes_25 : decode cX6_closes 25 = .ok (.aload_n 0, 1) := by decide +kernel
theorem dX6_closes_26 : decode cX6_closes 26 = .ok (.getfield 27, 3) := by decide +kernel
theorem dX6_closes_29 : decode cX6_closes 29 = .ok (.aload_n 1, 1) := by decide +kernel
theorem dX6_closes_30 : decode cX6_closes 30 = .ok (.getfield 48, 3) := by decide +kernel
theorem dX6_closes_33 : decode cX6_closes 33 = .ok (.invokevirtual 58, 3) := by decide +kernel
theorem dX6_closes_36 : decode cX6_closes 36 = .ok (.istore 6, 2) := by decide +kernel
theorem dX6_closes_38 : decode cX6_closes 38 = .ok (.aload_n 0, 1) := by decide +kernel
theorem dX6_closes_39 : decode cX6_closes 39 = .ok (.getfield 27, 3) := by decide +kernel
theorem dX6_closes_42 : decode cX6_closes 42 = .ok (.iload_n 2, 1) := by decide +kernel
theorem dX6_closes_43 : decode cX6_closes 43 = .ok (.invokevirtual 58, 3) := by decide +kernel
theorem dX6_closes_46 : decode cX6_closes 46 = .ok (.istore 7, 2) := by decide +kernel
theorem dX6_closes_48 : decode cX6_closes 48 = .ok (.aload_n 1, 1) := by decide +kernel
theorem dX6_closes_49 : decode cX6_closes 49 = .ok (.getfield 45, 3) := by decide +kernel
theorem dX6_closes_52 : decode cX6_closes 52 = .ok (.tableswitch 174 2 5 #[32, 54, 92, 118], 32) := by decide +kernel
theorem dX6_closes_84 : decode cX6_closes 84 = .ok (.iload 6, 2) := by decide +kernel
theorem dX6_closes_86 : decode cX6_closes 86 = .ok (.iload 7, 2) := by decide +kernel
theorem dX6_closes_88 : decode cX6_closes 88 = .ok (.ixor, 1) := by decide +kernel
theorem dX6_closes_89 : decode cX6_closes 89 = .ok (.aload_n 1, 1) := by decide +kernel
theorem dX6_closes_90 : decode cX6_closes 90 = .ok (.getfield 51, 3) := by decide +kernel
theorem dX6_closes_93 : decode cX6_closes 93 = .ok (.iushr, 1) := by decide +kernel
theorem dX6_closes_94 : decode cX6_closes 94 = .ok (.iconst 1, 1) := by decide +kernel
theorem dX6_closes_95 : decode cX6_closes 95 = .ok (.iand, 1) := by decide +kernel
theorem dX6_closes_96 : decode cX6_closes 96 = .ok (.iconst 1, 1) := by decide +kernel
theorem dX6_closes_97 : decode cX6_closes 97 = .ok (.if_icmp .ne 7, 3) := by decide +kernel
theorem dX6_closes_100 : decode cX6_closes 100 = .ok (.iconst 1, 1) := by decide +kernel
theorem dX6_closes_101 : decode cX6_closes 101 = .ok (.goto 4, 3) := by decide +kernel
theorem dX6_closes_104 : decode cX6_closes 104 = .ok (.iconst 0, 1) := by decide +kernel
theorem dX6_closes_105 : decode cX6_closes 105 = .ok (.ireturn, 1) := by decide +kernel
theorem dX6_closes_106 : decode cX6_closes 106 = .ok (.aload_n 0, 1) := by decide +kernel
theorem dX6_closes_107 : decode cX6_closes 107 = .ok (.getfield 27, 3) := by decide +kernel
theorem dX6_closes_110 : decode cX6_closes 110 = .ok (.getfield 67, 3) := by decide +kernel
theorem dX6_closes_113 : decode cX6_closes 113 = .ok (.aload_n 3, 1) := by decide +kernel
theorem dX6_closes_114 : decode cX6_closes 114 = .ok (.aload_n 1, 1) := by decide +kernel
theorem dX6_closes_115 : decode cX6_closes 115 = .ok (.getfield 51, 3) := by decide +kernel
theorem dX6_closes_118 : decode cX6_closes 118 = .ok (.aaload, 1) := by decide +kernel
theorem dX6_closes_119 : decode cX6_closes 119 = .ok (.getfield 71, 3) := by decide +kernel
theorem dX6_closes_122 : decode cX6_closes 122 = .ok (.getfield 77, 3) := by decide +kernel
theorem dX6_closes_125 : decode cX6_closes 125 = .ok (.iload 7, 2) := by decide +kernel
theorem dX6_closes_127 : decode cX6_closes 127 = .ok (.invokevirtual 82, 3) := by decide +kernel
theorem dX6_closes_130 : decode cX6_closes 130 = .ok (.aload 5, 2) := by decide +kernel
theorem dX6_closes_132 : decode cX6_closes 132 = .ok (.getfield 125, 3) := by decide +kernel
theorem dX6_closes_135 : decode cX6_closes 135 = .ok (.if_icmp .ne 7, 3) := by decide +kernel
theorem dX6_closes_138 : decode cX6_closes 138 = .ok (.iconst 1, 1) := by decide +kernel
theorem dX6_closes_139 : decode cX6_closes 139 = .ok (.goto 4, 3) := by decide +kernel
theorem dX6_closes_142 : decode cX6_closes 142 = .ok (.iconst 0, 1) := by decide +kernel
theorem dX6_closes_143 : decode cX6_closes 143 = .ok (.ireturn, 1) := by decide +kernel
theorem dX6_closes_144 : decode cX6_closes 144 = .ok (.aload_n 0, 1) := by decide +kernel
theorem dX6_closes_145 : decode cX6_closes 145 = .ok (.aload 4, 2) := by decide +kernel
theorem dX6_closes_147 : decode cX6_closes 147 = .ok (.iload 6, 2) := by decide +kernel
theorem dX6_closes_149 : decode cX6_closes 149 = .ok (.iconst 1, 1) := by decide +kernel
theorem dX6_closes_150 : decode cX6_closes 150 = .ok (.aload_n 1, 1) := by decide +kernel
theorem dX6_closes_151 : decode cX6_closes 151 = .ok (.getfield 51, 3) := by decide +kernel
theorem dX6_closes_154 : decode cX6_closes 154 = .ok (.ishl, 1) := by decide +kernel
theorem dX6_closes_155 : decode cX6_closes 155 = .ok (.ixor, 1) := by decide +kernel
theorem dX6_closes_156 : decode cX6_closes 156 = .ok (.aload_n 3, 1) := by decide +kernel
theorem dX6_closes_157 : decode cX6_closes 157 = .ok (.aload 5, 2) := by decide +kernel
theorem dX6_closes_159 : decode cX6_closes 159 = .ok (.getfield 88, 3) := by decide +kernel
theorem dX6_closes_162 : decode cX6_closes 162 = .ok (.aaload, 1) := by decide +kernel
theorem dX6_closes_163 : decode cX6_closes 163 = .ok (.getfield 71, 3) := by decide +kernel
theorem dX6_closes_166 : decode cX6_closes 166 = .ok (.invokevirtual 128, 3) := by decide +kernel
theorem dX6_closes_169 : decode cX6_closes 169 = .ok (.ireturn, 1) := by decide +kernel
theorem dX6_closes_170 : decode cX6_closes 170 = .ok (.aload 4, 2) := by decide +kernel
theorem dX6_closes_172 : decode cX6_closes 172 = .ok (.getfield 88, 3) := by decide +kernel
theorem dX6_closes_175 : decode cX6_closes 175 = .ok (.aload 5, 2) := by decide +kernel
theorem dX6_closes_177 : decode cX6_closes 177 = .ok (.getfield 88, 3) := by decide +kernel
theorem dX6_closes_180 : decode cX6_closes 180 = .ok (.if_icmp .ne 44, 3) := by decide +kernel
theorem dX6_closes_183 : decode cX6_closes 183 = .ok (.aload 4, 2) := by decide +kernel
theorem dX6_closes_185 : decode cX6_closes 185 = .ok (.getfield 111, 3) := by decide +kernel
theorem dX6_closes_188 : decode cX6_closes 188 = .ok (.aload_n 1, 1) := by decide +kernel
theorem dX6_closes_189 : decode cX6_closes 189 = .ok (.getfield 51, 3) := by decide +kernel
theorem dX6_closes_192 : decode cX6_closes 192 = .ok (.if_icmp .ge 7, 3) := by decide +kernel
theorem dX6_closes_195 : decode cX6_closes 195 = .ok (.iconst 1, 1) := by decide +kernel
theorem dX6_closes_196 : decode cX6_closes 196 = .ok (.goto 4, 3) := by decide +kernel
theorem dX6_closes_199 : decode cX6_closes 199 = .ok (.iconst 0, 1) := by decide +kernel
theorem dX6_closes_200 : decode cX6_closes 200 = .ok (.aload 5, 2) := by decide +kernel
theorem dX6_closes_202 : decode cX6_closes 202 = .ok (.getfield 111, 3) := by decide +kernel
theorem dX6_closes_205 : decode cX6_closes 205 = .ok (.aload_n 1, 1) := by decide +kernel
theorem dX6_closes_206 : decode cX6_closes 206 = .ok (.getfield 51, 3) := by decide +kernel
theorem dX6_closes_209 : decode cX6_closes 209 = .ok (.if_icmp .ge 7, 3) := by decide +kernel
theorem dX6_closes_212 : decode cX6_closes 212 = .ok (.iconst 1, 1) := by decide +kernel
theorem dX6_closes_213 : decode cX6_closes 213 = .ok (.goto 4, 3) := by decide +kernel
theorem dX6_closes_216 : decode cX6_closes 216 = .ok (.iconst 0, 1) := by decide +kernel
theorem dX6_closes_217 : decode cX6_closes 217 = .ok (.if_icmp .eq 7, 3) := by decide +kernel
theorem dX6_closes_220 : decode cX6_closes 220 = .ok (.iconst 1, 1) := by decide +kernel
theorem dX6_closes_221 : decode cX6_closes 221 = .ok (.goto 4, 3) := by decide +kernel
theorem dX6_closes_224 : decode cX6_closes 224 = .ok (.iconst 0, 1) := by decide +kernel
theorem dX6_closes_225 : decode cX6_closes 225 = .ok (.ireturn, 1) := by decide +kernel
theorem dX6_closes_226 : decode cX6_closes 226 = .ok (.iconst 1, 1) := by decide +kernel
theorem dX6_closes_227 : decode cX6_closes 227 = .ok (.ireturn, 1) := by decide +kernel
theorem dX6_fitsSomeCheap_0 : decode cX6_fitsSomeCheap 0 = .ok (.iconst 0, 1) := by decide +kernel
theorem dX6_fitsSomeCheap_1 : decode cX6_fitsSomeCheap 1 = .ok (.istore 4, 2) := by decide +kernel
theorem dX6_fitsSomeCheap_3 : decode cX6_fitsSomeCheap 3 = .ok (.iload 4, 2) := by decide +kernel
theorem dX6_fitsSomeCheap_5 : decode cX6_fitsSomeCheap 5 = .ok (.aload_n 3, 1) := by decide +kernel
theorem dX6_fitsSomeCheap_6 : decode cX6_fitsSomeCheap 6 = .ok (.getfield 132, 3) := by decide +kernel
theorem dX6_fitsSomeCheap_9 : decode cX6_fitsSomeCheap 9 = .ok (.if_icmp .ge 40, 3) := by decide +kernel
theorem dX6_fitsSomeCheap_12 : decode cX6_fitsSomeCheap 12 = .ok (.aload_n 0, 1) := by decide +kernel
theorem dX6_fitsSomeCheap_13 : decode cX6_fitsSomeCheap 13 = .ok (.getfield 27, 3) := by decide +kernel
theorem dX6_fitsSomeCheap_16 : decode cX6_fitsSomeCheap 16 = .ok (.getfield 67, 3) := by decide +kernel
theorem dX6_fitsSomeCheap_19 : decode cX6_fitsSomeCheap 19 = .ok (.aload_n 3, 1) := by decide +kernel
theorem dX6_fitsSomeCheap_20 : decode cX6_fitsSomeCheap 20 = .ok (.getfield 135, 3) := by decide +kernel
theorem dX6_fitsSomeCheap_23 : decode cX6_fitsSomeCheap 23 = .ok (.iload 4, 2) := by decide +kernel
theorem dX6_fitsSomeCheap_25 : decode cX6_fitsSomeCheap 25 = .ok (.iaload, 1) := by decide +kernel
theorem dX6_fitsSomeCheap_26 : decode cX6_fitsSomeCheap 26 = .ok (.iload_n 2, 1) := by decide +kernel
theorem dX6_fitsSomeCheap_27 : decode cX6_fitsSomeCheap 27 = .ok (.aload_n 1, 1) := by decide +kernel
theorem dX6_fitsSomeCheap_28 : decode cX6_fitsSomeCheap 28 = .ok (.getfield 125, 3) := by decide +kernel
theorem dX6_fitsSomeCheap_31 : decode cX6_fitsSomeCheap 31 = .ok (.aload_n 1, 1) := by decide +kernel
theorem dX6_fitsSomeCheap_32 : decode cX6_fitsSomeCheap 32 = .ok (.getfield 139, 3) := by decide +kernel
theorem dX6_fitsSomeCheap_35 : decode cX6_fitsSomeCheap 35 = .ok (.invokevirtual 142, 3) := by decide +kernel
theorem dX6_fitsSomeCheap_38 : decode cX6_fitsSomeCheap 38 = .ok (.ifCond .eq 5, 3) := by decide +kernel
theorem dX6_fitsSomeCheap_41 : decode cX6_fitsSomeCheap 41 = .ok (.iconst 1, 1) := by decide +kernel
theorem dX6_fitsSomeCheap_42 : decode cX6_fitsSomeCheap 42 = .ok (.ireturn, 1) := by decide +kernel
theorem dX6_fitsSomeCheap_43 : decode cX6_fitsSomeCheap 43 = .ok (.iinc 4 1, 3) := by decide +kernel
theorem dX6_fitsSomeCheap_46 : decode cX6_fitsSomeCheap 46 = .ok (.goto (-43), 3) := by decide +kernel
theorem dX6_fitsSomeCheap_49 : decode cX6_fitsSomeCheap 49 = .ok (.iconst 0, 1) := by decide +kernel
theorem dX6_fitsSomeCheap_50 : decode cX6_fitsSomeCheap 50 = .ok (.ireturn, 1) := by decide +kernel
theorem dX6_digestFrom_0 : decode cX6_digestFrom 0 = .ok (.lload_n 1, 1) := by decide +kernel
theorem dX6_digestFrom_1 : decode cX6_digestFrom 1 = .ok (.lstore_n 3, 1) := by decide +kernel
theorem dX6_digestFrom_2 : decode cX6_digestFrom 2 = .ok (.iconst 0, 1) := by decide +kernel
theorem dX6_digestFrom_3 : decode cX6_digestFrom 3 = .ok (.istore 5, 2) := by decide +kernel
theorem dX6_digestFrom_5 : decode cX6_digestFrom 5 = .ok (.iload 5, 2) := by decide +kernel
theorem dX6_digestFrom_7 : decode cX6_digestFrom 7 = .ok (.aload_n 0, 1) := by decide +kernel
theorem dX6_digestFrom_8 : decode cX6_digestFrom 8 = .ok (.getfield 17, 3) := by decide +kernel
theorem dX6_digestFrom_11 : decode cX6_digestFrom 11 = .ok (.if_icmp .ge 44, 3) := by decide +kernel
theorem dX6_digestFrom_14 : decode cX6_digestFrom 14 = .ok (.iconst 0, 1) := by decide +kernel
theorem dX6_digestFrom_15 : decode cX6_digestFrom 15 = .ok (.istore 6, 2) := by decide +kernel
theorem dX6_digestFrom_17 : decode cX6_digestFrom 17 = .ok (.iload 6, 2) := by decide +kernel
theorem dX6_digestFrom_19 : decode cX6_digestFrom 19 = .ok (.iconst 3, 1) := by decide +kernel
theorem dX6_digestFrom_20 : decode cX6_digestFrom 20 = .ok (.if_icmp .ge 29, 3) := by decide +kernel
theorem dX6_digestFrom_23 : decode cX6_digestFrom 23 = .ok (.ldc2_w 146, 3) := by decide +kernel
theorem dX6_digestFrom_26 : decode cX6_digestFrom 26 = .ok (.lload_n 3, 1) := by decide +kernel
theorem dX6_digestFrom_27 : decode cX6_digestFrom 27 = .ok (.lmul, 1) := by decide +kernel
theorem dX6_digestFrom_28 : decode cX6_digestFrom 28 = .ok (.aload_n 0, 1) := by decide +kernel
theorem dX6_digestFrom_29 : decode cX6_digestFrom 29 = .ok (.getfield 11, 3) := by decide +kernel
theorem dX6_digestFrom_32 : decode cX6_digestFrom 32 = .ok (.iload 5, 2) := by decide +kernel
theorem dX6_digestFrom_34 : decode cX6_digestFrom 34 = .ok (.aaload, 1) := by decide +kernel
theorem dX6_digestFrom_35 : decode cX6_digestFrom 35 = .ok (.iload 6, 2) := by decide +kernel
theorem dX6_digestFrom_37 : decode cX6_digestFrom 37 = .ok (.invokevirtual 148, 3) := by decide +kernel
theorem dX6_digestFrom_40 : decode cX6_digestFrom 40 = .ok (.i2l, 1) := by decide +kernel
theorem dX6_digestFrom_41 : decode cX6_digestFrom 41 = .ok (.ladd, 1) := by decide +kernel
theorem dX6_digestFrom_42 : decode cX6_digestFrom 42 = .ok (.lstore_n 3, 1) := by decide +kernel
theorem dX6_digestFrom_43 : decode cX6_digestFrom 43 = .ok (.iinc 6 1, 3) := by decide +kernel
theorem dX6_digestFrom_46 : decode cX6_digestFrom 46 = .ok (.goto (-29), 3) := by decide +kernel
theorem dX6_digestFrom_49 : decode cX6_digestFrom 49 = .ok (.iinc 5 1, 3) := by decide +kernel
theorem dX6_digestFrom_52 : decode cX6_digestFrom 52 = .ok (.goto (-47), 3) := by decide +kernel
theorem dX6_digestFrom_55 : decode cX6_digestFrom 55 = .ok (.lload_n 3, 1) := by decide +kernel
theorem dX6_digestFrom_56 : decode cX6_digestFrom 56 = .ok (.lreturn, 1) := by decide +kernel
theorem dX7_init_0 : decode cX7_init 0 = .ok (.aload_n 0, 1) := by decide +kernel
theorem dX7_init_1 : decode cX7_init 1 = .ok (.invokespecial 3, 3) := by decide +kernel
theorem dX7_init_4 : decode cX7_init 4 = .ok (.aload_n 0, 1) := by decide +kernel
theorem dX7_init_5 : decode cX7_init 5 = .ok (.bipush 40, 2) := by decide +kernel
theorem dX7_init_7 : decode cX7_init 7 = .ok (.newarray .int, 2) := by decide +kernel
theorem dX7_init_9 : decode cX7_init 9 = .ok (.putfield 9, 3) := by decide +kernel
theorem dX7_init_12 : decode cX7_init 12 = .ok (.aload_n 0, 1) := by decide +kernel
theorem dX7_init_13 : decode cX7_init 13 = .ok (.iconst (-1), 1) := by decide +kernel
theorem dX7_init_14 : decode cX7_init 14 = .ok (.putfield 15, 3) := by decide +kernel
theorem dX7_init_17 : decode cX7_init 17 = .ok (.return_, 1) := by decide +kernel
theorem dX7_renew_0 : decode cX7_renew 0 = .ok (.aload_n 0, 1) := by decide +kernel
theorem dX7_renew_1 : decode cX7_renew 1 = .ok (.getfield 9, 3) := by decide +kernel
theorem dX7_renew_4 : decode cX7_renew 4 = .ok (.iconst 0, 1) := by decide +kernel
theorem dX7_renew_5 : decode cX7_renew 5 = .ok (.invokestatic 19, 3) := by decide +kernel
theorem dX7_renew_8 : decode cX7_renew 8 = .ok (.aload_n 0, 1) := by decide +kernel
theorem dX7_renew_9 : decode cX7_renew 9 = .ok (.iload_n 1, 1) := by decide +kernel
theorem dX7_renew_10 : decode cX7_renew 10 = .ok (.putfield 15, 3) := by decide +kernel
theorem dX7_renew_13 : decode cX7_renew 13 = .ok (.return_, 1) := by decide +kernel
theorem dX7_hasPlaces_0 : decode cX7_hasPlaces 0 = .ok (.iload_n 1, 1) := by decide +kernel
theorem dX7_hasPlaces_1 : decode cX7_hasPlaces 1 = .ok (.ifCond .lt 17, 3) := by decide +kernel
theorem dX7_hasPlaces_4 : decode cX7_hasPlaces 4 = .ok (.iload_n 1, 1) := by decide +kernel
theorem dX7_hasPlaces_5 : decode cX7_hasPlaces 5 = .ok (.aload_n 0, 1) := by decide +kernel
theorem dX7_hasPlaces_6 : decode cX7_hasPlaces 6 = .ok (.getfield 15, 3) := by decide +kernel
theorem dX7_hasPlaces_9 : decode cX7_hasPlaces 9 = .ok (.iload_n 2, 1) := by decide +kernel
theorem dX7_hasPlaces_10 : decode cX7_hasPlaces 10 = .ok (.isub, 1) := by decide +kernel
theorem dX7_hasPlaces_11 : decode cX7_hasPlaces 11 = .ok (.if_icmp .gt 7, 3) := by decide +kernel
theorem dX7_hasPlaces_14 : decode cX7_hasPlaces 14 = .ok (.iconst 1, 1) := by decide +kernel
theorem dX7_hasPlaces_15 : decode cX7_hasPlaces 15 = .ok (.goto 4, 3) := by decide +kernel
theorem dX7_hasPlaces_18 : decode cX7_hasPlaces 18 = .ok (.iconst 0, 1) := by decide +kernel
theorem dX7_hasPlaces_19 : decode cX7_hasPlaces 19 = .ok (.ireturn, 1) := by decide +kernel
theorem dX7_sum_0 : decode cX7_sum 0 = .ok (.lconst 0, 1) := by decide +kernel
theorem dX7_sum_1 : decode cX7_sum 1 = .ok (.lstore_n 1, 1) := by decide +kernel
theorem dX7_sum_2 : decode cX7_sum 2 = .ok (.iconst 0, 1) := by decide +kernel
theorem dX7_sum_3 : decode cX7_sum 3 = .ok (.istore_n 3, 1) := by decide +kernel
theorem dX7_sum_4 : decode cX7_sum 4 = .ok (.iload_n 3, 1) := by decide +kernel
theorem dX7_sum_5 : decode cX7_sum 5 = .ok (.aload_n 0, 1) := by decide +kernel
theorem dX7_sum_6 : decode cX7_sum 6 = .ok (.getfield 15, 3) := by decide +kernel
theorem dX7_sum_9 : decode cX7_sum 9 = .ok (.if_icmp .ge 19, 3) := by decide +kernel
theorem dX7_sum_12 : decode cX7_sum 12 = .ok (.lload_n 1, 1) := by decide +kernel
theorem dX7_sum_13 : decode cX7_sum 13 = .ok (.aload_n 0, 1) := by decide +kernel
theorem dX7_sum_14 : decode cX7_sum 14 = .ok (.getfield 9, 3) := by decide +kernel
theorem dX7_sum_17 : decode cX7_sum 17 = .ok (.iload_n 3, 1) := by decide +kernel
theorem dX7_sum_18 : decode cX7_sum 18 = .ok (.iaload, 1) := by decide +kernel
theorem dX7_sum_19 : decode cX7_sum 19 = .ok (.i2l, 1) := by decide +kernel
theorem dX7_sum_20 : decode cX7_sum 20 = .ok (.ladd, 1) := by decide +kernel
theorem dX7_sum_21 : decode cX7_sum 21 = .ok (.lstore_n 1, 1) := by decide +kernel
theorem dX7_sum_22 : decode cX7_sum 22 = .ok (.iinc 3 1, 3) := by decide +kernel
theorem dX7_sum_25 : decode cX7_sum 25 = .ok (.goto (-21), 3) := by decide +kernel
theorem dX7_sum_28 : decode cX7_sum 28 = .ok (.lload_n 1, 1) := by decide +kernel
theorem dX7_sum_29 : decode cX7_sum 29 = .ok (.lreturn, 1) := by decide +kernel
theorem dX7_digestFrom_0 : decode cX7_digestFrom 0 = .ok (.ldc2_w 25, 3) := by decide +kernel
theorem dX7_digestFrom_3 : decode cX7_digestFrom 3 = .ok (.lload_n 1, 1) := by decide +kernel
theorem dX7_digestFrom_4 : decode cX7_digestFrom 4 = .ok (.lmul, 1) := by decide +kernel
theorem dX7_digestFrom_5 : decode cX7_digestFrom 5 = .ok (.aload_n 0, 1) := by decide +kernel
theorem dX7_digestFrom_6 : decode cX7_digestFrom 6 = .ok (.getfield 15, 3) := by decide +kernel
theorem dX7_digestFrom_9 : decode cX7_digestFrom 9 = .ok (.i2l, 1) := by decide +kernel
theorem dX7_digestFrom_10 : decode cX7_digestFrom 10 = .ok (.ladd, 1) := by decide +kernel
theorem dX7_digestFrom_11 : decode cX7_digestFrom 11 = .ok (.lstore_n 3, 1) := by decide +kernel
theorem dX7_digestFrom_12 : decode cX7_digestFrom 12 = .ok (.iconst 0, 1) := by decide +kernel
theorem dX7_digestFrom_13 : decode cX7_digestFrom 13 = .ok (.istore 5, 2) := by decide +kernel
theorem dX7_digestFrom_15 : decode cX7_digestFrom 15 = .ok (.iload 5, 2) := by decide +kernel
theorem dX7_digestFrom_17 : decode cX7_digestFrom 17 = .ok (.aload_n 0, 1) := by decide +kernel
theorem dX7_digestFrom_18 : decode cX7_digestFrom 18 = .ok (.getfield 15, 3) := by decide +kernel
theorem dX7_digestFrom_21 : decode cX7_digestFrom 21 = .ok (.if_icmp .ge 24, 3) := by decide +kernel
theorem dX7_digestFrom_24 : decode cX7_digestFrom 24 = .ok (.ldc2_w 25, 3) := by decide +kernel
theorem dX7_digestFrom_27 : decode cX7_digestFrom 27 = .ok (.lload_n 3, 1) := by decide +kernel
theorem dX7_digestFrom_28 : decode cX7_digestFrom 28 = .ok (.lmul, 1) := by decide +kernel
theorem dX7_digestFrom_29 : decode cX7_digestFrom 29 = .ok (.aload_n 0, 1) := by decide +kernel
theorem dX7_digestFrom_30 : decode cX7_digestFrom 30 = .ok (.getfield 9, 3) := by decide +kernel
theorem dX7_digestFrom_33 : decode cX7_digestFrom 33 = .ok (.iload 5, 2) := by decide +kernel
theorem dX7_digestFrom_35 : decode cX7_digestFrom 35 = .ok (.iaload, 1) := by decide +kernel
theorem dX7_digestFrom_36 : decode cX7_digestFrom 36 = .ok (.i2l, 1) := by decide +kernel
theorem dX7_digestFrom_37 : decode cX7_digestFrom 37 = .ok (.ladd, 1) := by decide +kernel
theorem dX7_digestFrom_38 : decode cX7_digestFrom 38 = .ok (.lstore_n 3, 1) := by decide +kernel
theorem dX7_digestFrom_39 : decode cX7_digestFrom 39 = .ok (.iinc 5 1, 3) := by decide +kernel
theorem dX7_digestFrom_42 : decode cX7_digestFrom 42 = .ok (.goto (-27), 3) := by decide +kernel
theorem dX7_digestFrom_45 : decode cX7_digestFrom 45 = .ok (.lload_n 3, 1) := by decide +kernel
theorem dX7_digestFrom_46 : decode cX7_digestFrom 46 = .ok (.lreturn, 1) := by decide +kernel
theorem dX8_init_0 : decode cX8_init 0 = .ok (.aload_n 0, 1) := by decide +kernel
theorem dX8_init_1 : decode cX8_init 1 = .ok (.invokespecial 3, 3) := by decide +kernel
theorem dX8_init_4 : decode cX8_init 4 = .ok (.aload_n 0, 1) := by decide +kernel
theorem dX8_init_5 : decode cX8_init 5 = .ok (.sipush 244, 3) := by decide +kernel
theorem dX8_init_8 : decode cX8_init 8 = .ok (.newarray .int, 2) := by decide +kernel
theorem dX8_init_10 : decode cX8_init 10 = .ok (.putfield 9, 3) := by decide +kernel
theorem dX8_init_13 : decode cX8_init 13 = .ok (.aload_n 0, 1) := by decide +kernel
theorem dX8_init_14 : decode cX8_init 14 = .ok (.sipush 244, 3) := by decide +kernel
theorem dX8_init_17 : decode cX8_init 17 = .ok (.newarray .int, 2) := by decide +kernel
theorem dX8_init_19 : decode cX8_init 19 = .ok (.putfield 15, 3) := by decide +kernel
theorem dX8_init_22 : decode cX8_init 22 = .ok (.iconst 0, 1) := by decide +kernel
theorem dX8_init_23 : decode cX8_init 23 = .ok (.istore_n 1, 1) := by decide +kernel
theorem dX8_init_24 : decode cX8_init 24 = .ok (.iload_n 1, 1) := by decide +kernel
theorem dX8_init_25 : decode cX8_init 25 = .ok (.sipush 243, 3) := by decide +kernel
theorem dX8_init_28 : decode cX8_init 28 = .ok (.if_icmp .ge 87, 3) := by decide +kernel
theorem dX8_init_31 : decode cX8_init 31 = .ok (.aload_n 0, 1) := by decide +kernel
theorem dX8_init_32 : decode cX8_init 32 = .ok (.getfield 9, 3) := by decide +kernel
theorem dX8_init_35 : decode cX8_init 35 = .ok (.iload_n 1, 1) := by decide +kernel
theorem dX8_init_36 : decode cX8_init 36 = .ok (.iconst (-1), 1) := by decide +kernel
theorem dX8_init_37 : decode cX8_init 37 = .ok (.iastore, 1) := by decide +kernel
theorem dX8_init_38 : decode cX8_init 38 = .ok (.iconst 0, 1) := by decide +kernel
theorem dX8_init_39 : decode cX8_init 39 = .ok (.istore_n 2, 1) := by decide +kernel
theorem dX8_init_40 : decode cX8_init 40 = .ok (.iload_n 2, 1) := by decide +kernel
theorem dX8_init_41 : decode cX8_init 41 = .ok (.iconst 5, 1) := by decide +kernel
theorem dX8_init_42 : decode cX8_init 42 = .ok (.if_icmp .ge 67, 3) := by decide +kernel
theorem dX8_init_45 : decode cX8_init 45 = .ok (.iload_n 1, 1) := by decide +kernel
theorem dX8_init_46 : decode cX8_init 46 = .ok (.getstatic 18, 3) := by decide +kernel
theorem dX8_init_49 : decode cX8_init 49 = .ok (.iload_n 2, 1) := by decide +kernel
theorem dX8_init_50 : decode cX8_init 50 = .ok (.iaload, 1) := by decide +kernel
theorem dX8_init_51 : decode cX8_init 51 = .ok (.idiv, 1) := by decide +kernel
theorem dX8_init_52 : decode cX8_init 52 = .ok (.iconst 3, 1) := by decide +kernel
theorem dX8_init_53 : decode cX8_init 53 = .ok (.irem, 1) := by decide +kernel
theorem dX8_init_54 : decode cX8_init 54 = .ok (.istore_n 3, 1) := by decide +kernel
theorem dX8_init_55 : decode cX8_init 55 = .ok (.iload_n 3, 1) := by decide +kernel
theorem dX8_init_56 : decode cX8_init 56 = .ok (.ifCond .ne 6, 3) := by decide +kernel
theorem dX8_init_59 : decode cX8_init 59 = .ok (.goto 44, 3) := by decide +kernel
theorem dX8_init_62 : decode cX8_init 62 = .ok (.aload_n 0, 1) := by decide +kernel
theorem dX8_init_63 : decode cX8_init 63 = .ok (.getfield 9, 3) := by decide +kernel
theorem dX8_init_66 : decode cX8_init 66 = .ok (.iload_n 1, 1) := by decide +kernel
theorem dX8_init_67 : decode cX8_init 67 = .ok (.dup2, 1) := by decide +kernel
theorem dX8_init_68 : decode cX8_init 68 = .ok (.iaload, 1) := by decide +kernel
theorem dX8_init_69 : decode cX8_init 69 = .ok (.iload_n 3, 1) := by decide +kernel
theorem dX8_init_70 : decode cX8_init 70 = .ok (.iconst 1, 1) := by decide +kernel
theorem dX8_init_71 : decode cX8_init 71 = .ok (.if_icmp .ne 11, 3) := by decide +kernel
theorem dX8_init_74 : decode cX8_init 74 = .ok (.getstatic 21, 3) := by decide +kernel
theorem dX8_init_77 : decode cX8_init 77 = .ok (.iload_n 2, 1) := by decide +kernel
theorem dX8_init_78 : decode cX8_init 78 = .ok (.iaload, 1) := by decide +kernel
theorem dX8_init_79 : decode cX8_init 79 = .ok (.goto 10, 3) := by decide +kernel
theorem dX8_init_82 : decode cX8_init 82 = .ok (.getstatic 21, 3) := by decide +kernel
theorem dX8_init_85 : decode cX8_init 85 = .ok (.iload_n 2, 1) := by decide +kernel
theorem dX8_init_86 : decode cX8_init 86 = .ok (.iaload, 1) := by decide +kernel
theorem dX8_init_87 : decode cX8_init 87 = .ok (.iconst (-1), 1) := by decide +kernel
theorem dX8_init_88 : decode cX8_init 88 = .ok (.ixor, 1) := by decide +kernel
theorem dX8_init_89 : decode cX8_init 89 = .ok (.iand, 1) := by decide +kernel
theorem dX8_init_90 : decode cX8_init 90 = .ok (.iastore, 1) := by decide +kernel
theorem dX8_init_91 : decode cX8_init 91 = .ok (.aload_n 0, 1) := by decide +kernel
theorem dX8_init_92 : decode cX8_init 92 = .ok (.getfield 15, 3) := by decide +kernel
theorem dX8_init_95 : decode cX8_init 95 = .ok (.iload_n 1, 1) := by decide +kernel
theorem dX8_init_96 : decode cX8_init 96 = .ok (.dup2, 1) := by decide +kernel
theorem dX8_init_97 : decode cX8_init 97 = .ok (.iaload, 1) := by decide +kernel
theorem dX8_init_98 : decode cX8_init 98 = .ok (.iconst 1, 1) := by decide +kernel
theorem dX8_init_99 : decode cX8_init 99 = .ok (.iload_n 2, 1) := by decide +kernel
theorem dX8_init_100 : decode cX8_init 100 = .ok (.ishl, 1) := by decide +kernel
theorem dX8_init_101 : decode cX8_init 101 = .ok (.ior, 1) := by decide +kernel
theorem dX8_init_102 : decode cX8_init 102 = .ok (.iastore, 1) := by decide +kernel
theorem dX8_init_103 : decode cX8_init 103 = .ok (.iinc 2 1, 3) := by decide +kernel
theorem dX8_init_106 : decode cX8_init 106 = .ok (.goto (-66), 3) := by decide +kernel
theorem dX8_init_109 : decode cX8_init 109 = .ok (.iinc 1 1, 3) := by decide +kernel
theorem dX8_init_112 : decode cX8_init 112 = .ok (.goto (-88), 3) := by decide +kernel
theorem dX8_init_115 : decode cX8_init 115 = .ok (.return_, 1) := by decide +kernel
theorem dX8_verdict_0 : decode cX8_verdict 0 = .ok (.aload_n 0, 1) := by decide +kernel
theorem dX8_verdict_1 : decode cX8_verdict 1 = .ok (.getfield 9, 3) := by decide +kernel
theorem dX8_verdict_4 : decode cX8_verdict 4 = .ok (.iload_n 1, 1) := by decide +kernel
theorem dX8_verdict_5 : decode cX8_verdict 5 = .ok (.iaload, 1) := by decide +kernel
theorem dX8_verdict_6 : decode cX8_verdict 6 = .ok (.iload_n 2, 1) := by decide +kernel
theorem dX8_verdict_7 : decode cX8_verdict 7 = .ok (.iushr, 1) := by decide +kernel
theorem dX8_verdict_8 : decode cX8_verdict 8 = .ok (.iconst 1, 1) := by decide +kernel
theorem dX8_verdict_9 : decode cX8_verdict 9 = .ok (.iand, 1) := by decide +kernel
theorem dX8_verdict_10 : decode cX8_verdict 10 = .ok (.ireturn, 1) := by decide +kernel
theorem dX8_looksAt_0 : decode cX8_looksAt 0 = .ok (.iload_n 2, 1) := by decide +kernel
theorem dX8_looksAt_1 : decode cX8_looksAt 1 = .ok (.bipush (-9), 2) := by decide +kernel
theorem dX8_looksAt_3 : decode cX8_looksAt 3 = .ok (.if_icmp .eq 17, 3) := by decide +kernel
theorem dX8_looksAt_6 : decode cX8_looksAt 6 = .ok (.aload_n 0, 1) := by decide +kernel
theorem dX8_looksAt_7 : decode cX8_looksAt 7 = .ok (.getfield 15, 3) := by decide +kernel
theorem dX8_looksAt_10 : decode cX8_looksAt 10 = .ok (.iload_n 1, 1) := by decide +kernel
theorem dX8_looksAt_11 : decode cX8_looksAt 11 = .ok (.iaload, 1) := by decide +kernel
theorem dX8_looksAt_12 : decode cX8_looksAt 12 = .ok (.iload_n 2, 1) := by decide +kernel
theorem dX8_looksAt_13 : decode cX8_looksAt 13 = .ok (.iushr, 1) := by decide +kernel
theorem dX8_looksAt_14 : decode cX8_looksAt 14 = .ok (.iconst 1, 1) := by decide +kernel
theorem dX8_looksAt_15 : decode cX8_looksAt 15 = .ok (.iand, 1) := by decide +kernel
theorem dX8_looksAt_16 : decode cX8_looksAt 16 = .ok (.iconst 1, 1) := by decide +kernel
theorem dX8_looksAt_17 : decode cX8_looksAt 17 = .ok (.if_icmp .ne 7, 3) := by decide +kernel
theorem dX8_looksAt_20 : decode cX8_looksAt 20 = .ok (.iconst 1, 1) := by decide +kernel
theorem dX8_looksAt_21 : decode cX8_looksAt 21 = .ok (.goto 4, 3) := by decide +kernel
theorem dX8_looksAt_24 : decode cX8_looksAt 24 = .ok (.iconst 0, 1) := by decide +kernel
theorem dX8_looksAt_25 : decode cX8_looksAt 25 = .ok (.ireturn, 1) := by decide +kernel
theorem dX8_fitting_0 : decode cX8_fitting 0 = .ok (.aload_n 0, 1) := by decide +kernel
theorem dX8_fitting_1 : decode cX8_fitting 1 = .ok (.iload_n 1, 1) := by decide +kernel
theorem dX8_fitting_2 : decode cX8_fitting 2 = .ok (.iload_n 2, 1) := by decide +kernel
theorem dX8_fitting_3 : decode cX8_fitting 3 = .ok (.invokevirtual 24, 3) := by decide +kernel
theorem dX8_fitting_6 : decode cX8_fitting 6 = .ok (.iload_n 3, 1) := by decide +kernel
theorem dX8_fitting_7 : decode cX8_fitting 7 = .ok (.if_icmp .ne 17, 3) := by decide +kernel
theorem dX8_fitting_10 : decode cX8_fitting 10 = .ok (.aload_n 0, 1) := by decide +kernel
theorem dX8_fitting_11 : decode cX8_fitting 11 = .ok (.iload_n 1, 1) := by decide +kernel
theorem dX8_fitting_12 : decode cX8_fitting 12 = .ok (.iload 4, 2) := by decide +kernel
theorem dX8_fitting_14 : decode cX8_fitting 14 = .ok (.invokevirtual 28, 3) := by decide +kernel
theorem dX8_fitting_17 : decode cX8_fitting 17 = .ok (.ifCond .eq 7, 3) := by decide +kernel
theorem dX8_fitting_20 : decode cX8_fitting 20 = .ok (.iconst 1, 1) := by decide +kernel
theorem dX8_fitting_21 : decode cX8_fitting 21 = .ok (.goto 4, 3) := by decide +kernel
theorem dX8_fitting_24 : decode cX8_fitting 24 = .ok (.iconst 0, 1) := by decide +kernel
theorem dX8_fitting_25 : decode cX8_fitting 25 = .ok (.ireturn, 1) := by decide +kernel
theorem dX8_strain_0 : decode cX8_strain 0 = .ok (.aload_n 0, 1) := by decide +kernel
theorem dX8_strain_1 : decode cX8_strain 1 = .ok (.iload_n 1, 1) := by decide +kernel
theorem dX8_strain_2 : decode cX8_strain 2 = .ok (.iload 4, 2) := by decide +kernel
theorem dX8_strain_4 : decode cX8_strain 4 = .ok (.invokevirtual 28, 3) := by decide +kernel
theorem dX8_strain_7 : decode cX8_strain 7 = .ok (.ifCond .ne 7, 3) := by decide +kernel
theorem dX8_strain_10 : decode cX8_strain 10 = .ok (.sipush 513, 3) := by decide +kernel
theorem dX8_strain_13 : decode cX8_strain 13 = .ok (.ireturn, 1) := by decide +kernel
theorem dX8_strain_14 : decode cX8_strain 14 = .ok (.aload_n 0, 1) := by decide +kernel
theorem dX8_strain_15 : decode cX8_strain 15 = .ok (.iload_n 1, 1) := by decide +kernel
theorem dX8_strain_16 : decode cX8_strain 16 = .ok (.iload_n 2, 1) := by decide +kernel
theorem dX8_strain_17 : decode cX8_strain 17 = .ok (.invokevirtual 24, 3) := by decide +kernel
theorem dX8_strain_20 : decode cX8_strain 20 = .ok (.iload_n 3, 1) := by decide +kernel
theorem dX8_strain_21 : decode cX8_strain 21 = .ok (.if_icmp .ne 5, 3) := by decide +kernel
theorem dX8_strain_24 : decode cX8_strain 24 = .ok (.iconst 0, 1) := by decide +kernel
theorem dX8_strain_25 : decode cX8_strain 25 = .ok (.ireturn, 1) := by decide +kernel
theorem dX8_strain_26 : decode cX8_strain 26 = .ok (.iconst 0, 1) := by decide +kernel
theorem dX8_strain_27 : decode cX8_strain 27 = .ok (.istore 5, 2) := by decide +kernel
theorem dX8_strain_29 : decode cX8_strain 29 = .ok (.iload 5, 2) := by decide +kernel
theorem dX8_strain_31 : decode cX8_strain 31 = .ok (.iconst 5, 1) := by decide +kernel
theorem dX8_strain_32 : decode cX8_strain 32 = .ok (.if_icmp .ge 26, 3) := by decide +kernel
theorem dX8_strain_35 : decode cX8_strain 35 = .ok (.aload_n 0, 1) := by decide +kernel
theorem dX8_strain_36 : decode cX8_strain 36 = .ok (.iload_n 1, 1) := by decide +kernel
theorem dX8_strain_37 : decode cX8_strain 37 = .ok (.iload_n 2, 1) := by decide +kernel
theorem dX8_strain_38 : decode cX8_strain 38 = .ok (.iconst 1, 1) := by decide +kernel
theorem dX8_strain_39 : decode cX8_strain 39 = .ok (.iload 5, 2) := by decide +kernel
theorem dX8_strain_41 : decode cX8_strain 41 = .ok (.ishl, 1) := by decide +kernel
theorem dX8_strain_42 : decode cX8_strain 42 = .ok (.ixor, 1) := by decide +kernel
theorem dX8_strain_43 : decode cX8_strain 43 = .ok (.invokevirtual 24, 3) := by decide +kernel
theorem dX8_strain_46 : decode cX8_strain 46 = .ok (.iload_n 3, 1) := by decide +kernel
theorem dX8_strain_47 : decode cX8_strain 47 = .ok (.if_icmp .ne 5, 3) := by decide +kernel
theorem dX8_strain_50 : decode cX8_strain 50 = .ok (.iconst 1, 1) := by decide +kernel
theorem dX8_strain_51 : decode cX8_strain 51 = .ok (.ireturn, 1) := by decide +kernel
theorem dX8_strain_52 : decode cX8_strain 52 = .ok (.iinc 5 1, 3) := by decide +kernel
theorem dX8_strain_55 : decode cX8_strain 55 = .ok (.goto (-26), 3) := by decide +kernel
theorem dX8_strain_58 : decode cX8_strain 58 = .ok (.sipush 513, 3) := by decide +kernel
theorem dX8_strain_61 : decode cX8_strain 61 = .ok (.ireturn, 1) := by decide +kernel
theorem dX9_init_0 : decode cX9_init 0 = .ok (.aload_n 0, 1) := by decide +kernel
theorem dX9_init_1 : decode cX9_init 1 = .ok (.invokespecial 3, 3) := by decide +kernel
theorem dX9_init_4 : decode cX9_init 4 = .ok (.aload_n 0, 1) := by decide +kernel
theorem dX9_init_5 : decode cX9_init 5 = .ok (.iconst 0, 1) := by decide +kernel
theorem dX9_init_6 : decode cX9_init 6 = .ok (.putfield 9, 3) := by decide +kernel
theorem dX9_init_9 : decode cX9_init 9 = .ok (.aload_n 0, 1) := by decide +kernel
theorem dX9_init_10 : decode cX9_init 10 = .ok (.iconst 0, 1) := by decide +kernel
theorem dX9_init_11 : decode cX9_init 11 = .ok (.putfield 15, 3) := by decide +kernel
theorem dX9_init_14 : decode cX9_init 14 = .ok (.aload_n 0, 1) := by decide +kernel
theorem dX9_init_15 : decode cX9_init 15 = .ok (.iconst 0, 1) := by decide +kernel
theorem dX9_init_16 : decode cX9_init 16 = .ok (.putfield 18, 3) := by decide +kernel
theorem dX9_init_19 : decode cX9_init 19 = .ok (.aload_n 0, 1) := by decide +kernel
theorem dX9_init_20 : decode cX9_init 20 = .ok (.iconst 0, 1) := by decide +kernel
theorem dX9_init_21 : decode cX9_init 21 = .ok (.putfield 21, 3) := by decide +kernel
theorem dX9_init_24 : decode cX9_init 24 = .ok (.aload_n 0, 1) := by decide +kernel
theorem dX9_init_25 : decode cX9_init 25 = .ok (.bipush (-9), 2) := by decide +kernel
theorem dX9_init_27 : decode cX9_init 27 = .ok (.putfield 24, 3) := by decide +kernel
theorem dX9_init_30 : decode cX9_init 30 = .ok (.aload_n 0, 1) := by decide +kernel
theorem dX9_init_31 : decode cX9_init 31 = .ok (.iconst 5, 1) := by decide +kernel
theorem dX9_init_32 : decode cX9_init 32 = .ok (.newarray .int, 2) := by decide +kernel
theorem dX9_init_34 : decode cX9_init 34 = .ok (.putfield 27, 3) := by decide +kernel
theorem dX9_init_37 : decode cX9_init 37 = .ok (.aload_n 0, 1) := by decide +kernel
theorem dX9_init_38 : decode cX9_init 38 = .ok (.getfield 27, 3) := by decide +kernel
theorem dX9_init_41 : decode cX9_init 41 = .ok (.bipush (-9), 2) := by decide +kernel
theorem dX9_init_43 : decode cX9_init 43 = .ok (.invokestatic 31, 3) := by decide +kernel
theorem dX9_init_46 : decode cX9_init 46 = .ok (.return_, 1) := by decide +kernel
theorem dX9_figure_0 : decode cX9_figure 0 = .ok (.iload_n 1, 1) := by decide +kernel
theorem dX9_figure_1 : decode cX9_figure 1 = .ok (.tableswitch 51 0 3 #[31, 36, 41, 46], 31) := by decide +kernel
theorem dX9_figure_32 : decode cX9_figure 32 = .ok (.aload_n 0, 1) := by decide +kernel
theorem dX9_figure_33 : decode cX9_figure 33 = .ok (.getfield 9, 3) := by decide +kernel
theorem dX9_figure_36 : decode cX9_figure 36 = .ok (.ireturn, 1) := by decide +kernel
theorem dX9_figure_37 : decode cX9_figure 37 = .ok (.aload_n 0, 1) := by decide +kernel
theorem dX9_figure_38 : decode cX9_figure 38 = .ok (.getfield 15, 3) := by decide +kernel
theorem dX9_figure_41 : decode cX9_figure 41 = .ok (.ireturn, 1) := by decide +kernel
theorem dX9_figure_42 : decode cX9_figure 42 = .ok (.aload_n 0, 1) := by decide +kernel
theorem dX9_figure_43 : decode cX9_figure 43 = .ok (.getfield 18, 3) := by decide +kernel
theorem dX9_figure_46 : decode cX9_figure 46 = .ok (.ireturn, 1) := by decide +kernel
theorem dX9_figure_47 : decode cX9_figure 47 = .ok (.aload_n 0, 1) := by decide +kernel
theorem dX9_figure_48 : decode cX9_figure 48 = .ok (.getfield 21, 3) := by decide +kernel
theorem dX9_figure_51 : decode cX9_figure 51 = .ok (.ireturn, 1) := by decide +kernel
theorem dX9_figure_52 : decode cX9_figure 52 = .ok (.aload_n 0, 1) := by decide +kernel
theorem dX9_figure_53 : decode cX9_figure 53 = .ok (.getfield 24, 3) := by decide +kernel
theorem dX9_figure_56 : decode cX9_figure 56 = .ok (.ireturn, 1) := by decide +kernel
theorem dX9_copiesReading_0 : decode cX9_copiesReading 0 = .ok (.iconst 0, 1) := by decide +kernel
theorem dX9_copiesReading_1 : decode cX9_copiesReading 1 = .ok (.istore_n 2, 1) := by decide +kernel
theorem dX9_copiesReading_2 : decode cX9_copiesReading 2 = .ok (.iconst 0, 1) := by decide +kernel
theorem dX9_copiesReading_3 : decode cX9_copiesReading 3 = .ok (.istore_n 3, 1) := by decide +kernel
theorem dX9_copiesReading_4 : decode cX9_copiesReading 4 = .ok (.iload_n 3, 1) := by decide +kernel
theorem dX9_copiesReading_5 : decode cX9_copiesReading 5 = .ok (.iconst 5, 1) := by decide +kernel
theorem dX9_copiesReading_6 : decode cX9_copiesReading 6 = .ok (.if_icmp .ge 22, 3) := by decide +kernel
theorem dX9_copiesReading_9 : decode cX9_copiesReading 9 = .ok (.aload_n 0, 1) := by decide +kernel
theorem dX9_copiesReading_10 : decode cX9_copiesReading 10 = .ok (.getfield 27, 3) := by decide +kernel
theorem dX9_copiesReading_13 : decode cX9_copiesReading 13 = .ok (.iload_n 3, 1) := by decide +kernel
theorem dX9_copiesReading_14 : decode cX9_copiesReading 14 = .ok (.iaload, 1) := by decide +kernel
theorem dX9_copiesReading_15 : decode cX9_copiesReading 15 = .ok (.iload_n 1, 1) := by decide +kernel
theorem dX9_copiesReading_16 : decode cX9_copiesReading 16 = .ok (.if_icmp .ne 6, 3) := by decide +kernel
theorem dX9_copiesReading_19 : decode cX9_copiesReading 19 = .ok (.iinc 2 1, 3) := by decide +kernel
theorem dX9_copiesReading_22 : decode cX9_copiesReading 22 = .ok (.iinc 3 1, 3) := by decide +kernel
theorem dX9_copiesReading_25 : decode cX9_copiesReading 25 = .ok (.goto (-21), 3) := by decide +kernel
theorem dX9_copiesReading_28 : decode cX9_copiesReading 28 = .ok (.iload_n 2, 1) := by decide +kernel
theorem dX9_copiesReading_29 : decode cX9_copiesReading 29 = .ok (.ireturn, 1) := by decide +kernel
theorem dX10_init_0 : decode cX10_init 0 = .ok (.aload_n 0, 1) := by decide +kernel
theorem dX10_init_1 : decode cX10_init 1 = .ok (.invokespecial 3, 3) := by decide +kernel
theorem dX10_init_4 : decode cX10_init 4 = .ok (.aload_n 0, 1) := by decide +kernel
theorem dX10_init_5 : decode cX10_init 5 = .ok (.bipush 40, 2) := by decide +kernel
theorem dX10_init_7 : decode cX10_init 7 = .ok (.newarray .byte, 2) := by decide +kernel
theorem dX10_init_9 : decode cX10_init 9 = .ok (.putfield 9, 3) := by decide +kernel
theorem dX10_init_12 : decode cX10_init 12 = .ok (.aload_n 0, 1) := by decide +kernel
theorem dX10_init_13 : decode cX10_init 13 = .ok (.iconst (-1), 1) := by decide +kernel
theorem dX10_init_14 : decode cX10_init 14 = .ok (.putfield 15, 3) := by decide +kernel
theorem dX10_init_17 : decode cX10_init 17 = .ok (.aload_n 0, 1) := by decide +kernel
theorem dX10_init_18 : decode cX10_init 18 = .ok (.iconst 0, 1) := by decide +kernel
theorem dX10_init_19 : decode cX10_init 19 = .ok (.putfield 19, 3) := by decide +kernel
theorem dX10_init_22 : decode cX10_init 22 = .ok (.aload_n 0, 1) := by decide +kernel
theorem dX10_init_23 : decode cX10_init 23 = .ok (.iconst 0, 1) := by decide +kernel
theorem dX10_init_24 : decode cX10_init 24 = .ok (.putfield 22, 3) := by decide +kernel
theorem dX10_init_27 : decode cX10_init 27 = .ok (.return_, 1) := by decide +kernel
theorem dX10_renew_0 : decode cX10_renew 0 = .ok (.aload_n 0, 1) := by decide +kernel
theorem dX10_renew_1 : decode cX10_renew 1 = .ok (.getfield 9, 3) := by decide +kernel
theorem dX10_renew_4 : decode cX10_renew 4 = .ok (.bipush 32, 2) := by decide +kernel
theorem dX10_renew_6 : decode cX10_renew 6 = .ok (.invokestatic 25, 3) := by decide +kernel
theorem dX10_renew_9 : decode cX10_renew 9 = .ok (.aload_n 0, 1) := by decide +kernel
theorem dX10_renew_10 : decode cX10_renew 10 = .ok (.iload_n 1, 1) := by decide +kernel
theorem dX10_renew_11 : decode cX10_renew 11 = .ok (.putfield 15, 3) := by decide +kernel
theorem dX10_renew_14 : decode cX10_renew 14 = .ok (.return_, 1) := by decide +kernel
theorem dX10_readRule_0 : decode cX10_readRule 0 = .ok (.aload_n 0, 1) := by decide +kernel
theorem dX10_readRule_1 : decode cX10_readRule 1 = .ok (.iconst 0, 1) := by decide +kernel
theorem dX10_readRule_2 : decode cX10_readRule 2 = .ok (.putfield 22, 3) := by decide +kernel
theorem dX10_readRule_5 : decode cX10_readRule 5 = .ok (.aload_n 0, 1) := by decide +kernel
theorem dX10_readRule_6 : decode cX10_readRule 6 = .ok (.iconst 0, 1) := by decide +kernel
theorem dX10_readRule_7 : decode cX10_readRule 7 = .ok (.putfield 19, 3) := by decide +kernel
theorem dX10_readRule_10 : decode cX10_readRule 10 = .ok (.aload_n 0, 1) := by decide +kernel
theorem dX10_readRule_11 : decode cX10_readRule 11 = .ok (.invokevirtual 31, 3) := by decide +kernel
theorem dX10_readRule_14 : decode cX10_readRule 14 = .ok (.aload_n 0, 1) := by decide +kernel
theorem dX10_readRule_15 : decode cX10_readRule 15 = .ok (.invokevirtual 34, 3) := by decide +kernel
theorem dX10_readRule_18 : decode cX10_readRule 18 = .ok (.istore_n 1, 1) := by decide +kernel
theorem dX10_readRule_19 : decode cX10_readRule 19 = .ok (.iload_n 1, 1) := by decide +kernel
theorem dX10_readRule_20 : decode cX10_readRule 20 = .ok (.bipush 48, 2) := by decide +kernel
theorem dX10_readRule_22 : decode cX10_readRule 22 = .ok (.if_icmp .eq 9, 3) := by decide +kernel
theorem dX10_readRule_25 : decode cX10_readRule 25 = .ok (.iload_n 1, 1) := by decide +kernel
theorem dX10_readRule_26 : decode cX10_readRule 26 = .ok (.bipush 49, 2) := by decide +kernel
theorem dX10_readRule_28 : decode cX10_readRule 28 = .ok (.if_icmp .ne 33, 3) := by decide +kernel
theorem dX10_readRule_31 : decode cX10_readRule 31 = .ok (.aload_n 0, 1) := by decide +kernel
theorem dX10_readRule_32 : decode cX10_readRule 32 = .ok (.iload_n 1, 1) := by decide +kernel
theorem dX10_readRule_33 : decode cX10_readRule 33 = .ok (.bipush 48, 2) := by decide +kernel
theorem dX10_readRule_35 : decode cX10_readRule 35 = .ok (.if_icmp .ne 9, 3) := by decide +kernel
theorem dX10_readRule_38 : decode cX10_readRule 38 = .ok (.sipush 243, 3) := by decide +kernel
theorem dX10_readRule_41 : decode cX10_readRule 41 = .ok (.goto 4, 3) := by decide +kernel
theorem dX10_readRule_44 : decode cX10_readRule 44 = .ok (.iconst 0, 1) := by decide +kernel
theorem dX10_readRule_45 : decode cX10_readRule 45 = .ok (.putfield 19, 3) := by decide +kernel
theorem dX10_readRule_48 : decode cX10_readRule 48 = .ok (.aload_n 0, 1) := by decide +kernel
theorem dX10_readRule_49 : decode cX10_readRule 49 = .ok (.dup, 1) := by decide +kernel
theorem dX10_readRule_50 : decode cX10_readRule 50 = .ok (.getfield 22, 3) := by decide +kernel
theorem dX10_readRule_53 : decode cX10_readRule 53 = .ok (.iconst 1, 1) := by decide +kernel
theorem dX10_readRule_54 : decode cX10_readRule 54 = .ok (.iadd, 1) := by decide +kernel
theorem dX10_readRule_55 : decode cX10_readRule 55 = .ok (.putfield 22, 3) := by decide +kernel
theorem dX10_readRule_58 : decode cX10_readRule 58 = .ok (.goto 15, 3) := by decide +kernel
theorem dX10_readRule_61 : decode cX10_readRule 61 = .ok (.aload_n 0, 1) := by decide +kernel
theorem dX10_readRule_62 : decode cX10_readRule 62 = .ok (.invokevirtual 38, 3) := by decide +kernel
theorem dX10_readRule_65 : decode cX10_readRule 65 = .ok (.ifCond .ne 8, 3) := by decide +kernel
theorem dX10_readRule_68 : decode cX10_readRule 68 = .ok (.aload_n 0, 1) := by decide +kernel
theorem dX10_readRule_69 : decode cX10_readRule 69 = .ok (.getfield 22, 3) := by decide +kernel
theorem dX10_readRule_72 : decode cX10_readRule 72 = .ok (.ireturn, 1) := by decide +kernel
theorem dX10_readRule_73 : decode cX10_readRule 73 = .ok (.aload_n 0, 1) := by decide +kernel
theorem dX10_readRule_74 : decode cX10_readRule 74 = .ok (.invokevirtual 31, 3) := by decide +kernel
theorem dX10_readRule_77 : decode cX10_readRule 77 = .ok (.aload_n 0, 1) := by decide +kernel
theorem dX10_readRule_78 : decode cX10_readRule 78 = .ok (.getfield 22, 3) := by decide +kernel
theorem dX10_readRule_81 : decode cX10_readRule 81 = .ok (.aload_n 0, 1) := by decide +kernel
theorem dX10_readRule_82 : decode cX10_readRule 82 = .ok (.getfield 15, 3) := by decide +kernel
theorem dX10_readRule_85 : decode cX10_readRule 85 = .ok (.if_icmp .ge 10, 3) := by decide +kernel
theorem dX10_readRule_88 : decode cX10_readRule 88 = .ok (.aload_n 0, 1) := by decide +kernel
theorem dX10_readRule_89 : decode cX10_readRule 89 = .ok (.getfield 22, 3) := by decide +kernel
theorem dX10_readRule_92 : decode cX10_readRule 92 = .ok (.goto 5, 3) := by decide +kernel
theorem dX10_readRule_95 : decode cX10_readRule 95 = .ok (.bipush (-9), 2) := by decide +kernel
theorem dX10_readRule_97 : decode cX10_readRule 97 = .ok (.ireturn, 1) := by decide +kernel
theorem dX10_readLetters_0 : decode cX10_readLetters 0 = .ok (.iconst (-1), 1) := by decide +kernel
theorem dX10_readLetters_1 : decode cX10_readLetters 1 = .ok (.istore_n 1, 1) := by decide +kernel
theorem dX10_readLetters_2 : decode cX10_readLetters 2 = .ok (.iconst 1, 1) := by decide +kernel
theorem dX10_readLetters_3 : decode cX10_readLetters 3 = .ok (.istore_n 2, 1) := by decide +kernel
theorem dX10_readLetters_4 : decode cX10_readLetters 4 = .ok (.aload_n 0, 1) := by decide +kernel
theorem dX10_readLetters_5 : decode cX10_readLetters 5 = .ok (.invokevirtual 34, 3) := by decide +kernel
theorem dX10_readLetters_8 : decode cX10_readLetters 8 = .ok (.bipush 33, 2) := by decide +kernel
theorem dX10_readLetters_10 : decode cX10_readLetters 10 = .ok (.if_icmp .ne 15, 3) := by decide +kernel
theorem dX10_readLetters_13 : decode cX10_readLetters 13 = .ok (.iconst 2, 1) := by decide +kernel
theorem dX10_readLetters_14 : decode cX10_readLetters 14 = .ok (.istore_n 2, 1) := by decide +kernel
theorem dX10_readLetters_15 : decode cX10_readLetters 15 = .ok (.aload_n 0, 1) := by decide +kernel
theorem dX10_readLetters_16 : decode cX10_readLetters 16 = .ok (.dup, 1) := by decide +kernel
theorem dX10_readLetters_17 : decode cX10_readLetters 17 = .ok (.getfield 22, 3) := by decide +kernel
theorem dX10_readLetters_20 : decode cX10_readLetters 20 = .ok (.iconst 1, 1) := by decide +kernel
theorem dX10_readLetters_21 : decode cX10_readLetters 21 = .ok (.iadd, 1) := by decide +kernel
theorem dX10_readLetters_22 : decode cX10_readLetters 22 = .ok (.putfield 22, 3) := by decide +kernel
theorem dX10_readLetters_25 : decode cX10_readLetters 25 = .ok (.aload_n 0, 1) := by decide +kernel
theorem dX10_readLetters_26 : decode cX10_readLetters 26 = .ok (.invokevirtual 34, 3) := by decide +kernel
theorem dX10_readLetters_29 : decode cX10_readLetters 29 = .ok (.bipush 97, 2) := by decide +kernel
theorem dX10_readLetters_31 : decode cX10_readLetters 31 = .ok (.isub, 1) := by decide +kernel
theorem dX10_readLetters_32 : decode cX10_readLetters 32 = .ok (.istore_n 3, 1) := by decide +kernel
theorem dX10_readLetters_33 : decode cX10_readLetters 33 = .ok (.iload_n 3, 1) := by decide +kernel
theorem dX10_readLetters_34 : decode cX10_readLetters 34 = .ok (.iload_n 1, 1) := by decide +kernel
theorem dX10_readLetters_35 : decode cX10_readLetters 35 = .ok (.if_icmp .le 8, 3) := by decide +kernel
theorem dX10_readLetters_38 : decode cX10_readLetters 38 = .ok (.iload_n 3, 1) := by decide +kernel
theorem dX10_readLetters_39 : decode cX10_readLetters 39 = .ok (.iconst 5, 1) := by decide +kernel
theorem dX10_readLetters_40 : decode cX10_readLetters 40 = .ok (.if_icmp .lt 5, 3) := by decide +kernel
theorem dX10_readLetters_43 : decode cX10_readLetters 43 = .ok (.iconst 0, 1) := by decide +kernel
theorem dX10_readLetters_44 : decode cX10_readLetters 44 = .ok (.ireturn, 1) := by decide +kernel
theorem dX10_readLetters_45 : decode cX10_readLetters 45 = .ok (.aload_n 0, 1) := by decide +kernel
theorem dX10_readLetters_46 : decode cX10_readLetters 46 = .ok (.dup, 1) := by decide +kernel
theorem dX10_readLetters_47 : decode cX10_readLetters 47 = .ok (.getfield 19, 3) := by decide +kernel
theorem dX10_readLetters_50 : decode cX10_readLetters 50 = .ok (.iload_n 2, 1) := by decide +kernel
theorem dX10_readLetters_51 : decode cX10_readLetters 51 = .ok (.getstatic 42, 3) := by decide +kernel
theorem dX10_readLetters_54 : decode cX10_readLetters 54 = .ok (.iload_n 3, 1) := by decide +kernel
theorem dX10_readLetters_55 : decode cX10_readLetters 55 = .ok (.iaload, 1) := by decide +kernel
theorem dX10_readLetters_56 : decode cX10_readLetters 56 = .ok (.imul, 1) := by decide +kernel
theorem dX10_readLetters_57 : decode cX10_readLetters 57 = .ok (.iadd, 1) := by decide +kernel
theorem dX10_readLetters_58 : decode cX10_readLetters 58 = .ok (.putfield 19, 3) := by decide +kernel
theorem dX10_readLetters_61 : decode cX10_readLetters 61 = .ok (.iload_n 3, 1) := by decide +kernel
theorem dX10_readLetters_62 : decode cX10_readLetters 62 = .ok (.istore_n 1, 1) := by decide +kernel
theorem dX10_readLetters_63 : decode cX10_readLetters 63 = .ok (.aload_n 0, 1) := by decide +kernel
theorem dX10_readLetters_64 : decode cX10_readLetters 64 = .ok (.dup, 1) := by decide +kernel
theorem dX10_readLetters_65 : decode cX10_readLetters 65 = .ok (.getfield 22, 3) := by decide +kernel
theorem dX10_readLetters_68 : decode cX10_readLetters 68 = .ok (.iconst 1, 1) := by decide +kernel
theorem dX10_readLetters_69 : decode cX10_readLetters 69 = .ok (.iadd, 1) := by decide +kernel
theorem dX10_readLetters_70 : decode cX10_readLetters 70 = .ok (.putfield 22, 3) := by decide +kernel
theorem dX10_readLetters_73 : decode cX10_readLetters 73 = .ok (.aload_n 0, 1) := by decide +kernel
theorem dX10_readLetters_74 : decode cX10_readLetters 74 = .ok (.getfield 22, 3) := by decide +kernel
theorem dX10_readLetters_77 : decode cX10_readLetters 77 = .ok (.aload_n 0, 1) := by decide +kernel
theorem dX10_readLetters_78 : decode cX10_readLetters 78 = .ok (.getfield 15, 3) := by decide +kernel
theorem dX10_readLetters_81 : decode cX10_readLetters 81 = .ok (.if_icmp .ge 12, 3) := by decide +kernel
theorem dX10_readLetters_84 : decode cX10_readLetters 84 = .ok (.aload_n 0, 1) := by decide +kernel
theorem dX10_readLetters_85 : decode cX10_readLetters 85 = .ok (.invokevirtual 34, 3) := by decide +kernel
theorem dX10_readLetters_88 : decode cX10_readLetters 88 = .ok (.bipush 32, 2) := by decide +kernel
theorem dX10_readLetters_90 : decode cX10_readLetters 90 = .ok (.if_icmp .ne (-88), 3) := by decide +kernel
theorem dX10_readLetters_93 : decode cX10_readLetters 93 = .ok (.iconst 1, 1) := by decide +kernel
theorem dX10_readLetters_94 : decode cX10_readLetters 94 = .ok (.ireturn, 1) := by decide +kernel
theorem dX10_skipBlanks_0 : decode cX10_skipBlanks 0 = .ok (.aload_n 0, 1) := by decide +kernel
theorem dX10_skipBlanks_1 : decode cX10_skipBlanks 1 = .ok (.getfield 22, 3) := by decide +kernel
theorem dX10_skipBlanks_4 : decode cX10_skipBlanks 4 = .ok (.aload_n 0, 1) := by decide +kernel
theorem dX10_skipBlanks_5 : decode cX10_skipBlanks 5 = .ok (.getfield 15, 3) := by decide +kernel
theorem dX10_skipBlanks_8 : decode cX10_skipBlanks 8 = .ok (.if_icmp .ge 30, 3) := by decide +kernel
theorem dX10_skipBlanks_11 : decode cX10_skipBlanks 11 = .ok (.aload_n 0, 1) := by decide +kernel
theorem dX10_skipBlanks_12 : decode cX10_skipBlanks 12 = .ok (.getfield 9, 3) := by decide +kernel
theorem dX10_skipBlanks_15 : decode cX10_skipBlanks 15 = .ok (.aload_n 0, 1) := by decide +kernel
theorem dX10_skipBlanks_16 : decode cX10_skipBlanks 16 = .ok (.getfield 22, 3) := by decide +kernel
theorem dX10_skipBlanks_19 : decode cX10_skipBlanks 19 = .ok (.baload, 1) := by decide +kernel
theorem dX10_skipBlanks_20 : decode cX10_skipBlanks 20 = .ok (.bipush 32, 2) := by decide +kernel
theorem dX10_skipBlanks_22 : decode cX10_skipBlanks 22 = .ok (.if_icmp .ne 16, 3) := by decide +kernel
theorem dX10_skipBlanks_25 : decode cX10_skipBlanks 25 = .ok (.aload_n 0, 1) := by decide +kernel
theorem dX10_skipBlanks_26 : decode cX10_skipBlanks 26 = .ok (.dup, 1) := by decide +kernel
theorem dX10_skipBlanks_27 : decode cX10_skipBlanks 27 = .ok (.getfield 22, 3) := by decide +kernel
theorem dX10_skipBlanks_30 : decode cX10_skipBlanks 30 = .ok (.iconst 1, 1) := by decide +kernel
theorem dX10_skipBlanks_31 : decode cX10_skipBlanks 31 = .ok (.iadd, 1) := by decide +kernel
theorem dX10_skipBlanks_32 : decode cX10_skipBlanks 32 = .ok (.putfield 22, 3) := by decide +kernel
theorem dX10_skipBlanks_35 : decode cX10_skipBlanks 35 = .ok (.goto (-35), 3) := by decide +kernel
theorem dX10_skipBlanks_38 : decode cX10_skipBlanks 38 = .ok (.return_, 1) := by decide +kernel
theorem dX10_signHere_0 : decode cX10_signHere 0 = .ok (.aload_n 0, 1) := by decide +kernel
theorem dX10_signHere_1 : decode cX10_signHere 1 = .ok (.getfield 22, 3) := by decide +kernel
theorem dX10_signHere_4 : decode cX10_signHere 4 = .ok (.aload_n 0, 1) := by decide +kernel
theorem dX10_signHere_5 : decode cX10_signHere 5 = .ok (.getfield 15, 3) := by decide +kernel
theorem dX10_signHere_8 : decode cX10_signHere 8 = .ok (.if_icmp .ge 15, 3) := by decide +kernel
theorem dX10_signHere_11 : decode cX10_signHere 11 = .ok (.aload_n 0, 1) := by decide +kernel
theorem dX10_signHere_12 : decode cX10_signHere 12 = .ok (.getfield 9, 3) := by decide +kernel
theorem dX10_signHere_15 : decode cX10_signHere 15 = .ok (.aload_n 0, 1) := by decide +kernel
theorem dX10_signHere_16 : decode cX10_signHere 16 = .ok (.getfield 22, 3) := by decide +kernel
theorem dX10_signHere_19 : decode cX10_signHere 19 = .ok (.baload, 1) := by decide +kernel
theorem dX10_signHere_20 : decode cX10_signHere 20 = .ok (.goto 4, 3) := by decide +kernel
theorem dX10_signHere_23 : decode cX10_signHere 23 = .ok (.iconst 0, 1) := by decide +kernel
theorem dX10_signHere_24 : decode cX10_signHere 24 = .ok (.ireturn, 1) := by decide +kernel
theorem dX10_digestFrom_0 : decode cX10_digestFrom 0 = .ok (.ldc2_w 46, 3) := by decide +kernel
theorem dX10_digestFrom_3 : decode cX10_digestFrom 3 = .ok (.lload_n 1, 1) := by decide +kernel
theorem dX10_digestFrom_4 : decode cX10_digestFrom 4 = .ok (.lmul, 1) := by decide +kernel
theorem dX10_digestFrom_5 : decode cX10_digestFrom 5 = .ok (.aload_n 0, 1) := by decide +kernel
theorem dX10_digestFrom_6 : decode cX10_digestFrom 6 = .ok (.getfield 15, 3) := by decide +kernel
theorem dX10_digestFrom_9 : decode cX10_digestFrom 9 = .ok (.i2l, 1) := by decide +kernel
theorem dX10_digestFrom_10 : decode cX10_digestFrom 10 = .ok (.ladd, 1) := by decide +kernel
theorem dX10_digestFrom_11 : decode cX10_digestFrom 11 = .ok (.lstore_n 3, 1) := by decide +kernel
theorem dX10_digestFrom_12 : decode cX10_digestFrom 12 = .ok (.iconst 0, 1) := by decide +kernel
theorem dX10_digestFrom_13 : decode cX10_digestFrom 13 = .ok (.istore 5, 2) := by decide +kernel
theorem dX10_digestFrom_15 : decode cX10_digestFrom 15 = .ok (.iload 5, 2) := by decide +kernel
theorem dX10_digestFrom_17 : decode cX10_digestFrom 17 = .ok (.aload_n 0, 1) := by decide +kernel
theorem dX10_digestFrom_18 : decode cX10_digestFrom 18 = .ok (.getfield 15, 3) := by decide +kernel
theorem dX10_digestFrom_21 : decode cX10_digestFrom 21 = .ok (.if_icmp .ge 24, 3) := by decide +kernel
theorem dX10_digestFrom_24 : decode cX10_digestFrom 24 = .ok (.ldc2_w 46, 3) := by decide +kernel
theorem dX10_digestFrom_27 : decode cX10_digestFrom 27 = .ok (.lload_n 3, 1) := by decide +kernel
theorem dX10_digestFrom_28 : decode cX10_digestFrom 28 = .ok (.lmul, 1) := by decide +kernel
theorem dX10_digestFrom_29 : decode cX10_digestFrom 29 = .ok (.aload_n 0, 1) := by decide +kernel
theorem dX10_digestFrom_30 : decode cX10_digestFrom 30 = .ok (.getfield 9, 3) := by decide +kernel
theorem dX10_digestFrom_33 : decode cX10_digestFrom 33 = .ok (.iload 5, 2) := by decide +kernel
theorem dX10_digestFrom_35 : decode cX10_digestFrom 35 = .ok (.baload, 1) := by decide +kernel
theorem dX10_digestFrom_36 : decode cX10_digestFrom 36 = .ok (.i2l, 1) := by decide +kernel
theorem dX10_digestFrom_37 : decode cX10_digestFrom 37 = .ok (.ladd, 1) := by decide +kernel
theorem dX10_digestFrom_38 : decode cX10_digestFrom 38 = .ok (.lstore_n 3, 1) := by decide +kernel
theorem dX10_digestFrom_39 : decode cX10_digestFrom 39 = .ok (.iinc 5 1, 3) := by decide +kernel
theorem dX10_digestFrom_42 : decode cX10_digestFrom 42 = .ok (.goto (-27), 3) := by decide +kernel
theorem dX10_digestFrom_45 : decode cX10_digestFrom 45 = .ok (.lload_n 3, 1) := by decide +kernel
theorem dX10_digestFrom_46 : decode cX10_digestFrom 46 = .ok (.lreturn, 1) := by decide +kernel
theorem dX11_init_0 : decode cX11_init 0 = .ok (.aload_n 0, 1) := by decide +kernel
theorem dX11_init_1 : decode cX11_init 1 = .ok (.invokespecial 3, 3) := by decide +kernel
theorem dX11_init_4 : decode cX11_init 4 = .ok (.aload_n 0, 1) := by decide +kernel
theorem dX11_init_5 : decode cX11_init 5 = .ok (.bipush 6, 2) := by decide +kernel
theorem dX11_init_7 : decode cX11_init 7 = .ok (.anewarray 9, 3) := by decide +kernel
theorem dX11_init_10 : decode cX11_init 10 = .ok (.putfield 11, 3) := by decide +kernel
theorem dX11_init_13 : decode cX11_init 13 = .ok (.aload_n 0, 1) := by decide +kernel
theorem dX11_init_14 : decode cX11_init 14 = .ok (.iconst 4, 1) := by decide +kernel
theorem dX11_init_15 : decode cX11_init 15 = .ok (.anewarray 15, 3) := by decide +kernel
theorem dX11_init_18 : decode cX11_init 18 = .ok (.putfield 17, 3) := by decide +kernel
theorem dX11_init_21 : decode cX11_init 21 = .ok (.aload_n 0, 1) := by decide +kernel
theorem dX11_init_22 : decode cX11_init 22 = .ok (.new 21, 3) := by decide +kernel
theorem dX11_init_25 : decode cX11_init 25 = .ok (.dup, 1) := by decide +kernel
theorem dX11_init_26 : decode cX11_init 26 = .ok (.invokespecial 23, 3) := by decide +kernel
theorem dX11_init_29 : decode cX11_init 29 = .ok (.putfield 24, 3) := by decide +kernel
theorem dX11_init_32 : decode cX11_init 32 = .ok (.aload_n 0, 1) := by decide +kernel
theorem dX11_init_33 : decode cX11_init 33 = .ok (.new 28, 3) := by decide +kernel
theorem dX11_init_36 : decode cX11_init 36 = .ok (.dup, 1) := by decide +kernel
theorem dX11_init_37 : decode cX11_init 37 = .ok (.aload_n 0, 1) := by decide +kernel
theorem dX11_init_38 : decode cX11_init 38 = .ok (.getfield 24, 3) := by decide +kernel
theorem dX11_init_41 : decode cX11_init 41 = .ok (.invokespecial 30, 3) := by decide +kernel
theorem dX11_init_44 : decode cX11_init 44 = .ok (.putfield 33, 3) := by decide +kernel
theorem dX11_init_47 : decode cX11_init 47 = .ok (.aload_n 0, 1) := by decide +kernel
theorem dX11_init_48 : decode cX11_init 48 = .ok (.new 37, 3) := by decide +kernel
theorem dX11_init_51 : decode cX11_init 51 = .ok (.dup, 1) := by decide +kernel
theorem dX11_init_52 : decode cX11_init 52 = .ok (.aload_n 0, 1) := by decide +kernel
theorem dX11_init_53 : decode cX11_init 53 = .ok (.getfield 24, 3) := by decide +kernel
theorem dX11_init_56 : decode cX11_init 56 = .ok (.invokespecial 39, 3) := by decide +kernel
theorem dX11_init_59 : decode cX11_init 59 = .ok (.putfield 40, 3) := by decide +kernel
theorem dX11_init_62 : decode cX11_init 62 = .ok (.aload_n 0, 1) := by decide +kernel
theorem dX11_init_63 : decode cX11_init 63 = .ok (.bipush 6, 2) := by decide +kernel
theorem dX11_init_65 : decode cX11_init 65 = .ok (.newarray .int, 2) := by decide +kernel
theorem dX11_init_67 : decode cX11_init 67 = .ok (.putfield 44, 3) := by decide +kernel
theorem dX11_init_70 : decode cX11_init 70 = .ok (.aload_n 0, 1) := by decide +kernel
theorem dX11_init_71 : decode cX11_init 71 = .ok (.iconst 0, 1) := by decide +kernel
theorem dX11_init_72 : decode cX11_init 72 = .ok (.putfield 48, 3) := by decide +kernel
theorem dX11_init_75 : decode cX11_init 75 = .ok (.aload_n 0, 1) := by decide +kernel
theorem dX11_init_76 : decode cX11_init 76 = .ok (.iconst 0, 1) := by decide +kernel
theorem dX11_init_77 : decode cX11_init 77 = .ok (.putfield 52, 3) := by decide +kernel
theorem dX11_init_80 : decode cX11_init 80 = .ok (.aload_n 0, 1) := by decide +kernel
theorem dX11_init_81 : decode cX11_init 81 = .ok (.lconst 0, 1) := by decide +kernel
theorem dX11_init_82 : decode cX11_init 82 = .ok (.putfield 55, 3) := by decide +kernel
theorem dX11_init_85 : decode cX11_init 85 = .ok (.aload_n 0, 1) := by decide +kernel
theorem dX11_init_86 : decode cX11_init 86 = .ok (.lconst 1, 1) := by decide +kernel
theorem dX11_init_87 : decode cX11_init 87 = .ok (.putfield 59, 3) := by decide +kernel
theorem dX11_init_90 : decode cX11_init 90 = .ok (.iconst 0, 1) := by decide +kernel
theorem dX11_init_91 : decode cX11_init 91 = .ok (.istore_n 1, 1) := by decide +kernel
theorem dX11_init_92 : decode cX11_init 92 = .ok (.iload_n 1, 1) := by decide +kernel
theorem dX11_init_93 : decode cX11_init 93 = .ok (.bipush 6, 2) := by decide +kernel
theorem dX11_init_95 : decode cX11_init 95 = .ok (.if_icmp .ge 22, 3) := by decide +kernel
theorem dX11_init_98 : decode cX11_init 98 = .ok (.aload_n 0, 1) := by decide +kernel
theorem dX11_init_99 : decode cX11_init 99 = .ok (.getfield 11, 3) := by decide +kernel
theorem dX11_init_102 : decode cX11_init 102 = .ok (.iload_n 1, 1) := by decide +kernel
theorem dX11_init_103 : decode cX11_init 103 = .ok (.new 9, 3) := by decide +kernel
theorem dX11_init_106 : decode cX11_init 106 = .ok (.dup, 1) := by decide +kernel
theorem dX11_init_107 : decode cX11_init 107 = .ok (.invokespecial 62, 3) := by decide +kernel
theorem dX11_init_110 : decode cX11_init 110 = .ok (.aastore, 1) := by decide +kernel
theorem dX11_init_111 : decode cX11_init 111 = .ok (.iinc 1 1, 3) := by decide +kernel
theorem dX11_init_114 : decode cX11_init 114 = .ok (.goto (-22), 3) := by decide +kernel
theorem dX11_init_117 : decode cX11_init 117 = .ok (.iconst 0, 1) := by decide +kernel
theorem dX11_init_118 : decode cX11_init 118 = .ok (.istore_n 1, 1) := by decide +kernel
theorem dX11_init_119 : decode cX11_init 119 = .ok (.iload_n 1, 1) := by decide +kernel
theorem dX11_init_120 : decode cX11_init 120 = .ok (.iconst 4, 1) := by decide +kernel
theorem dX11_init_121 : decode cX11_init 121 = .ok (.if_icmp .ge 22, 3) := by decide +kernel
theorem dX11_init_124 : decode cX11_init 124 = .ok (.aload_n 0, 1) := by decide +kernel
theorem dX11_init_125 : decode cX11_init 125 = .ok (.getfield 17, 3) := by decide +kernel
theorem dX11_init_128 : decode cX11_init 128 = .ok (.iload_n 1, 1) := by decide +kernel
theorem dX11_init_129 : decode cX11_init 129 = .ok (.new 15, 3) := by decide +kernel
theorem dX11_init_132 : decode cX11_init 132 = .ok (.dup, 1) := by decide +kernel
theorem dX11_init_133 : decode cX11_init 133 = .ok (.invokespecial 63, 3) := by decide +kernel
theorem dX11_init_136 : decode cX11_init 136 = .ok (.aastore, 1) := by decide +kernel
theorem dX11_init_137 : decode cX11_init 137 = .ok (.iinc 1 1, 3) := by decide +kernel
theorem dX11_init_140 : decode cX11_init 140 = .ok (.goto (-21), 3) := by decide +kernel
theorem dX11_init_143 : decode cX11_init 143 = .ok (.return_, 1) := by decide +kernel
theorem dX11_row_0 : decode cX11_row 0 = .ok (.iload_n 1, 1) := by decide +kernel
theorem dX11_row_1 : decode cX11_row 1 = .ok (.bipush 6, 2) := by decide +kernel
theorem dX11_row_3 : decode cX11_row 3 = .ok (.invokestatic 64, 3) := by decide +kernel
theorem dX11_row_6 : decode cX11_row 6 = .ok (.ifCond .eq 9, 3) := by decide +kernel
theorem dX11_row_9 : decode cX11_row 9 = .ok (.iload_n 2, 1) := by decide +kernel
theorem dX11_row_10 : decode cX11_row 10 = .ok (.bipush 40, 2) := by decide +kernel
theorem dX11_row_12 : decode cX11_row 12 = .ok (.if_icmp .le 5, 3) := by decide +kernel
theorem dX11_row_15 : decode cX11_row 15 = .ok (.iconst (-1), 1) := by decide +kernel
theorem dX11_row_16 : decode cX11_row 16 = .ok (.ireturn, 1) := by decide +kernel
theorem dX11_row_17 : decode cX11_row 17 = .ok (.iload_n 2, 1) := by decide +kernel
theorem dX11_row_18 : decode cX11_row 18 = .ok (.ifCond .ge 9, 3) := by decide +kernel
theorem dX11_row_21 : decode cX11_row 21 = .ok (.aload_n 0, 1) := by decide +kernel
theorem dX11_row_22 : decode cX11_row 22 = .ok (.iconst 5, 1) := by decide +kernel
theorem dX11_row_23 : decode cX11_row 23 = .ok (.invokevirtual 68, 3) := by decide +kernel
theorem dX11_row_26 : decode cX11_row 26 = .ok (.ireturn, 1) := by decide +kernel
theorem dX11_row_27 : decode cX11_row 27 = .ok (.aload_n 0, 1) := by decide +kernel
theorem dX11_row_28 : decode cX11_row 28 = .ok (.getfield 11, 3) := by decide +kernel
theorem dX11_row_31 : decode cX11_row 31 = .ok (.iload_n 1, 1) := by decide +kernel
theorem dX11_row_32 : decode cX11_row 32 = .ok (.aaload, 1) := by decide +kernel
theorem dX11_row_33 : decode cX11_row 33 = .ok (.iload_n 2, 1) := by decide +kernel
theorem dX11_row_34 : decode cX11_row 34 = .ok (.invokevirtual 72, 3) := by decide +kernel
theorem dX11_row_37 : decode cX11_row 37 = .ok (.iload_n 2, 1) := by decide +kernel
theorem dX11_row_38 : decode cX11_row 38 = .ok (.ireturn, 1) := by decide +kernel
theorem dX11_lay_0 : decode cX11_lay 0 = .ok (.iload_n 1, 1) := by decide +kernel
theorem dX11_lay_1 : decode cX11_lay 1 = .ok (.bipush 6, 2) := by decide +kernel
theorem dX11_lay_3 : decode cX11_lay 3 = .ok (.invokestatic 64, 3) := by decide +kernel
theorem dX11_lay_6 : decode cX11_lay 6 = .ok (.ifCond .ne 5, 3) := by decide +kernel
theorem dX11_lay_9 : decode cX11_lay 9 = .ok (.iconst (-1), 1) := by decide +kernel
theorem dX11_lay_10 : decode cX11_lay 10 = .ok (.ireturn, 1) := by decide +kernel
theorem dX11_lay_11 : decode cX11_lay 11 = .ok (.aload_n 0, 1) := by decide +kernel
theorem dX11_lay_12 : decode cX11_lay 12 = .ok (.getfield 11, 3) := by decide +kernel
theorem dX11_lay_15 : decode cX11_lay 15 = .ok (.iload_n 1, 1) := by decide +kernel
theorem dX11_lay_16 : decode cX11_lay 16 = .ok (.aaload, 1) := by decide +kernel
theorem dX11_lay_17 : decode cX11_lay 17 = .ok (.astore 4, 2) := by decide +kernel
theorem dX11_lay_19 : decode cX11_lay 19 = .ok (.aload 4, 2) := by decide +kernel
theorem dX11_lay_21 : decode cX11_lay 21 = .ok (.getfield 76, 3) := by decide +kernel
theorem dX11_lay_24 : decode cX11_lay 24 = .ok (.iconst (-1), 1) := by decide +kernel
theorem dX11_lay_25 : decode cX11_lay 25 = .ok (.if_icmp .ne 9, 3) := by decide +kernel
theorem dX11_lay_28 : decode cX11_lay 28 = .ok (.aload_n 0, 1) := by decide +kernel
theorem dX11_lay_29 : decode cX11_lay 29 = .ok (.iconst 1, 1) := by decide +kernel
theorem dX11_lay_30 : decode cX11_lay 30 = .ok (.invokevirtual 68, 3) := by decide +kernel
theorem dX11_lay_33 : decode cX11_lay 33 = .ok (.ireturn, 1) := by decide +kernel
theorem dX11_lay_34 : decode cX11_lay 34 = .ok (.iload_n 2, 1) := by decide +kernel
theorem dX11_lay_35 : decode cX11_lay 35 = .ok (.aload 4, 2) := by decide +kernel
theorem dX11_lay_37 : decode cX11_lay 37 = .ok (.getfield 76, 3) := by decide +kernel
theorem dX11_lay_40 : decode cX11_lay 40 = .ok (.invokestatic 64, 3) := by decide +kernel
theorem dX11_lay_43 : decode cX11_lay 43 = .ok (.ifCond .ne 9, 3) := by decide +kernel
theorem dX11_lay_46 : decode cX11_lay 46 = .ok (.aload_n 0, 1) := by decide +kernel
theorem dX11_lay_47 : decode cX11_lay 47 = .ok (.iconst 2, 1) := by decide +kernel
theorem dX11_lay_48 : decode cX11_lay 48 = .ok (.invokevirtual 68, 3) := by decide +kernel
theorem dX11_lay_51 : decode cX11_lay 51 = .ok (.ireturn, 1) := by decide +kernel
theorem dX11_lay_52 : decode cX11_lay 52 = .ok (.aload 4, 2) := by decide +kernel
theorem dX11_lay_54 : decode cX11_lay 54 = .ok (.getfield 79, 3) := by decide +kernel
theorem dX11_lay_57 : decode cX11_lay 57 = .ok (.iload_n 2, 1) := by decide +kernel
theorem dX11_lay_58 : decode cX11_lay 58 = .ok (.iaload, 1) := by decide +kernel
theorem dX11_lay_59 : decode cX11_lay 59 = .ok (.istore 5, 2) := by decide +kernel
theorem dX11_lay_61 : decode cX11_lay 61 = .ok (.aload 4, 2) := by decide +kernel
theorem dX11_lay_63 : decode cX11_lay 63 = .ok (.getfield 79, 3) := by decide +kernel
theorem dX11_lay_66 : decode cX11_lay 66 = .ok (.iload_n 2, 1) := by decide +kernel
theorem dX11_lay_67 : decode cX11_lay 67 = .ok (.iload_n 3, 1) := by decide +kernel
theorem dX11_lay_68 : decode cX11_lay 68 = .ok (.iastore, 1) := by decide +kernel
theorem dX11_lay_69 : decode cX11_lay 69 = .ok (.aload_n 0, 1) := by decide +kernel
theorem dX11_lay_70 : decode cX11_lay 70 = .ok (.iload 5, 2) := by decide +kernel
theorem dX11_lay_72 : decode cX11_lay 72 = .ok (.iconst 1, 1) := by decide +kernel
theorem dX11_lay_73 : decode cX11_lay 73 = .ok (.invokevirtual 82, 3) := by decide +kernel
theorem dX11_lay_76 : decode cX11_lay 76 = .ok (.ireturn, 1) := by decide +kernel
theorem dX11_tear_0 : decode cX11_tear 0 = .ok (.iload_n 1, 1) := by decide +kernel
theorem dX11_tear_1 : decode cX11_tear 1 = .ok (.bipush 6, 2) := by decide +kernel
theorem dX11_tear_3 : decode cX11_tear 3 = .ok (.invokestatic 64, 3) := by decide +kernel
theorem dX11_tear_6 : decode cX11_tear 6 = .ok (.ifCond .ne 5, 3) := by decide +kernel
theorem dX11_tear_9 : decode cX11_tear 9 = .ok (.iconst (-1), 1) := by decide +kernel
theorem dX11_tear_10 : decode cX11_tear 10 = .ok (.ireturn, 1) := by decide +kernel
theorem dX11_tear_11 : decode cX11_tear 11 = .ok (.aload_n 0, 1) := by decide +kernel
theorem dX11_tear_12 : decode cX11_tear 12 = .ok (.getfield 11, 3) := by decide +kernel
theorem dX11_tear_15 : decode cX11_tear 15 = .ok (.iload_n 1, 1) := by decide +kernel
theorem dX11_tear_16 : decode cX11_tear 16 = .ok (.aaload, 1) := by decide +kernel
theorem dX11_tear_17 : decode cX11_tear 17 = .ok (.getfield 76, 3) := by decide +kernel
theorem dX11_tear_20 : decode cX11_tear 20 = .ok (.iconst (-1), 1) := by decide +kernel
theorem dX11_tear_21 : decode cX11_tear 21 = .ok (.if_icmp .ne 9, 3) := by decide +kernel
theorem dX11_tear_24 : decode cX11_tear 24 = .ok (.aload_n 0, 1) := by decide +kernel
theorem dX11_tear_25 : decode cX11_tear 25 = .ok (.iconst 1, 1) := by decide +kernel
theorem dX11_tear_26 : decode cX11_tear 26 = .ok (.invokevirtual 68, 3) := by decide +kernel
theorem dX11_tear_29 : decode cX11_tear 29 = .ok (.ireturn, 1) := by decide +kernel
theorem dX11_tear_30 : decode cX11_tear 30 = .ok (.aload_n 0, 1) := by decide +kernel
theorem dX11_tear_31 : decode cX11_tear 31 = .ok (.getfield 11, 3) := by decide +kernel
theorem dX11_tear_34 : decode cX11_tear 34 = .ok (.iload_n 1, 1) := by decide +kernel
theorem dX11_tear_35 : decode cX11_tear 35 = .ok (.aaload, 1) := by decide +kernel
theorem dX11_tear_36 : decode cX11_tear 36 = .ok (.iconst (-1), 1) := by decide +kernel
theorem dX11_tear_37 : decode cX11_tear 37 = .ok (.putfield 76, 3) := by decide +kernel
theorem dX11_tear_40 : decode cX11_tear 40 = .ok (.iconst 1, 1) := by decide +kernel
theorem dX11_tear_41 : decode cX11_tear 41 = .ok (.ireturn, 1) := by decide +kernel
theorem dX11_copy_0 : decode cX11_copy 0 = .ok (.iload_n 1, 1) := by decide +kernel
theorem dX11_copy_1 : decode cX11_copy 1 = .ok (.bipush 6, 2) := by decide +kernel
theorem dX11_copy_3 : decode cX11_copy 3 = .ok (.invokestatic 64, 3) := by decide +kernel
theorem dX11_copy_6 : decode cX11_copy 6 = .ok (.ifCond .eq 12, 3) := by decide +kernel
theorem dX11_copy_9 : decode cX11_copy 9 = .ok (.iload_n 3, 1) := by decide +kernel
theorem dX11_copy_10 : decode cX11_copy 10 = .ok (.bipush 6, 2) := by decide +kernel
theorem dX11_copy_12 : decode cX11_copy 12 = .ok (.invokestatic 64, 3) := by decide +kernel
theorem dX11_copy_15 : decode cX11_copy 15 = .ok (.ifCond .ne 5, 3) := by decide +kernel
theorem dX11_copy_18 : decode cX11_copy 18 = .ok (.iconst (-1), 1) := by decide +kernel
theorem dX11_copy_19 : decode cX11_copy 19 = .ok (.ireturn, 1) := by decide +kernel
theorem dX11_copy_20 : decode cX11_copy 20 = .ok (.iload 5, 2) := by decide +kernel
theorem dX11_copy_22 : decode cX11_copy 22 = .ok (.ifCond .ge 9, 3) := by decide +kernel
theorem dX11_copy_25 : decode cX11_copy 25 = .ok (.aload_n 0, 1) := by decide +kernel
theorem dX11_copy_26 : decode cX11_copy 26 = .ok (.iconst 5, 1) := by decide +kernel
theorem dX11_copy_27 : decode cX11_copy 27 = .ok (.invokevirtual 68, 3) := by decide +kernel
theorem dX11_copy_30 : decode cX11_copy 30 = .ok (.ireturn, 1) := by decide +kernel
theorem dX11_copy_31 : decode cX11_copy 31 = .ok (.aload_n 0, 1) := by decide +kernel
theorem dX11_copy_32 : decode cX11_copy 32 = .ok (.getfield 11, 3) := by decide +kernel
theorem dX11_copy_35 : decode cX11_copy 35 = .ok (.iload_n 1, 1) := by decide +kernel
theorem dX11_copy_36 : decode cX11_copy 36 = .ok (.aaload, 1) := by decide +kernel
theorem dX11_copy_37 : decode cX11_copy 37 = .ok (.astore 6, 2) := by decide +kernel
theorem dX11_copy_39 : decode cX11_copy 39 = .ok (.aload_n 0, 1) := by decide +kernel
theorem dX11_copy_40 : decode cX11_copy 40 = .ok (.getfield 11, 3) := by decide +kernel
theorem dX11_copy_43 : decode cX11_copy 43 = .ok (.iload_n 3, 1) := by decide +kernel
theorem dX11_copy_44 : decode cX11_copy 44 = .ok (.aaload, 1) := by decide +kernel
theorem dX11_copy_45 : decode cX11_copy 45 = .ok (.astore 7, 2) := by decide +kernel
theorem dX11_copy_47 : decode cX11_copy 47 = .ok (.aload 6, 2) := by decide +kernel
theorem dX11_copy_49 : decode cX11_copy 49 = .ok (.getfield 76, 3) := by decide +kernel
theorem dX11_copy_52 : decode cX11_copy 52 = .ok (.iconst (-1), 1) := by decide +kernel
theorem dX11_copy_53 : decode cX11_copy 53 = .ok (.if_icmp .eq 12, 3) := by decide +kernel
theorem dX11_copy_56 : decode cX11_copy 56 = .ok (.aload 7, 2) := by decide +kernel
theorem dX11_copy_58 : decode cX11_copy 58 = .ok (.getfield 76, 3) := by decide +kernel
theorem dX11_copy_61 : decode cX11_copy 61 = .ok (.iconst (-1), 1) := by decide +kernel
theorem dX11_copy_62 : decode cX11_copy 62 = .ok (.if_icmp .ne 9, 3) := by decide +kernel
theorem dX11_copy_65 : decode cX11_copy 65 = .ok (.aload_n 0, 1) := by decide +kernel
theorem dX11_copy_66 : decode cX11_copy 66 = .ok (.iconst 1, 1) := by decide +kernel
theorem dX11_copy_67 : decode cX11_copy 67 = .ok (.invokevirtual 68, 3) := by decide +kernel
theorem dX11_copy_70 : decode cX11_copy 70 = .ok (.ireturn, 1) := by decide +kernel
theorem dX11_copy_71 : decode cX11_copy 71 = .ok (.aload 6, 2) := by decide +kernel
theorem dX11_copy_73 : decode cX11_copy 73 = .ok (.iload_n 2, 1) := by decide +kernel
theorem dX11_copy_74 : decode cX11_copy 74 = .ok (.iload 5, 2) := by decide +kernel
theorem dX11_copy_76 : decode cX11_copy 76 = .ok (.invokevirtual 86, 3) := by decide +kernel
theorem dX11_copy_79 : decode cX11_copy 79 = .ok (.ifCond .eq 15, 3) := by decide +kernel
theorem dX11_copy_82 : decode cX11_copy 82 = .ok (.aload 7, 2) := by decide +kernel
theorem dX11_copy_84 : decode cX11_copy 84 = .ok (.iload 4, 2) := by decide +kernel
theorem dX11_copy_86 : decode cX11_copy 86 = .ok (.iload 5, 2) := by decide +kernel
theorem dX11_copy_88 : decode cX11_copy 88 = .ok (.invokevirtual 86, 3) := by decide +kernel
theorem dX11_copy_91 : decode cX11_copy 91 = .ok (.ifCond .ne 9, 3) := by decide +kernel
theorem dX11_copy_94 : decode cX11_copy 94 = .ok (.aload_n 0, 1) := by decide +kernel
theorem dX11_copy_95 : decode cX11_copy 95 = .ok (.iconst 2, 1) := by decide +kernel
theorem dX11_copy_96 : decode cX11_copy 96 = .ok (.invokevirtual 68, 3) := by decide +kernel
theorem dX11_copy_99 : decode cX11_copy 99 = .ok (.ireturn, 1) := by decide +kernel
theorem dX11_copy_100 : decode cX11_copy 100 = .ok (.aload 6, 2) := by decide +kernel
theorem dX11_copy_102 : decode cX11_copy 102 = .ok (.getfield 79, 3) := by decide +kernel
theorem dX11_copy_105 : decode cX11_copy 105 = .ok (.iload_n 2, 1) := by decide +kernel
theorem dX11_copy_106 : decode cX11_copy 106 = .ok (.aload 7, 2) := by decide +kernel
theorem dX11_copy_108 : decode cX11_copy 108 = .ok (.getfield 79, 3) := by decide +kernel
theorem dX11_copy_111 : decode cX11_copy 111 = .ok (.iload 4, 2) := by decide +kernel
theorem dX11_copy_113 : decode cX11_copy 113 = .ok (.iload 5, 2) := by decide +kernel
theorem dX11_copy_115 : decode cX11_copy 115 = .ok (.invokestatic 89, 3) := by decide +kernel
theorem dX11_copy_118 : decode cX11_copy 118 = .ok (.iconst 1, 1) := by decide +kernel
theorem dX11_copy_119 : decode cX11_copy 119 = .ok (.ireturn, 1) := by decide +kernel
theorem dX11_mean_0 : decode cX11_mean 0 = .ok (.iload_n 1, 1) := by decide +kernel
theorem dX11_mean_1 : decode cX11_mean 1 = .ok (.bipush 6, 2) := by decide +kernel
theorem dX11_mean_3 : decode cX11_mean 3 = .ok (.invokestatic 64, 3) := by decide +kernel
theorem dX11_mean_6 : decode cX11_mean 6 = .ok (.ifCond .ne 5, 3) := by decide +kernel
theorem dX11_mean_9 : decode cX11_mean 9 = .ok (.iconst (-1), 1) := by decide +kernel
theorem dX11_mean_10 : decode cX11_mean 10 = .ok (.ireturn, 1) := by decide +kernel
theorem dX11_mean_11 : decode cX11_mean 11 = .ok (.aload_n 0, 1) := by decide +kernel
theorem dX11_mean_12 : decode cX11_mean 12 = .ok (.getfield 11, 3) := by decide +kernel
theorem dX11_mean_15 : decode cX11_mean 15 = .ok (.iload_n 1, 1) := by decide +kernel
theorem dX11_mean_16 : decode cX11_mean 16 = .ok (.aaload, 1) := by decide +kernel
theorem dX11_mean_17 : decode cX11_mean 17 = .ok (.astore_n 2, 1) := by decide +kernel
theorem dX11_mean_18 : decode cX11_mean 18 = .ok (.aload_n 2, 1) := by decide +kernel
theorem dX11_mean_19 : decode cX11_mean 19 = .ok (.getfield 76, 3) := by decide +kernel
theorem dX11_mean_22 : decode cX11_mean 22 = .ok (.iconst (-1), 1) := by decide +kernel
theorem dX11_mean_23 : decode cX11_mean 23 = .ok (.if_icmp .ne 9, 3) := by decide +kernel
theorem dX11_mean_26 : decode cX11_mean 26 = .ok (.aload_n 0, 1) := by decide +kernel
theorem dX11_mean_27 : decode cX11_mean 27 = .ok (.iconst 1, 1) := by decide +kernel
theorem dX11_mean_28 : decode cX11_mean 28 = .ok (.invokevirtual 68, 3) := by decide +kernel
theorem dX11_mean_31 : decode cX11_mean 31 = .ok (.ireturn, 1) := by decide +kernel
theorem dX11_mean_32 : decode cX11_mean 32 = .ok (.aload_n 2, 1) := by decide +kernel
theorem dX11_mean_33 : decode cX11_mean 33 = .ok (.getfield 76, 3) := by decide +kernel
theorem dX11_mean_36 : decode cX11_mean 36 = .ok (.ifCond .ne 9, 3) := by decide +kernel
theorem dX11_mean_39 : decode cX11_mean 39 = .ok (.aload_n 0, 1) := by decide +kernel
theorem dX11_mean_40 : decode cX11_mean 40 = .ok (.iconst 4, 1) := by decide +kernel
theorem dX11_mean_41 : decode cX11_mean 41 = .ok (.invokevirtual 68, 3) := by decide +kernel
theorem dX11_mean_44 : decode cX11_mean 44 = .ok (.ireturn, 1) := by decide +kernel
theorem dX11_mean_45 : decode cX11_mean 45 = .ok (.aload_n 0, 1) := by decide +kernel
theorem dX11_mean_46 : decode cX11_mean 46 = .ok (.aload_n 2, 1) := by decide +kernel
theorem dX11_mean_47 : decode cX11_mean 47 = .ok (.invokevirtual 95, 3) := by decide +kernel
theorem dX11_mean_50 : decode cX11_mean 50 = .ok (.aload_n 2, 1) := by decide +kernel
theorem dX11_mean_51 : decode cX11_mean 51 = .ok (.getfield 76, 3) := by decide +kernel
theorem dX11_mean_54 : decode cX11_mean 54 = .ok (.i2l, 1) := by decide +kernel
theorem dX11_mean_55 : decode cX11_mean 55 = .ok (.ldiv, 1) := by decide +kernel
theorem dX11_mean_56 : decode cX11_mean 56 = .ok (.l2i, 1) := by decide +kernel
theorem dX11_mean_57 : decode cX11_mean 57 = .ok (.iconst 1, 1) := by decide +kernel
theorem dX11_mean_58 : decode cX11_mean 58 = .ok (.invokevirtual 82, 3) := by decide +kernel
theorem dX11_mean_61 : decode cX11_mean 61 = .ok (.ireturn, 1) := by decide +kernel
theorem dX11_text_0 : decode cX11_text 0 = .ok (.iload_n 1, 1) := by decide +kernel
theorem dX11_text_1 : decode cX11_text 1 = .ok (.iconst 4, 1) := by decide +kernel
theorem dX11_text_2 : decode cX11_text 2 = .ok (.invokestatic 64, 3) := by decide +kernel
theorem dX11_text_5 : decode cX11_text 5 = .ok (.ifCond .eq 9, 3) := by decide +kernel
theorem dX11_text_8 : decode cX11_text 8 = .ok (.iload_n 2, 1) := by decide +kernel
theorem dX11_text_9 : decode cX11_text 9 = .ok (.bipush 40, 2) := by decide +kernel
theorem dX11_text_11 : decode cX11_text 11 = .ok (.if_icmp .le 5, 3) := by decide +kernel
theorem dX11_text_14 : decode cX11_text 14 = .ok (.iconst (-1), 1) := by decide +kernel
theorem dX11_text_15 : decode cX11_text 15 = .ok (.ireturn, 1) := by decide +kernel
theorem dX11_text_16 : decode cX11_text 16 = .ok (.iload_n 2, 1) := by decide +kernel
theorem dX11_text_17 : decode cX11_text 17 = .ok (.ifCond .ge 9, 3) := by decide +kernel
theorem dX11_text_20 : decode cX11_text 20 = .ok (.aload_n 0, 1) := by decide +kernel
theorem dX11_text_21 : decode cX11_text 21 = .ok (.iconst 5, 1) := by decide +kernel
theorem dX11_text_22 : decode cX11_text 22 = .ok (.invokevirtual 68, 3) := by decide +kernel
theorem dX11_text_25 : decode cX11_text 25 = .ok (.ireturn, 1) := by decide +kernel
theorem dX11_text_26 : decode cX11_text 26 = .ok (.aload_n 0, 1) := by decide +kernel
theorem dX11_text_27 : decode cX11_text 27 = .ok (.getfield 17, 3) := by decide +kernel
theorem dX11_text_30 : decode cX11_text 30 = .ok (.iload_n 1, 1) := by decide +kernel
theorem dX11_text_31 : decode cX11_text 31 = .ok (.aaload, 1) := by decide +kernel
theorem dX11_text_32 : decode cX11_text 32 = .ok (.iload_n 2, 1) := by decide +kernel
theorem dX11_text_33 : decode cX11_text 33 = .ok (.invokevirtual 99, 3) := by decide +kernel
theorem dX11_text_36 : decode cX11_text 36 = .ok (.iload_n 2, 1) := by decide +kernel
theorem dX11_text_37 : decode cX11_text 37 = .ok (.ireturn, 1) := by decide +kernel
theorem dX11_put_0 : decode cX11_put 0 = .ok (.iload_n 1, 1) := by decide +kernel
theorem dX11_put_1 : decode cX11_put 1 = .ok (.iconst 4, 1) := by decide +kernel
theorem dX11_put_2 : decode cX11_put 2 = .ok (.invokestatic 64, 3) := by decide +kernel
theorem dX11_put_5 : decode cX11_put 5 = .ok (.ifCond .ne 5, 3) := by decide +kernel
theorem dX11_put_8 : decode cX11_put 8 = .ok (.iconst (-1), 1) := by decide +kernel
theorem dX11_put_9 : decode cX11_put 9 = .ok (.ireturn, 1) := by decide +kernel
theorem dX11_put_10 : decode cX11_put 10 = .ok (.aload_n 0, 1) := by decide +kernel
theorem dX11_put_11 : decode cX11_put 11 = .ok (.getfield 17, 3) := by decide +kernel
theorem dX11_put_14 : decode cX11_put 14 = .ok (.iload_n 1, 1) := by decide +kernel
theorem dX11_put_15 : decode cX11_put 15 = .ok (.aaload, 1) := by decide +kernel
theorem dX11_put_16 : decode cX11_put 16 = .ok (.astore 4, 2) := by decide +kernel
theorem dX11_put_18 : decode cX11_put 18 = .ok (.aload 4, 2) := by decide +kernel
theorem dX11_put_20 : decode cX11_put 20 = .ok (.getfield 100, 3) := by decide +kernel
theorem dX11_put_23 : decode cX11_put 23 = .ok (.iconst (-1), 1) := by decide +kernel
theorem dX11_put_24 : decode cX11_put 24 = .ok (.if_icmp .ne 9, 3) := by decide +kernel
theorem dX11_put_27 : decode cX11_put 27 = .ok (.aload_n 0, 1) := by decide +kernel
theorem dX11_put_28 : decode cX11_put 28 = .ok (.iconst 1, 1) := by decide +kernel
theorem dX11_put_29 : decode cX11_put 29 = .ok (.invokevirtual 68, 3) := by decide +kernel
theorem dX11_put_32 : decode cX11_put 32 = .ok (.ireturn, 1) := by decide +kernel
theorem dX11_put_33 : decode cX11_put 33 = .ok (.iload_n 2, 1) := by decide +kernel
theorem dX11_put_34 : decode cX11_put 34 = .ok (.aload 4, 2) := by decide +kernel
theorem dX11_put_36 : decode cX11_put 36 = .ok (.getfield 100, 3) := by decide +kernel
theorem dX11_put_39 : decode cX11_put 39 = .ok (.invokestatic 64, 3) := by decide +kernel
theorem dX11_put_42 : decode cX11_put 42 = .ok (.ifCond .ne 9, 3) := by decide +kernel
theorem dX11_put_45 : decode cX11_put 45 = .ok (.aload_n 0, 1) := by decide +kernel
theorem dX11_put_46 : decode cX11_put 46 = .ok (.iconst 2, 1) := by decide +kernel
theorem dX11_put_47 : decode cX11_put 47 = .ok (.invokevirtual 68, 3) := by decide +kernel
theorem dX11_put_50 : decode cX11_put 50 = .ok (.ireturn, 1) := by decide +kernel
theorem dX11_put_51 : decode cX11_put 51 = .ok (.aload 4, 2) := by decide +kernel
theorem dX11_put_53 : decode cX11_put 53 = .ok (.getfield 101, 3) := by decide +kernel
theorem dX11_put_56 : decode cX11_put 56 = .ok (.iload_n 2, 1) := by decide +kernel
theorem dX11_put_57 : decode cX11_put 57 = .ok (.baload, 1) := by decide +kernel
theorem dX11_put_58 : decode cX11_put 58 = .ok (.istore 5, 2) := by decide +kernel
theorem dX11_put_60 : decode cX11_put 60 = .ok (.aload 4, 2) := by decide +kernel
theorem dX11_put_62 : decode cX11_put 62 = .ok (.getfield 101, 3) := by decide +kernel
theorem dX11_put_65 : decode cX11_put 65 = .ok (.iload_n 2, 1) := by decide +kernel
theorem dX11_put_66 : decode cX11_put 66 = .ok (.iload_n 3, 1) := by decide +kernel
theorem dX11_put_67 : decode cX11_put 67 = .ok (.i2b, 1) := by decide +kernel
theorem dX11_put_68 : decode cX11_put 68 = .ok (.bastore, 1) := by decide +kernel
theorem dX11_put_69 : decode cX11_put 69 = .ok (.iload 5, 2) := by decide +kernel
theorem dX11_put_71 : decode cX11_put 71 = .ok (.sipush 1000, 3) := by decide +kernel
theorem dX11_put_74 : decode cX11_put 74 = .ok (.iadd, 1) := by decide +kernel
theorem dX11_put_75 : decode cX11_put 75 = .ok (.ireturn, 1) := by decide +kernel
theorem dX11_instance_0 : decode cX11_instance 0 = .ok (.iload_n 1, 1) := by decide +kernel
theorem dX11_instance_1 : decode cX11_instance 1 = .ok (.bipush 32, 2) := by decide +kernel
theorem dX11_instance_3 : decode cX11_instance 3 = .ok (.invokestatic 64, 3) := by decide +kernel
theorem dX11_instance_6 : decode cX11_instance 6 = .ok (.ifCond .ne 5, 3) := by decide +kernel
theorem dX11_instance_9 : decode cX11_instance 9 = .ok (.iconst (-1), 1) := by decide +kernel
theorem dX11_instance_10 : decode cX11_instance 10 = .ok (.ireturn, 1) := by decide +kernel
theorem dX11_instance_11 : decode cX11_instance 11 = .ok (.aload_n 0, 1) := by decide +kernel
theorem dX11_instance_12 : decode cX11_instance 12 = .ok (.getfield 24, 3) := by decide +kernel
theorem dX11_instance_15 : decode cX11_instance 15 = .ok (.getfield 105, 3) := by decide +kernel
theorem dX11_instance_18 : decode cX11_instance 18 = .ok (.bipush 12, 2) := by decide +kernel
theorem dX11_instance_20 : decode cX11_instance 20 = .ok (.if_icmp .ne 6, 3) := by decide +kernel
theorem dX11_instance_23 : decode cX11_instance 23 = .ok (.bipush (-2), 2) := by decide +kernel
theorem dX11_instance_25 : decode cX11_instance 25 = .ok (.ireturn, 1) := by decide +kernel
theorem dX11_instance_26 : decode cX11_instance 26 = .ok (.aload_n 0, 1) := by decide +kernel
theorem dX11_instance_27 : decode cX11_instance 27 = .ok (.getfield 24, 3) := by decide +kernel
theorem dX11_instance_30 : decode cX11_instance 30 = .ok (.iload_n 1, 1) := by decide +kernel
theorem dX11_instance_31 : decode cX11_instance 31 = .ok (.invokevirtual 108, 3) := by decide +kernel
theorem dX11_instance_34 : decode cX11_instance 34 = .ok (.ireturn, 1) := by decide +kernel
theorem dX11_master_0 : decode cX11_master 0 = .ok (.iload_n 1, 1) := by decide +kernel
theorem dX11_master_1 : decode cX11_master 1 = .ok (.sipush 1000, 3) := by decide +kernel
theorem dX11_master_4 : decode cX11_master 4 = .ok (.invokestatic 64, 3) := by decide +kernel
theorem dX11_master_7 : decode cX11_master 7 = .ok (.ifCond .eq 18, 3) := by decide +kernel
theorem dX11_master_10 : decode cX11_master 10 = .ok (.iload_n 2, 1) := by decide +kernel
theorem dX11_master_11 : decode cX11_master 11 = .ok (.sipush 1000, 3) := by decide +kernel
theorem dX11_master_14 : decode cX11_master 14 = .ok (.invokestatic 64, 3) := by decide +kernel
theorem dX11_master_17 : decode cX11_master 17 = .ok (.ifCond .eq 8, 3) := by decide +kernel
theorem dX11_master_20 : decode cX11_master 20 = .ok (.iload_n 2, 1) := by decide +kernel
theorem dX11_master_21 : decode cX11_master 21 = .ok (.iload_n 1, 1) := by decide +kernel
theorem dX11_master_22 : decode cX11_master 22 = .ok (.if_icmp .ge 5, 3) := by decide +kernel
theorem dX11_master_25 : decode cX11_master 25 = .ok (.iconst (-1), 1) := by decide +kernel
theorem dX11_master_26 : decode cX11_master 26 = .ok (.ireturn, 1) := by decide +kernel
theorem dX11_master_27 : decode cX11_master 27 = .ok (.iload_n 3, 1) := by decide +kernel
theorem dX11_master_28 : decode cX11_master 28 = .ok (.bipush (-9), 2) := by decide +kernel
theorem dX11_master_30 : decode cX11_master 30 = .ok (.if_icmp .eq 16, 3) := by decide +kernel
theorem dX11_master_33 : decode cX11_master 33 = .ok (.aload_n 0, 1) := by decide +kernel
theorem dX11_master_34 : decode cX11_master 34 = .ok (.getfield 24, 3) := by decide +kernel
theorem dX11_master_37 : decode cX11_master 37 = .ok (.iload_n 3, 1) := by decide +kernel
theorem dX11_master_38 : decode cX11_master 38 = .ok (.invokevirtual 111, 3) := by decide +kernel
theorem dX11_master_41 : decode cX11_master 41 = .ok (.ifCond .ne 5, 3) := by decide +kernel
theorem dX11_master_44 : decode cX11_master 44 = .ok (.iconst (-1), 1) := by decide +kernel
theorem dX11_master_45 : decode cX11_master 45 = .ok (.ireturn, 1) := by decide +kernel
theorem dX11_master_46 : decode cX11_master 46 = .ok (.aload_n 0, 1) := by decide +kernel
theorem dX11_master_47 : decode cX11_master 47 = .ok (.getfield 24, 3) := by decide +kernel
theorem dX11_master_50 : decode cX11_master 50 = .ok (.getfield 115, 3) := by decide +kernel
theorem dX11_master_53 : decode cX11_master 53 = .ok (.bipush 8, 2) := by decide +kernel
theorem dX11_master_55 : decode cX11_master 55 = .ok (.if_icmp .ne 6, 3) := by decide +kernel
theorem dX11_master_58 : decode cX11_master 58 = .ok (.bipush (-2), 2) := by decide +kernel
theorem dX11_master_60 : decode cX11_master 60 = .ok (.ireturn, 1) := by decide +kernel
theorem dX11_master_61 : decode cX11_master 61 = .ok (.aload_n 0, 1) := by decide +kernel
theorem dX11_master_62 : decode cX11_master 62 = .ok (.getfield 24, 3) := by decide +kernel
theorem dX11_master_65 : decode cX11_master 65 = .ok (.iload_n 1, 1) := by decide +kernel
theorem dX11_master_66 : decode cX11_master 66 = .ok (.iload_n 2, 1) := by decide +kernel
theorem dX11_master_67 : decode cX11_master 67 = .ok (.iload_n 3, 1) := by decide +kernel
theorem dX11_master_68 : decode cX11_master 68 = .ok (.invokevirtual 118, 3) := by decide +kernel
theorem dX11_master_71 : decode cX11_master 71 = .ok (.ireturn, 1) := by decide +kernel
theorem dX11_saying_0 : decode cX11_saying 0 = .ok (.aload_n 0, 1) := by decide +kernel
theorem dX11_saying_1 : decode cX11_saying 1 = .ok (.getfield 24, 3) := by decide +kernel
theorem dX11_saying_4 : decode cX11_saying 4 = .ok (.iload_n 1, 1) := by decide +kernel
theorem dX11_saying_5 : decode cX11_saying 5 = .ok (.iload_n 3, 1) := by decide +kernel
theorem dX11_saying_6 : decode cX11_saying 6 = .ok (.invokevirtual 122, 3) := by decide +kernel
theorem dX11_saying_9 : decode cX11_saying 9 = .ok (.ifCond .eq 14, 3) := by decide +kernel
theorem dX11_saying_12 : decode cX11_saying 12 = .ok (.aload_n 0, 1) := by decide +kernel
theorem dX11_saying_13 : decode cX11_saying 13 = .ok (.getfield 24, 3) := by decide +kernel
theorem dX11_saying_16 : decode cX11_saying 16 = .ok (.iload_n 2, 1) := by decide +kernel
theorem dX11_saying_17 : decode cX11_saying 17 = .ok (.invokevirtual 125, 3) := by decide +kernel
theorem dX11_saying_20 : decode cX11_saying 20 = .ok (.ifCond .ne 5, 3) := by decide +kernel
theorem dX11_saying_23 : decode cX11_saying 23 = .ok (.iconst (-1), 1) := by decide +kernel
theorem dX11_saying_24 : decode cX11_saying 24 = .ok (.ireturn, 1) := by decide +kernel
theorem dX11_saying_25 : decode cX11_saying 25 = .ok (.iload 4, 2) := by decide +kernel
theorem dX11_saying_27 : decode cX11_saying 27 = .ok (.iconst 2, 1) := by decide +kernel
theorem dX11_saying_28 : decode cX11_saying 28 = .ok (.invokestatic 64, 3) := by decide +kernel
theorem dX11_saying_31 : decode cX11_saying 31 = .ok (.ifCond .eq 19, 3) := by decide +kernel
theorem dX11_saying_34 : decode cX11_saying 34 = .ok (.iload 5, 2) := by decide +kernel
theorem dX11_saying_36 : decode cX11_saying 36 = .ok (.bipush (-9), 2) := by decide +kernel
theorem dX11_saying_38 : decode cX11_saying 38 = .ok (.if_icmp .eq 14, 3) := by decide +kernel
theorem dX11_saying_41 : decode cX11_saying 41 = .ok (.iload 5, 2) := by decide +kernel
theorem dX11_saying_43 : decode cX11_saying 43 = .ok (.iconst 5, 1) := by decide +kernel
theorem dX11_saying_44 : decode cX11_saying 44 = .ok (.invokestatic 64, 3) := by decide +kernel
theorem dX11_saying_47 : decode cX11_saying 47 = .ok (.ifCond .ne 5, 3) := by decide +kernel
theorem dX11_saying_50 : decode cX11_saying 50 = .ok (.iconst (-1), 1) := by decide +kernel
theorem dX11_saying_51 : decode cX11_saying 51 = .ok (.ireturn, 1) := by decide +kernel
theorem dX11_saying_52 : decode cX11_saying 52 = .ok (.aload_n 0, 1) := by decide +kernel
theorem dX11_saying_53 : decode cX11_saying 53 = .ok (.getfield 24, 3) := by decide +kernel
theorem dX11_saying_56 : decode cX11_saying 56 = .ok (.iload_n 1, 1) := by decide +kernel
theorem dX11_saying_57 : decode cX11_saying 57 = .ok (.iconst 1, 1) := by decide +kernel
theorem dX11_saying_58 : decode cX11_saying 58 = .ok (.invokevirtual 128, 3) := by decide +kernel
theorem dX11_saying_61 : decode cX11_saying 61 = .ok (.ifCond .ne 6, 3) := by decide +kernel
theorem dX11_saying_64 : decode cX11_saying 64 = .ok (.bipush (-2), 2) := by decide +kernel
theorem dX11_saying_66 : decode cX11_saying 66 = .ok (.ireturn, 1) := by decide +kernel
theorem dX11_saying_67 : decode cX11_saying 67 = .ok (.aload_n 0, 1) := by decide +kernel
theorem dX11_saying_68 : decode cX11_saying 68 = .ok (.getfield 24, 3) := by decide +kernel
theorem dX11_saying_71 : decode cX11_saying 71 = .ok (.iload_n 1, 1) := by decide +kernel
theorem dX11_saying_72 : decode cX11_saying 72 = .ok (.iload_n 2, 1) := by decide +kernel
theorem dX11_saying_73 : decode cX11_saying 73 = .ok (.iload_n 3, 1) := by decide +kernel
theorem dX11_saying_74 : decode cX11_saying 74 = .ok (.iload 4, 2) := by decide +kernel
theorem dX11_saying_76 : decode cX11_saying 76 = .ok (.iload 5, 2) := by decide +kernel
theorem dX11_saying_78 : decode cX11_saying 78 = .ok (.invokevirtual 131, 3) := by decide +kernel
theorem dX11_saying_81 : decode cX11_saying 81 = .ok (.ireturn, 1) := by decide +kernel
theorem dX11_sayings_0 : decode cX11_sayings 0 = .ok (.aload_n 0, 1) := by decide +kernel
theorem dX11_sayings_1 : decode cX11_sayings 1 = .ok (.getfield 24, 3) := by decide +kernel
theorem dX11_sayings_4 : decode cX11_sayings 4 = .ok (.iload_n 1, 1) := by decide +kernel
theorem dX11_sayings_5 : decode cX11_sayings 5 = .ok (.iload_n 2, 1) := by decide +kernel
theorem dX11_sayings_6 : decode cX11_sayings 6 = .ok (.invokevirtual 122, 3) := by decide +kernel
theorem dX11_sayings_9 : decode cX11_sayings 9 = .ok (.ifCond .eq 12, 3) := by decide +kernel
theorem dX11_sayings_12 : decode cX11_sayings 12 = .ok (.iload_n 3, 1) := by decide +kernel
theorem dX11_sayings_13 : decode cX11_sayings 13 = .ok (.bipush 6, 2) := by decide +kernel
theorem dX11_sayings_15 : decode cX11_sayings 15 = .ok (.invokestatic 64, 3) := by decide +kernel
theorem dX11_sayings_18 : decode cX11_sayings 18 = .ok (.ifCond .ne 5, 3) := by decide +kernel
theorem dX11_sayings_21 : decode cX11_sayings 21 = .ok (.iconst (-1), 1) := by decide +kernel
theorem dX11_sayings_22 : decode cX11_sayings 22 = .ok (.ireturn, 1) := by decide +kernel
theorem dX11_sayings_23 : decode cX11_sayings 23 = .ok (.aload_n 0, 1) := by decide +kernel
theorem dX11_sayings_24 : decode cX11_sayings 24 = .ok (.getfield 11, 3) := by decide +kernel
theorem dX11_sayings_27 : decode cX11_sayings 27 = .ok (.iload_n 3, 1) := by decide +kernel
theorem dX11_sayings_28 : decode cX11_sayings 28 = .ok (.aaload, 1) := by decide +kernel
theorem dX11_sayings_29 : decode cX11_sayings 29 = .ok (.astore 4, 2) := by decide +kernel
theorem dX11_sayings_31 : decode cX11_sayings 31 = .ok (.aload 4, 2) := by decide +kernel
theorem dX11_sayings_33 : decode cX11_sayings 33 = .ok (.getfield 76, 3) := by decide +kernel
theorem dX11_sayings_36 : decode cX11_sayings 36 = .ok (.iconst (-1), 1) := by decide +kernel
theorem dX11_sayings_37 : decode cX11_sayings 37 = .ok (.if_icmp .ne 9, 3) := by decide +kernel
theorem dX11_sayings_40 : decode cX11_sayings 40 = .ok (.aload_n 0, 1) := by decide +kernel
theorem dX11_sayings_41 : decode cX11_sayings 41 = .ok (.iconst 1, 1) := by decide +kernel
theorem dX11_sayings_42 : decode cX11_sayings 42 = .ok (.invokevirtual 68, 3) := by decide +kernel
theorem dX11_sayings_45 : decode cX11_sayings 45 = .ok (.ireturn, 1) := by decide +kernel
theorem dX11_sayings_46 : decode cX11_sayings 46 = .ok (.iconst 0, 1) := by decide +kernel
theorem dX11_sayings_47 : decode cX11_sayings 47 = .ok (.istore 5, 2) := by decide +kernel
theorem dX11_sayings_49 : decode cX11_sayings 49 = .ok (.iload 5, 2) := by decide +kernel
theorem dX11_sayings_51 : decode cX11_sayings 51 = .ok (.aload 4, 2) := by decide +kernel
theorem dX11_sayings_53 : decode cX11_sayings 53 = .ok (.getfield 76, 3) := by decide +kernel
theorem dX11_sayings_56 : decode cX11_sayings 56 = .ok (.if_icmp .ge 48, 3) := by decide +kernel
theorem dX11_sayings_59 : decode cX11_sayings 59 = .ok (.aload 4, 2) := by decide +kernel
theorem dX11_sayings_61 : decode cX11_sayings 61 = .ok (.getfield 79, 3) := by decide +kernel
theorem dX11_sayings_64 : decode cX11_sayings 64 = .ok (.iload 5, 2) := by decide +kernel
theorem dX11_sayings_66 : decode cX11_sayings 66 = .ok (.iaload, 1) := by decide +kernel
theorem dX11_sayings_67 : decode cX11_sayings 67 = .ok (.istore 6, 2) := by decide +kernel
theorem dX11_sayings_69 : decode cX11_sayings 69 = .ok (.iload 6, 2) := by decide +kernel
theorem dX11_sayings_71 : decode cX11_sayings 71 = .ok (.iload 6, 2) := by decide +kernel
theorem dX11_sayings_73 : decode cX11_sayings 73 = .ok (.i2b, 1) := by decide +kernel
theorem dX11_sayings_74 : decode cX11_sayings 74 = .ok (.if_icmp .ne 18, 3) := by decide +kernel
theorem dX11_sayings_77 : decode cX11_sayings 77 = .ok (.aload_n 0, 1) := by decide +kernel
theorem dX11_sayings_78 : decode cX11_sayings 78 = .ok (.getfield 24, 3) := by decide +kernel
theorem dX11_sayings_81 : decode cX11_sayings 81 = .ok (.iload 6, 2) := by decide +kernel
theorem dX11_sayings_83 : decode cX11_sayings 83 = .ok (.bipush 15, 2) := by decide +kernel
theorem dX11_sayings_85 : decode cX11_sayings 85 = .ok (.iand, 1) := by decide +kernel
theorem dX11_sayings_86 : decode cX11_sayings 86 = .ok (.invokevirtual 125, 3) := by decide +kernel
theorem dX11_sayings_89 : decode cX11_sayings 89 = .ok (.ifCond .ne 9, 3) := by decide +kernel
theorem dX11_sayings_92 : decode cX11_sayings 92 = .ok (.aload_n 0, 1) := by decide +kernel
theorem dX11_sayings_93 : decode cX11_sayings 93 = .ok (.iconst 3, 1) := by decide +kernel
theorem dX11_sayings_94 : decode cX11_sayings 94 = .ok (.invokevirtual 68, 3) := by decide +kernel
theorem dX11_sayings_97 : decode cX11_sayings 97 = .ok (.ireturn, 1) := by decide +kernel
theorem dX11_sayings_98 : decode cX11_sayings 98 = .ok (.iinc 5 1, 3) := by decide +kernel
theorem dX11_sayings_101 : decode cX11_sayings 101 = .ok (.goto (-52), 3) := by decide +kernel
theorem dX11_sayings_104 : decode cX11_sayings 104 = .ok (.aload_n 0, 1) := by decide +kernel
theorem dX11_sayings_105 : decode cX11_sayings 105 = .ok (.getfield 24, 3) := by decide +kernel
theorem dX11_sayings_108 : decode cX11_sayings 108 = .ok (.iload_n 1, 1) := by decide +kernel
theorem dX11_sayings_109 : decode cX11_sayings 109 = .ok (.aload 4, 2) := by decide +kernel
theorem dX11_sayings_111 : decode cX11_sayings 111 = .ok (.getfield 76, 3) := by decide +kernel
theorem dX11_sayings_114 : decode cX11_sayings 114 = .ok (.invokevirtual 128, 3) := by decide +kernel
theorem dX11_sayings_117 : decode cX11_sayings 117 = .ok (.ifCond .ne 6, 3) := by decide +kernel
theorem dX11_sayings_120 : decode cX11_sayings 120 = .ok (.bipush (-2), 2) := by decide +kernel
theorem dX11_sayings_122 : decode cX11_sayings 122 = .ok (.ireturn, 1) := by decide +kernel
theorem dX11_sayings_123 : decode cX11_sayings 123 = .ok (.iconst 0, 1) := by decide +kernel
theorem dX11_sayings_124 : decode cX11_sayings 124 = .ok (.istore 5, 2) := by decide +kernel
theorem dX11_sayings_126 : decode cX11_sayings 126 = .ok (.iload 5, 2) := by decide +kernel
theorem dX11_sayings_128 : decode cX11_sayings 128 = .ok (.aload 4, 2) := by decide +kernel
theorem dX11_sayings_130 : decode cX11_sayings 130 = .ok (.getfield 76, 3) := by decide +kernel
theorem dX11_sayings_133 : decode cX11_sayings 133 = .ok (.if_icmp .ge 42, 3) := by decide +kernel
theorem dX11_sayings_136 : decode cX11_sayings 136 = .ok (.aload 4, 2) := by decide +kernel
theorem dX11_sayings_138 : decode cX11_sayings 138 = .ok (.getfield 79, 3) := by decide +kernel
theorem dX11_sayings_141 : decode cX11_sayings 141 = .ok (.iload 5, 2) := by decide +kernel
theorem dX11_sayings_143 : decode cX11_sayings 143 = .ok (.iaload, 1) := by decide +kernel
theorem dX11_sayings_144 : decode cX11_sayings 144 = .ok (.istore 6, 2) := by decide +kernel
theorem dX11_sayings_146 : decode cX11_sayings 146 = .ok (.aload_n 0, 1) := by decide +kernel
theorem dX11_sayings_147 : decode cX11_sayings 147 = .ok (.getfield 24, 3) := by decide +kernel
theorem dX11_sayings_150 : decode cX11_sayings 150 = .ok (.iload_n 1, 1) := by decide +kernel
theorem dX11_sayings_151 : decode cX11_sayings 151 = .ok (.iload 6, 2) := by decide +kernel
theorem dX11_sayings_153 : decode cX11_sayings 153 = .ok (.bipush 15, 2) := by decide +kernel
theorem dX11_sayings_155 : decode cX11_sayings 155 = .ok (.iand, 1) := by decide +kernel
theorem dX11_sayings_156 : decode cX11_sayings 156 = .ok (.iload_n 2, 1) := by decide +kernel
theorem dX11_sayings_157 : decode cX11_sayings 157 = .ok (.iload 6, 2) := by decide +kernel
theorem dX11_sayings_159 : decode cX11_sayings 159 = .ok (.iconst 4, 1) := by decide +kernel
theorem dX11_sayings_160 : decode cX11_sayings 160 = .ok (.ishr, 1) := by decide +kernel
theorem dX11_sayings_161 : decode cX11_sayings 161 = .ok (.iconst 1, 1) := by decide +kernel
theorem dX11_sayings_162 : decode cX11_sayings 162 = .ok (.iand, 1) := by decide +kernel
theorem dX11_sayings_163 : decode cX11_sayings 163 = .ok (.bipush (-9), 2) := by decide +kernel
theorem dX11_sayings_165 : decode cX11_sayings 165 = .ok (.invokevirtual 131, 3) := by decide +kernel
theorem dX11_sayings_168 : decode cX11_sayings 168 = .ok (.pop, 1) := by decide +kernel
theorem dX11_sayings_169 : decode cX11_sayings 169 = .ok (.iinc 5 1, 3) := by decide +kernel
theorem dX11_sayings_172 : decode cX11_sayings 172 = .ok (.goto (-46), 3) := by decide +kernel
theorem dX11_sayings_175 : decode cX11_sayings 175 = .ok (.aload 4, 2) := by decide +kernel
theorem dX11_sayings_177 : decode cX11_sayings 177 = .ok (.getfield 76, 3) := by decide +kernel
theorem dX11_sayings_180 : decode cX11_sayings 180 = .ok (.ireturn, 1) := by decide +kernel
theorem dX11_told_0 : decode cX11_told 0 = .ok (.aload_n 0, 1) := by decide +kernel
theorem dX11_told_1 : decode cX11_told 1 = .ok (.getfield 24, 3) := by decide +kernel
theorem dX11_told_4 : decode cX11_told 4 = .ok (.iload_n 1, 1) := by decide +kernel
theorem dX11_told_5 : decode cX11_told 5 = .ok (.invokevirtual 135, 3) := by decide +kernel
theorem dX11_told_8 : decode cX11_told 8 = .ok (.ifCond .eq 11, 3) := by decide +kernel
theorem dX11_told_11 : decode cX11_told 11 = .ok (.iload_n 2, 1) := by decide +kernel
theorem dX11_told_12 : decode cX11_told 12 = .ok (.iconst 5, 1) := by decide +kernel
theorem dX11_told_13 : decode cX11_told 13 = .ok (.invokestatic 64, 3) := by decide +kernel
theorem dX11_told_16 : decode cX11_told 16 = .ok (.ifCond .ne 5, 3) := by decide +kernel
theorem dX11_told_19 : decode cX11_told 19 = .ok (.iconst (-1), 1) := by decide +kernel
theorem dX11_told_20 : decode cX11_told 20 = .ok (.ireturn, 1) := by decide +kernel
theorem dX11_told_21 : decode cX11_told 21 = .ok (.aload_n 0, 1) := by decide +kernel
theorem dX11_told_22 : decode cX11_told 22 = .ok (.aload_n 0, 1) := by decide +kernel
theorem dX11_told_23 : decode cX11_told 23 = .ok (.getfield 24, 3) := by decide +kernel
theorem dX11_told_26 : decode cX11_told 26 = .ok (.getfield 138, 3) := by decide +kernel
theorem dX11_told_29 : decode cX11_told 29 = .ok (.iload_n 1, 1) := by decide +kernel
theorem dX11_told_30 : decode cX11_told 30 = .ok (.aaload, 1) := by decide +kernel
theorem dX11_told_31 : decode cX11_told 31 = .ok (.iload_n 2, 1) := by decide +kernel
theorem dX11_told_32 : decode cX11_told 32 = .ok (.invokevirtual 142, 3) := by decide +kernel
theorem dX11_told_35 : decode cX11_told 35 = .ok (.iconst 1, 1) := by decide +kernel
theorem dX11_told_36 : decode cX11_told 36 = .ok (.invokevirtual 82, 3) := by decide +kernel
theorem dX11_told_39 : decode cX11_told 39 = .ok (.ireturn, 1) := by decide +kernel
theorem dX11_traits_0 : decode cX11_traits 0 = .ok (.aload_n 0, 1) := by decide +kernel
theorem dX11_traits_1 : decode cX11_traits 1 = .ok (.getfield 24, 3) := by decide +kernel
theorem dX11_traits_4 : decode cX11_traits 4 = .ok (.iload_n 1, 1) := by decide +kernel
theorem dX11_traits_5 : decode cX11_traits 5 = .ok (.invokevirtual 125, 3) := by decide +kernel
theorem dX11_traits_8 : decode cX11_traits 8 = .ok (.ifCond .eq 15, 3) := by decide +kernel
theorem dX11_traits_11 : decode cX11_traits 11 = .ok (.aload_n 0, 1) := by decide +kernel
theorem dX11_traits_12 : decode cX11_traits 12 = .ok (.getfield 24, 3) := by decide +kernel
theorem dX11_traits_15 : decode cX11_traits 15 = .ok (.getfield 147, 3) := by decide +kernel
theorem dX11_traits_18 : decode cX11_traits 18 = .ok (.iload_n 1, 1) := by decide +kernel
theorem dX11_traits_19 : decode cX11_traits 19 = .ok (.iaload, 1) := by decide +kernel
theorem dX11_traits_20 : decode cX11_traits 20 = .ok (.goto 4, 3) := by decide +kernel
theorem dX11_traits_23 : decode cX11_traits 23 = .ok (.iconst (-1), 1) := by decide +kernel
theorem dX11_traits_24 : decode cX11_traits 24 = .ok (.ireturn, 1) := by decide +kernel
theorem dX11_life_0 : decode cX11_life 0 = .ok (.aload_n 0, 1) := by decide +kernel
theorem dX11_life_1 : decode cX11_life 1 = .ok (.getfield 24, 3) := by decide +kernel
theorem dX11_life_4 : decode cX11_life 4 = .ok (.iload_n 1, 1) := by decide +kernel
theorem dX11_life_5 : decode cX11_life 5 = .ok (.invokevirtual 111, 3) := by decide +kernel
theorem dX11_life_8 : decode cX11_life 8 = .ok (.ifCond .eq 11, 3) := by decide +kernel
theorem dX11_life_11 : decode cX11_life 11 = .ok (.iload_n 2, 1) := by decide +kernel
theorem dX11_life_12 : decode cX11_life 12 = .ok (.iconst 5, 1) := by decide +kernel
theorem dX11_life_13 : decode cX11_life 13 = .ok (.invokestatic 64, 3) := by decide +kernel
theorem dX11_life_16 : decode cX11_life 16 = .ok (.ifCond .ne 5, 3) := by decide +kernel
theorem dX11_life_19 : decode cX11_life 19 = .ok (.iconst (-1), 1) := by decide +kernel
theorem dX11_life_20 : decode cX11_life 20 = .ok (.ireturn, 1) := by decide +kernel
theorem dX11_life_21 : decode cX11_life 21 = .ok (.aload_n 0, 1) := by decide +kernel
theorem dX11_life_22 : decode cX11_life 22 = .ok (.aload_n 0, 1) := by decide +kernel
theorem dX11_life_23 : decode cX11_life 23 = .ok (.getfield 24, 3) := by decide +kernel
theorem dX11_life_26 : decode cX11_life 26 = .ok (.iload_n 1, 1) := by decide +kernel
theorem dX11_life_27 : decode cX11_life 27 = .ok (.iload_n 2, 1) := by decide +kernel
theorem dX11_life_28 : decode cX11_life 28 = .ok (.invokevirtual 150, 3) := by decide +kernel
theorem dX11_life_31 : decode cX11_life 31 = .ok (.iconst 1, 1) := by decide +kernel
theorem dX11_life_32 : decode cX11_life 32 = .ok (.invokevirtual 82, 3) := by decide +kernel
theorem dX11_life_35 : decode cX11_life 35 = .ok (.ireturn, 1) := by decide +kernel
theorem dX11_fault_0 : decode cX11_fault 0 = .ok (.iload_n 1, 1) := by decide +kernel
theorem dX11_fault_1 : decode cX11_fault 1 = .ok (.iconst 4, 1) := by decide +kernel
theorem dX11_fault_2 : decode cX11_fault 2 = .ok (.invokestatic 64, 3) := by decide +kernel
theorem dX11_fault_5 : decode cX11_fault 5 = .ok (.ifCond .ne 5, 3) := by decide +kernel
theorem dX11_fault_8 : decode cX11_fault 8 = .ok (.iconst (-1), 1) := by decide +kernel
theorem dX11_fault_9 : decode cX11_fault 9 = .ok (.ireturn, 1) := by decide +kernel
theorem dX11_fault_10 : decode cX11_fault 10 = .ok (.aload_n 0, 1) := by decide +kernel
theorem dX11_fault_11 : decode cX11_fault 11 = .ok (.getfield 17, 3) := by decide +kernel
theorem dX11_fault_14 : decode cX11_fault 14 = .ok (.iload_n 1, 1) := by decide +kernel
theorem dX11_fault_15 : decode cX11_fault 15 = .ok (.aaload, 1) := by decide +kernel
theorem dX11_fault_16 : decode cX11_fault 16 = .ok (.getfield 100, 3) := by decide +kernel
theorem dX11_fault_19 : decode cX11_fault 19 = .ok (.iconst (-1), 1) := by decide +kernel
theorem dX11_fault_20 : decode cX11_fault 20 = .ok (.if_icmp .ne 9, 3) := by decide +kernel
theorem dX11_fault_23 : decode cX11_fault 23 = .ok (.aload_n 0, 1) := by decide +kernel
theorem dX11_fault_24 : decode cX11_fault 24 = .ok (.iconst 1, 1) := by decide +kernel
theorem dX11_fault_25 : decode cX11_fault 25 = .ok (.invokevirtual 68, 3) := by decide +kernel
theorem dX11_fault_28 : decode cX11_fault 28 = .ok (.ireturn, 1) := by decide +kernel
theorem dX11_fault_29 : decode cX11_fault 29 = .ok (.aload_n 0, 1) := by decide +kernel
theorem dX11_fault_30 : decode cX11_fault 30 = .ok (.getfield 17, 3) := by decide +kernel
theorem dX11_fault_33 : decode cX11_fault 33 = .ok (.iload_n 1, 1) := by decide +kernel
theorem dX11_fault_34 : decode cX11_fault 34 = .ok (.aaload, 1) := by decide +kernel
theorem dX11_fault_35 : decode cX11_fault 35 = .ok (.invokevirtual 153, 3) := by decide +kernel
theorem dX11_fault_38 : decode cX11_fault 38 = .ok (.ireturn, 1) := by decide +kernel
theorem dX11_rule_0 : decode cX11_rule 0 = .ok (.iload_n 1, 1) := by decide +kernel
theorem dX11_rule_1 : decode cX11_rule 1 = .ok (.iconst 4, 1) := by decide +kernel
theorem dX11_rule_2 : decode cX11_rule 2 = .ok (.invokestatic 64, 3) := by decide +kernel
theorem dX11_rule_5 : decode cX11_rule 5 = .ok (.ifCond .ne 5, 3) := by decide +kernel
theorem dX11_rule_8 : decode cX11_rule 8 = .ok (.iconst (-1), 1) := by decide +kernel
theorem dX11_rule_9 : decode cX11_rule 9 = .ok (.ireturn, 1) := by decide +kernel
theorem dX11_rule_10 : decode cX11_rule 10 = .ok (.aload_n 0, 1) := by decide +kernel
theorem dX11_rule_11 : decode cX11_rule 11 = .ok (.getfield 17, 3) := by decide +kernel
theorem dX11_rule_14 : decode cX11_rule 14 = .ok (.iload_n 1, 1) := by decide +kernel
theorem dX11_rule_15 : decode cX11_rule 15 = .ok (.aaload, 1) := by decide +kernel
theorem dX11_rule_16 : decode cX11_rule 16 = .ok (.astore_n 2, 1) := by decide +kernel
theorem dX11_rule_17 : decode cX11_rule 17 = .ok (.aload_n 2, 1) := by decide +kernel
theorem dX11_rule_18 : decode cX11_rule 18 = .ok (.getfield 100, 3) := by decide +kernel
theorem dX11_rule_21 : decode cX11_rule 21 = .ok (.iconst (-1), 1) := by decide +kernel
theorem dX11_rule_22 : decode cX11_rule 22 = .ok (.if_icmp .ne 9, 3) := by decide +kernel
theorem dX11_rule_25 : decode cX11_rule 25 = .ok (.aload_n 0, 1) := by decide +kernel
theorem dX11_rule_26 : decode cX11_rule 26 = .ok (.iconst 1, 1) := by decide +kernel
theorem dX11_rule_27 : decode cX11_rule 27 = .ok (.invokevirtual 68, 3) := by decide +kernel
theorem dX11_rule_30 : decode cX11_rule 30 = .ok (.ireturn, 1) := by decide +kernel
theorem dX11_rule_31 : decode cX11_rule 31 = .ok (.aload_n 2, 1) := by decide +kernel
theorem dX11_rule_32 : decode cX11_rule 32 = .ok (.invokevirtual 153, 3) := by decide +kernel
theorem dX11_rule_35 : decode cX11_rule 35 = .ok (.bipush (-9), 2) := by decide +kernel
theorem dX11_rule_37 : decode cX11_rule 37 = .ok (.if_icmp .ne 10, 3) := by decide +kernel
theorem dX11_rule_40 : decode cX11_rule 40 = .ok (.aload_n 2, 1) := by decide +kernel
theorem dX11_rule_41 : decode cX11_rule 41 = .ok (.getfield 157, 3) := by decide +kernel
theorem dX11_rule_44 : decode cX11_rule 44 = .ok (.goto 5, 3) := by decide +kernel
theorem dX11_rule_47 : decode cX11_rule 47 = .ok (.bipush (-4), 2) := by decide +kernel
theorem dX11_rule_49 : decode cX11_rule 49 = .ok (.ireturn, 1) := by decide +kernel
theorem dX11_answers_0 : decode cX11_answers 0 = .ok (.iload_n 1, 1) := by decide +kernel
theorem dX11_answers_1 : decode cX11_answers 1 = .ok (.sipush 244, 3) := by decide +kernel
theorem dX11_answers_4 : decode cX11_answers 4 = .ok (.invokestatic 64, 3) := by decide +kernel
theorem dX11_answers_7 : decode cX11_answers 7 = .ok (.ifCond .eq 12, 3) := by decide +kernel
theorem dX11_answers_10 : decode cX11_answers 10 = .ok (.iload_n 2, 1) := by decide +kernel
theorem dX11_answers_11 : decode cX11_answers 11 = .ok (.bipush 32, 2) := by decide +kernel
theorem dX11_answers_13 : decode cX11_answers 13 = .ok (.invokestatic 64, 3) := by decide +kernel
theorem dX11_answers_16 : decode cX11_answers 16 = .ok (.ifCond .ne 5, 3) := by decide +kernel
theorem dX11_answers_19 : decode cX11_answers 19 = .ok (.iconst (-1), 1) := by decide +kernel
theorem dX11_answers_20 : decode cX11_answers 20 = .ok (.ireturn, 1) := by decide +kernel
theorem dX11_answers_21 : decode cX11_answers 21 = .ok (.aload_n 0, 1) := by decide +kernel
theorem dX11_answers_22 : decode cX11_answers 22 = .ok (.getfield 24, 3) := by decide +kernel
theorem dX11_answers_25 : decode cX11_answers 25 = .ok (.getfield 160, 3) := by decide +kernel
theorem dX11_answers_28 : decode cX11_answers 28 = .ok (.iload_n 1, 1) := by decide +kernel
theorem dX11_answers_29 : decode cX11_answers 29 = .ok (.iload_n 2, 1) := by decide +kernel
theorem dX11_answers_30 : decode cX11_answers 30 = .ok (.invokevirtual 164, 3) := by decide +kernel
theorem dX11_answers_33 : decode cX11_answers 33 = .ok (.ireturn, 1) := by decide +kernel
theorem dX11_fits_0 : decode cX11_fits 0 = .ok (.aload_n 0, 1) := by decide +kernel
theorem dX11_fits_1 : decode cX11_fits 1 = .ok (.getfield 24, 3) := by decide +kernel
theorem dX11_fits_4 : decode cX11_fits 4 = .ok (.iload_n 1, 1) := by decide +kernel
theorem dX11_fits_5 : decode cX11_fits 5 = .ok (.invokevirtual 135, 3) := by decide +kernel
theorem dX11_fits_8 : decode cX11_fits 8 = .ok (.ifCond .eq 13, 3) := by decide +kernel
end
section
theorem dX11_fits_11 : decode cX11_fits 11 = .ok (.iload_n 2, 1) := by decide +kernel
theorem dX11_fits_12 : decode cX11_fits 12 = .ok (.sipush 244, 3) := by decide +kernel
theorem dX11_fits_15 : decode cX11_fits 15 = .ok (.invokestatic 64, 3) := by decide +kernel
theorem dX11_fits_18 : decode cX11_fits 18 = .ok (.ifCond .ne 5, 3) := by decide +kernel
theorem dX11_fits_21 : decode cX11_fits 21 = .ok (.iconst (-1), 1) := by decide +kernel
theorem dX11_fits_22 : decode cX11_fits 22 = .ok (.ireturn, 1) := by decide +kernel
theorem dX11_fits_23 : decode cX11_fits 23 = .ok (.aload_n 0, 1) := by decide +kernel
theorem dX11_fits_24 : decode cX11_fits 24 = .ok (.getfield 24, 3) := by decide +kernel
theorem dX11_fits_27 : decode cX11_fits 27 = .ok (.iload_n 1, 1) := by decide +kernel
theorem dX11_fits_28 : decode cX11_fits 28 = .ok (.iload_n 2, 1) := by decide +kernel
theorem dX11_fits_29 : decode cX11_fits 29 = .ok (.invokevirtual 169, 3) := by decide +kernel
theorem dX11_fits_32 : decode cX11_fits 32 = .ok (.ifCond .ne 7, 3) := by decide +kernel
theorem dX11_fits_35 : decode cX11_fits 35 = .ok (.iconst 1, 1) := by decide +kernel
theorem dX11_fits_36 : decode cX11_fits 36 = .ok (.goto 4, 3) := by decide +kernel
theorem dX11_fits_39 : decode cX11_fits 39 = .ok (.iconst 0, 1) := by decide +kernel
theorem dX11_fits_40 : decode cX11_fits 40 = .ok (.ireturn, 1) := by decide +kernel
theorem dX11_prices_0 : decode cX11_prices 0 = .ok (.iload_n 1, 1) := by decide +kernel
theorem dX11_prices_1 : decode cX11_prices 1 = .ok (.invokestatic 172, 3) := by decide +kernel
theorem dX11_prices_4 : decode cX11_prices 4 = .ok (.ifCond .eq 17, 3) := by decide +kernel
theorem dX11_prices_7 : decode cX11_prices 7 = .ok (.iload_n 2, 1) := by decide +kernel
theorem dX11_prices_8 : decode cX11_prices 8 = .ok (.invokestatic 172, 3) := by decide +kernel
theorem dX11_prices_11 : decode cX11_prices 11 = .ok (.ifCond .eq 10, 3) := by decide +kernel
theorem dX11_prices_14 : decode cX11_prices 14 = .ok (.iload_n 3, 1) := by decide +kernel
theorem dX11_prices_15 : decode cX11_prices 15 = .ok (.invokestatic 172, 3) := by decide +kernel
theorem dX11_prices_18 : decode cX11_prices 18 = .ok (.ifCond .ne 5, 3) := by decide +kernel
theorem dX11_prices_21 : decode cX11_prices 21 = .ok (.iconst (-1), 1) := by decide +kernel
theorem dX11_prices_22 : decode cX11_prices 22 = .ok (.ireturn, 1) := by decide +kernel
theorem dX11_prices_23 : decode cX11_prices 23 = .ok (.aload_n 0, 1) := by decide +kernel
theorem dX11_prices_24 : decode cX11_prices 24 = .ok (.getfield 24, 3) := by decide +kernel
theorem dX11_prices_27 : decode cX11_prices 27 = .ok (.iload_n 1, 1) := by decide +kernel
theorem dX11_prices_28 : decode cX11_prices 28 = .ok (.iload_n 2, 1) := by decide +kernel
theorem dX11_prices_29 : decode cX11_prices 29 = .ok (.iload_n 3, 1) := by decide +kernel
theorem dX11_prices_30 : decode cX11_prices 30 = .ok (.invokevirtual 175, 3) := by decide +kernel
theorem dX11_prices_33 : decode cX11_prices 33 = .ok (.iconst 1, 1) := by decide +kernel
theorem dX11_prices_34 : decode cX11_prices 34 = .ok (.ireturn, 1) := by decide +kernel
theorem dX11_costs_0 : decode cX11_costs 0 = .ok (.aload_n 0, 1) := by decide +kernel
theorem dX11_costs_1 : decode cX11_costs 1 = .ok (.getfield 24, 3) := by decide +kernel
theorem dX11_costs_4 : decode cX11_costs 4 = .ok (.iload_n 1, 1) := by decide +kernel
theorem dX11_costs_5 : decode cX11_costs 5 = .ok (.invokevirtual 135, 3) := by decide +kernel
theorem dX11_costs_8 : decode cX11_costs 8 = .ok (.ifCond .eq 13, 3) := by decide +kernel
theorem dX11_costs_11 : decode cX11_costs 11 = .ok (.iload_n 2, 1) := by decide +kernel
theorem dX11_costs_12 : decode cX11_costs 12 = .ok (.sipush 244, 3) := by decide +kernel
theorem dX11_costs_15 : decode cX11_costs 15 = .ok (.invokestatic 64, 3) := by decide +kernel
theorem dX11_costs_18 : decode cX11_costs 18 = .ok (.ifCond .ne 5, 3) := by decide +kernel
theorem dX11_costs_21 : decode cX11_costs 21 = .ok (.iconst (-1), 1) := by decide +kernel
theorem dX11_costs_22 : decode cX11_costs 22 = .ok (.ireturn, 1) := by decide +kernel
theorem dX11_costs_23 : decode cX11_costs 23 = .ok (.aload_n 0, 1) := by decide +kernel
theorem dX11_costs_24 : decode cX11_costs 24 = .ok (.getfield 24, 3) := by decide +kernel
theorem dX11_costs_27 : decode cX11_costs 27 = .ok (.getfield 179, 3) := by decide +kernel
theorem dX11_costs_30 : decode cX11_costs 30 = .ok (.aload_n 0, 1) := by decide +kernel
theorem dX11_costs_31 : decode cX11_costs 31 = .ok (.getfield 24, 3) := by decide +kernel
theorem dX11_costs_34 : decode cX11_costs 34 = .ok (.iload_n 1, 1) := by decide +kernel
theorem dX11_costs_35 : decode cX11_costs 35 = .ok (.iload_n 2, 1) := by decide +kernel
theorem dX11_costs_36 : decode cX11_costs 36 = .ok (.invokevirtual 169, 3) := by decide +kernel
theorem dX11_costs_39 : decode cX11_costs 39 = .ok (.invokevirtual 183, 3) := by decide +kernel
theorem dX11_costs_42 : decode cX11_costs 42 = .ok (.ireturn, 1) := by decide +kernel
theorem dX11_settle_0 : decode cX11_settle 0 = .ok (.aload_n 0, 1) := by decide +kernel
theorem dX11_settle_1 : decode cX11_settle 1 = .ok (.getfield 24, 3) := by decide +kernel
theorem dX11_settle_4 : decode cX11_settle 4 = .ok (.iload_n 1, 1) := by decide +kernel
theorem dX11_settle_5 : decode cX11_settle 5 = .ok (.invokevirtual 111, 3) := by decide +kernel
theorem dX11_settle_8 : decode cX11_settle 8 = .ok (.ifCond .ne 5, 3) := by decide +kernel
theorem dX11_settle_11 : decode cX11_settle 11 = .ok (.iconst (-1), 1) := by decide +kernel
theorem dX11_settle_12 : decode cX11_settle 12 = .ok (.ireturn, 1) := by decide +kernel
theorem dX11_settle_13 : decode cX11_settle 13 = .ok (.aload_n 0, 1) := by decide +kernel
theorem dX11_settle_14 : decode cX11_settle 14 = .ok (.getfield 24, 3) := by decide +kernel
theorem dX11_settle_17 : decode cX11_settle 17 = .ok (.invokevirtual 188, 3) := by decide +kernel
theorem dX11_settle_20 : decode cX11_settle 20 = .ok (.iload_n 1, 1) := by decide +kernel
theorem dX11_settle_21 : decode cX11_settle 21 = .ok (.aaload, 1) := by decide +kernel
theorem dX11_settle_22 : decode cX11_settle 22 = .ok (.getfield 192, 3) := by decide +kernel
theorem dX11_settle_25 : decode cX11_settle 25 = .ok (.astore_n 2, 1) := by decide +kernel
theorem dX11_settle_26 : decode cX11_settle 26 = .ok (.aload_n 0, 1) := by decide +kernel
theorem dX11_settle_27 : decode cX11_settle 27 = .ok (.aload_n 2, 1) := by decide +kernel
theorem dX11_settle_28 : decode cX11_settle 28 = .ok (.getfield 198, 3) := by decide +kernel
theorem dX11_settle_31 : decode cX11_settle 31 = .ok (.aload_n 2, 1) := by decide +kernel
theorem dX11_settle_32 : decode cX11_settle 32 = .ok (.getfield 203, 3) := by decide +kernel
theorem dX11_settle_35 : decode cX11_settle 35 = .ok (.invokevirtual 82, 3) := by decide +kernel
theorem dX11_settle_38 : decode cX11_settle 38 = .ok (.ireturn, 1) := by decide +kernel
theorem dX11_second_0 : decode cX11_second 0 = .ok (.aload_n 0, 1) := by decide +kernel
theorem dX11_second_1 : decode cX11_second 1 = .ok (.getfield 24, 3) := by decide +kernel
theorem dX11_second_4 : decode cX11_second 4 = .ok (.iload_n 1, 1) := by decide +kernel
theorem dX11_second_5 : decode cX11_second 5 = .ok (.invokevirtual 111, 3) := by decide +kernel
theorem dX11_second_8 : decode cX11_second 8 = .ok (.ifCond .eq 21, 3) := by decide +kernel
theorem dX11_second_11 : decode cX11_second 11 = .ok (.aload_n 0, 1) := by decide +kernel
theorem dX11_second_12 : decode cX11_second 12 = .ok (.getfield 24, 3) := by decide +kernel
theorem dX11_second_15 : decode cX11_second 15 = .ok (.invokevirtual 188, 3) := by decide +kernel
theorem dX11_second_18 : decode cX11_second 18 = .ok (.iload_n 1, 1) := by decide +kernel
theorem dX11_second_19 : decode cX11_second 19 = .ok (.aaload, 1) := by decide +kernel
theorem dX11_second_20 : decode cX11_second 20 = .ok (.getfield 192, 3) := by decide +kernel
theorem dX11_second_23 : decode cX11_second 23 = .ok (.getfield 205, 3) := by decide +kernel
theorem dX11_second_26 : decode cX11_second 26 = .ok (.goto 4, 3) := by decide +kernel
theorem dX11_second_29 : decode cX11_second 29 = .ok (.iconst (-1), 1) := by decide +kernel
theorem dX11_second_30 : decode cX11_second 30 = .ok (.ireturn, 1) := by decide +kernel
theorem dX11_cheap_0 : decode cX11_cheap 0 = .ok (.aload_n 0, 1) := by decide +kernel
theorem dX11_cheap_1 : decode cX11_cheap 1 = .ok (.getfield 24, 3) := by decide +kernel
theorem dX11_cheap_4 : decode cX11_cheap 4 = .ok (.iload_n 1, 1) := by decide +kernel
theorem dX11_cheap_5 : decode cX11_cheap 5 = .ok (.invokevirtual 111, 3) := by decide +kernel
theorem dX11_cheap_8 : decode cX11_cheap 8 = .ok (.ifCond .ne 5, 3) := by decide +kernel
theorem dX11_cheap_11 : decode cX11_cheap 11 = .ok (.iconst (-1), 1) := by decide +kernel
theorem dX11_cheap_12 : decode cX11_cheap 12 = .ok (.ireturn, 1) := by decide +kernel
theorem dX11_cheap_13 : decode cX11_cheap 13 = .ok (.aload_n 0, 1) := by decide +kernel
theorem dX11_cheap_14 : decode cX11_cheap 14 = .ok (.getfield 24, 3) := by decide +kernel
theorem dX11_cheap_17 : decode cX11_cheap 17 = .ok (.invokevirtual 188, 3) := by decide +kernel
theorem dX11_cheap_20 : decode cX11_cheap 20 = .ok (.iload_n 1, 1) := by decide +kernel
theorem dX11_cheap_21 : decode cX11_cheap 21 = .ok (.aaload, 1) := by decide +kernel
theorem dX11_cheap_22 : decode cX11_cheap 22 = .ok (.getfield 192, 3) := by decide +kernel
theorem dX11_cheap_25 : decode cX11_cheap 25 = .ok (.astore_n 2, 1) := by decide +kernel
theorem dX11_cheap_26 : decode cX11_cheap 26 = .ok (.aload_n 0, 1) := by decide +kernel
theorem dX11_cheap_27 : decode cX11_cheap 27 = .ok (.aload_n 2, 1) := by decide +kernel
theorem dX11_cheap_28 : decode cX11_cheap 28 = .ok (.invokevirtual 208, 3) := by decide +kernel
theorem dX11_cheap_31 : decode cX11_cheap 31 = .ok (.aload_n 2, 1) := by decide +kernel
theorem dX11_cheap_32 : decode cX11_cheap 32 = .ok (.getfield 211, 3) := by decide +kernel
theorem dX11_cheap_35 : decode cX11_cheap 35 = .ok (.invokevirtual 82, 3) := by decide +kernel
theorem dX11_cheap_38 : decode cX11_cheap 38 = .ok (.ireturn, 1) := by decide +kernel
theorem dX11_cheapAt_0 : decode cX11_cheapAt 0 = .ok (.aload_n 0, 1) := by decide +kernel
theorem dX11_cheapAt_1 : decode cX11_cheapAt 1 = .ok (.getfield 24, 3) := by decide +kernel
theorem dX11_cheapAt_4 : decode cX11_cheapAt 4 = .ok (.iload_n 1, 1) := by decide +kernel
theorem dX11_cheapAt_5 : decode cX11_cheapAt 5 = .ok (.invokevirtual 111, 3) := by decide +kernel
theorem dX11_cheapAt_8 : decode cX11_cheapAt 8 = .ok (.ifCond .eq 7, 3) := by decide +kernel
theorem dX11_cheapAt_11 : decode cX11_cheapAt 11 = .ok (.iload_n 2, 1) := by decide +kernel
theorem dX11_cheapAt_12 : decode cX11_cheapAt 12 = .ok (.ifCond .ge 5, 3) := by decide +kernel
theorem dX11_cheapAt_15 : decode cX11_cheapAt 15 = .ok (.iconst (-1), 1) := by decide +kernel
theorem dX11_cheapAt_16 : decode cX11_cheapAt 16 = .ok (.ireturn, 1) := by decide +kernel
theorem dX11_cheapAt_17 : decode cX11_cheapAt 17 = .ok (.aload_n 0, 1) := by decide +kernel
theorem dX11_cheapAt_18 : decode cX11_cheapAt 18 = .ok (.getfield 24, 3) := by decide +kernel
theorem dX11_cheapAt_21 : decode cX11_cheapAt 21 = .ok (.invokevirtual 188, 3) := by decide +kernel
theorem dX11_cheapAt_24 : decode cX11_cheapAt 24 = .ok (.iload_n 1, 1) := by decide +kernel
theorem dX11_cheapAt_25 : decode cX11_cheapAt 25 = .ok (.aaload, 1) := by decide +kernel
theorem dX11_cheapAt_26 : decode cX11_cheapAt 26 = .ok (.getfield 192, 3) := by decide +kernel
theorem dX11_cheapAt_29 : decode cX11_cheapAt 29 = .ok (.astore_n 3, 1) := by decide +kernel
theorem dX11_cheapAt_30 : decode cX11_cheapAt 30 = .ok (.iload_n 2, 1) := by decide +kernel
theorem dX11_cheapAt_31 : decode cX11_cheapAt 31 = .ok (.aload_n 3, 1) := by decide +kernel
theorem dX11_cheapAt_32 : decode cX11_cheapAt 32 = .ok (.getfield 211, 3) := by decide +kernel
theorem dX11_cheapAt_35 : decode cX11_cheapAt 35 = .ok (.if_icmp .ge 12, 3) := by decide +kernel
theorem dX11_cheapAt_38 : decode cX11_cheapAt 38 = .ok (.aload_n 3, 1) := by decide +kernel
theorem dX11_cheapAt_39 : decode cX11_cheapAt 39 = .ok (.getfield 214, 3) := by decide +kernel
theorem dX11_cheapAt_42 : decode cX11_cheapAt 42 = .ok (.iload_n 2, 1) := by decide +kernel
theorem dX11_cheapAt_43 : decode cX11_cheapAt 43 = .ok (.iaload, 1) := by decide +kernel
theorem dX11_cheapAt_44 : decode cX11_cheapAt 44 = .ok (.goto 5, 3) := by decide +kernel
theorem dX11_cheapAt_47 : decode cX11_cheapAt 47 = .ok (.bipush (-9), 2) := by decide +kernel
theorem dX11_cheapAt_49 : decode cX11_cheapAt 49 = .ok (.ireturn, 1) := by decide +kernel
theorem dX11_all_0 : decode cX11_all 0 = .ok (.aload_n 0, 1) := by decide +kernel
theorem dX11_all_1 : decode cX11_all 1 = .ok (.getfield 24, 3) := by decide +kernel
theorem dX11_all_4 : decode cX11_all 4 = .ok (.invokevirtual 188, 3) := by decide +kernel
theorem dX11_all_7 : decode cX11_all 7 = .ok (.astore_n 1, 1) := by decide +kernel
theorem dX11_all_8 : decode cX11_all 8 = .ok (.iconst 0, 1) := by decide +kernel
theorem dX11_all_9 : decode cX11_all 9 = .ok (.istore_n 2, 1) := by decide +kernel
theorem dX11_all_10 : decode cX11_all 10 = .ok (.iconst 0, 1) := by decide +kernel
theorem dX11_all_11 : decode cX11_all 11 = .ok (.istore_n 3, 1) := by decide +kernel
theorem dX11_all_12 : decode cX11_all 12 = .ok (.iload_n 3, 1) := by decide +kernel
theorem dX11_all_13 : decode cX11_all 13 = .ok (.aload_n 0, 1) := by decide +kernel
theorem dX11_all_14 : decode cX11_all 14 = .ok (.getfield 24, 3) := by decide +kernel
theorem dX11_all_17 : decode cX11_all 17 = .ok (.getfield 115, 3) := by decide +kernel
theorem dX11_all_20 : decode cX11_all 20 = .ok (.if_icmp .ge 21, 3) := by decide +kernel
theorem dX11_all_23 : decode cX11_all 23 = .ok (.iload_n 2, 1) := by decide +kernel
theorem dX11_all_24 : decode cX11_all 24 = .ok (.aload_n 1, 1) := by decide +kernel
theorem dX11_all_25 : decode cX11_all 25 = .ok (.iload_n 3, 1) := by decide +kernel
theorem dX11_all_26 : decode cX11_all 26 = .ok (.aaload, 1) := by decide +kernel
theorem dX11_all_27 : decode cX11_all 27 = .ok (.getfield 192, 3) := by decide +kernel
theorem dX11_all_30 : decode cX11_all 30 = .ok (.getfield 203, 3) := by decide +kernel
theorem dX11_all_33 : decode cX11_all 33 = .ok (.iadd, 1) := by decide +kernel
theorem dX11_all_34 : decode cX11_all 34 = .ok (.istore_n 2, 1) := by decide +kernel
theorem dX11_all_35 : decode cX11_all 35 = .ok (.iinc 3 1, 3) := by decide +kernel
theorem dX11_all_38 : decode cX11_all 38 = .ok (.goto (-26), 3) := by decide +kernel
theorem dX11_all_41 : decode cX11_all 41 = .ok (.iload_n 2, 1) := by decide +kernel
theorem dX11_all_42 : decode cX11_all 42 = .ok (.ireturn, 1) := by decide +kernel
theorem dX11_against_0 : decode cX11_against 0 = .ok (.aload_n 0, 1) := by decide +kernel
theorem dX11_against_1 : decode cX11_against 1 = .ok (.getfield 24, 3) := by decide +kernel
theorem dX11_against_4 : decode cX11_against 4 = .ok (.iload_n 1, 1) := by decide +kernel
theorem dX11_against_5 : decode cX11_against 5 = .ok (.invokevirtual 135, 3) := by decide +kernel
theorem dX11_against_8 : decode cX11_against 8 = .ok (.ifCond .eq 21, 3) := by decide +kernel
theorem dX11_against_11 : decode cX11_against 11 = .ok (.aload_n 0, 1) := by decide +kernel
theorem dX11_against_12 : decode cX11_against 12 = .ok (.getfield 24, 3) := by decide +kernel
theorem dX11_against_15 : decode cX11_against 15 = .ok (.iload_n 1, 1) := by decide +kernel
theorem dX11_against_16 : decode cX11_against 16 = .ok (.aload_n 0, 1) := by decide +kernel
theorem dX11_against_17 : decode cX11_against 17 = .ok (.getfield 24, 3) := by decide +kernel
theorem dX11_against_20 : decode cX11_against 20 = .ok (.invokevirtual 188, 3) := by decide +kernel
theorem dX11_against_23 : decode cX11_against 23 = .ok (.invokevirtual 217, 3) := by decide +kernel
theorem dX11_against_26 : decode cX11_against 26 = .ok (.goto 4, 3) := by decide +kernel
theorem dX11_against_29 : decode cX11_against 29 = .ok (.iconst (-1), 1) := by decide +kernel
theorem dX11_against_30 : decode cX11_against 30 = .ok (.ireturn, 1) := by decide +kernel
theorem dX11_nobody_0 : decode cX11_nobody 0 = .ok (.aload_n 0, 1) := by decide +kernel
theorem dX11_nobody_1 : decode cX11_nobody 1 = .ok (.getfield 24, 3) := by decide +kernel
theorem dX11_nobody_4 : decode cX11_nobody 4 = .ok (.invokevirtual 188, 3) := by decide +kernel
theorem dX11_nobody_7 : decode cX11_nobody 7 = .ok (.astore_n 1, 1) := by decide +kernel
theorem dX11_nobody_8 : decode cX11_nobody 8 = .ok (.bipush (-9), 2) := by decide +kernel
theorem dX11_nobody_10 : decode cX11_nobody 10 = .ok (.istore_n 2, 1) := by decide +kernel
theorem dX11_nobody_11 : decode cX11_nobody 11 = .ok (.iconst 0, 1) := by decide +kernel
theorem dX11_nobody_12 : decode cX11_nobody 12 = .ok (.istore_n 3, 1) := by decide +kernel
theorem dX11_nobody_13 : decode cX11_nobody 13 = .ok (.iconst 0, 1) := by decide +kernel
theorem dX11_nobody_14 : decode cX11_nobody 14 = .ok (.istore 4, 2) := by decide +kernel
theorem dX11_nobody_16 : decode cX11_nobody 16 = .ok (.iload 4, 2) := by decide +kernel
theorem dX11_nobody_18 : decode cX11_nobody 18 = .ok (.aload_n 0, 1) := by decide +kernel
theorem dX11_nobody_19 : decode cX11_nobody 19 = .ok (.getfield 24, 3) := by decide +kernel
theorem dX11_nobody_22 : decode cX11_nobody 22 = .ok (.getfield 221, 3) := by decide +kernel
theorem dX11_nobody_25 : decode cX11_nobody 25 = .ok (.if_icmp .ge 35, 3) := by decide +kernel
theorem dX11_nobody_28 : decode cX11_nobody 28 = .ok (.aload_n 0, 1) := by decide +kernel
theorem dX11_nobody_29 : decode cX11_nobody 29 = .ok (.getfield 24, 3) := by decide +kernel
theorem dX11_nobody_32 : decode cX11_nobody 32 = .ok (.iload 4, 2) := by decide +kernel
theorem dX11_nobody_34 : decode cX11_nobody 34 = .ok (.aload_n 1, 1) := by decide +kernel
theorem dX11_nobody_35 : decode cX11_nobody 35 = .ok (.invokevirtual 217, 3) := by decide +kernel
theorem dX11_nobody_38 : decode cX11_nobody 38 = .ok (.ifCond .eq 6, 3) := by decide +kernel
theorem dX11_nobody_41 : decode cX11_nobody 41 = .ok (.goto 13, 3) := by decide +kernel
theorem dX11_nobody_44 : decode cX11_nobody 44 = .ok (.iload_n 3, 1) := by decide +kernel
theorem dX11_nobody_45 : decode cX11_nobody 45 = .ok (.ifCond .ne 6, 3) := by decide +kernel
theorem dX11_nobody_48 : decode cX11_nobody 48 = .ok (.iload 4, 2) := by decide +kernel
theorem dX11_nobody_50 : decode cX11_nobody 50 = .ok (.istore_n 2, 1) := by decide +kernel
theorem dX11_nobody_51 : decode cX11_nobody 51 = .ok (.iinc 3 1, 3) := by decide +kernel
theorem dX11_nobody_54 : decode cX11_nobody 54 = .ok (.iinc 4 1, 3) := by decide +kernel
theorem dX11_nobody_57 : decode cX11_nobody 57 = .ok (.goto (-41), 3) := by decide +kernel
theorem dX11_nobody_60 : decode cX11_nobody 60 = .ok (.aload_n 0, 1) := by decide +kernel
theorem dX11_nobody_61 : decode cX11_nobody 61 = .ok (.iload_n 2, 1) := by decide +kernel
theorem dX11_nobody_62 : decode cX11_nobody 62 = .ok (.iload_n 3, 1) := by decide +kernel
theorem dX11_nobody_63 : decode cX11_nobody 63 = .ok (.invokevirtual 82, 3) := by decide +kernel
theorem dX11_nobody_66 : decode cX11_nobody 66 = .ok (.ireturn, 1) := by decide +kernel
theorem dX11_plain_0 : decode cX11_plain 0 = .ok (.aload_n 0, 1) := by decide +kernel
theorem dX11_plain_1 : decode cX11_plain 1 = .ok (.getfield 24, 3) := by decide +kernel
theorem dX11_plain_4 : decode cX11_plain 4 = .ok (.iload_n 1, 1) := by decide +kernel
theorem dX11_plain_5 : decode cX11_plain 5 = .ok (.invokevirtual 135, 3) := by decide +kernel
theorem dX11_plain_8 : decode cX11_plain 8 = .ok (.ifCond .ne 5, 3) := by decide +kernel
theorem dX11_plain_11 : decode cX11_plain 11 = .ok (.iconst (-1), 1) := by decide +kernel
theorem dX11_plain_12 : decode cX11_plain 12 = .ok (.ireturn, 1) := by decide +kernel
theorem dX11_plain_13 : decode cX11_plain 13 = .ok (.aload_n 0, 1) := by decide +kernel
theorem dX11_plain_14 : decode cX11_plain 14 = .ok (.getfield 24, 3) := by decide +kernel
theorem dX11_plain_17 : decode cX11_plain 17 = .ok (.aload_n 0, 1) := by decide +kernel
theorem dX11_plain_18 : decode cX11_plain 18 = .ok (.getfield 24, 3) := by decide +kernel
theorem dX11_plain_21 : decode cX11_plain 21 = .ok (.iload_n 1, 1) := by decide +kernel
theorem dX11_plain_22 : decode cX11_plain 22 = .ok (.invokevirtual 224, 3) := by decide +kernel
theorem dX11_plain_25 : decode cX11_plain 25 = .ok (.aload_n 0, 1) := by decide +kernel
theorem dX11_plain_26 : decode cX11_plain 26 = .ok (.getfield 24, 3) := by decide +kernel
theorem dX11_plain_29 : decode cX11_plain 29 = .ok (.invokevirtual 188, 3) := by decide +kernel
theorem dX11_plain_32 : decode cX11_plain 32 = .ok (.invokevirtual 227, 3) := by decide +kernel
theorem dX11_plain_35 : decode cX11_plain 35 = .ok (.ifCond .eq 7, 3) := by decide +kernel
theorem dX11_plain_38 : decode cX11_plain 38 = .ok (.iconst 1, 1) := by decide +kernel
theorem dX11_plain_39 : decode cX11_plain 39 = .ok (.goto 4, 3) := by decide +kernel
theorem dX11_plain_42 : decode cX11_plain 42 = .ok (.iconst 0, 1) := by decide +kernel
theorem dX11_plain_43 : decode cX11_plain 43 = .ok (.ireturn, 1) := by decide +kernel
theorem dX11_changed_0 : decode cX11_changed 0 = .ok (.aload_n 0, 1) := by decide +kernel
theorem dX11_changed_1 : decode cX11_changed 1 = .ok (.getfield 24, 3) := by decide +kernel
theorem dX11_changed_4 : decode cX11_changed 4 = .ok (.iload_n 1, 1) := by decide +kernel
theorem dX11_changed_5 : decode cX11_changed 5 = .ok (.invokevirtual 111, 3) := by decide +kernel
theorem dX11_changed_8 : decode cX11_changed 8 = .ok (.ifCond .ne 5, 3) := by decide +kernel
theorem dX11_changed_11 : decode cX11_changed 11 = .ok (.iconst (-1), 1) := by decide +kernel
theorem dX11_changed_12 : decode cX11_changed 12 = .ok (.ireturn, 1) := by decide +kernel
theorem dX11_changed_13 : decode cX11_changed 13 = .ok (.aload_n 0, 1) := by decide +kernel
theorem dX11_changed_14 : decode cX11_changed 14 = .ok (.getfield 24, 3) := by decide +kernel
theorem dX11_changed_17 : decode cX11_changed 17 = .ok (.iload_n 1, 1) := by decide +kernel
theorem dX11_changed_18 : decode cX11_changed 18 = .ok (.invokevirtual 231, 3) := by decide +kernel
theorem dX11_changed_21 : decode cX11_changed 21 = .ok (.istore_n 2, 1) := by decide +kernel
theorem dX11_changed_22 : decode cX11_changed 22 = .ok (.aload_n 0, 1) := by decide +kernel
theorem dX11_changed_23 : decode cX11_changed 23 = .ok (.aload_n 0, 1) := by decide +kernel
theorem dX11_changed_24 : decode cX11_changed 24 = .ok (.getfield 24, 3) := by decide +kernel
theorem dX11_changed_27 : decode cX11_changed 27 = .ok (.getfield 179, 3) := by decide +kernel
theorem dX11_changed_30 : decode cX11_changed 30 = .ok (.getfield 234, 3) := by decide +kernel
theorem dX11_changed_33 : decode cX11_changed 33 = .ok (.iload_n 2, 1) := by decide +kernel
theorem dX11_changed_34 : decode cX11_changed 34 = .ok (.invokevirtual 82, 3) := by decide +kernel
theorem dX11_changed_37 : decode cX11_changed 37 = .ok (.ireturn, 1) := by decide +kernel
theorem dX11_parts_0 : decode cX11_parts 0 = .ok (.aload_n 0, 1) := by decide +kernel
theorem dX11_parts_1 : decode cX11_parts 1 = .ok (.getfield 24, 3) := by decide +kernel
theorem dX11_parts_4 : decode cX11_parts 4 = .ok (.iload_n 1, 1) := by decide +kernel
theorem dX11_parts_5 : decode cX11_parts 5 = .ok (.invokevirtual 125, 3) := by decide +kernel
theorem dX11_parts_8 : decode cX11_parts 8 = .ok (.ifCond .eq 14, 3) := by decide +kernel
theorem dX11_parts_11 : decode cX11_parts 11 = .ok (.aload_n 0, 1) := by decide +kernel
theorem dX11_parts_12 : decode cX11_parts 12 = .ok (.getfield 24, 3) := by decide +kernel
theorem dX11_parts_15 : decode cX11_parts 15 = .ok (.iload_n 2, 1) := by decide +kernel
theorem dX11_parts_16 : decode cX11_parts 16 = .ok (.invokevirtual 125, 3) := by decide +kernel
theorem dX11_parts_19 : decode cX11_parts 19 = .ok (.ifCond .ne 5, 3) := by decide +kernel
theorem dX11_parts_22 : decode cX11_parts 22 = .ok (.iconst (-1), 1) := by decide +kernel
theorem dX11_parts_23 : decode cX11_parts 23 = .ok (.ireturn, 1) := by decide +kernel
theorem dX11_parts_24 : decode cX11_parts 24 = .ok (.aload_n 0, 1) := by decide +kernel
theorem dX11_parts_25 : decode cX11_parts 25 = .ok (.getfield 24, 3) := by decide +kernel
theorem dX11_parts_28 : decode cX11_parts 28 = .ok (.getfield 147, 3) := by decide +kernel
theorem dX11_parts_31 : decode cX11_parts 31 = .ok (.iload_n 1, 1) := by decide +kernel
theorem dX11_parts_32 : decode cX11_parts 32 = .ok (.iaload, 1) := by decide +kernel
theorem dX11_parts_33 : decode cX11_parts 33 = .ok (.aload_n 0, 1) := by decide +kernel
theorem dX11_parts_34 : decode cX11_parts 34 = .ok (.getfield 24, 3) := by decide +kernel
theorem dX11_parts_37 : decode cX11_parts 37 = .ok (.getfield 147, 3) := by decide +kernel
theorem dX11_parts_40 : decode cX11_parts 40 = .ok (.iload_n 2, 1) := by decide +kernel
theorem dX11_parts_41 : decode cX11_parts 41 = .ok (.iaload, 1) := by decide +kernel
theorem dX11_parts_42 : decode cX11_parts 42 = .ok (.ixor, 1) := by decide +kernel
theorem dX11_parts_43 : decode cX11_parts 43 = .ok (.istore_n 3, 1) := by decide +kernel
theorem dX11_parts_44 : decode cX11_parts 44 = .ok (.aload_n 0, 1) := by decide +kernel
theorem dX11_parts_45 : decode cX11_parts 45 = .ok (.iload_n 3, 1) := by decide +kernel
theorem dX11_parts_46 : decode cX11_parts 46 = .ok (.invokestatic 237, 3) := by decide +kernel
theorem dX11_parts_49 : decode cX11_parts 49 = .ok (.iload_n 3, 1) := by decide +kernel
theorem dX11_parts_50 : decode cX11_parts 50 = .ok (.invokestatic 240, 3) := by decide +kernel
theorem dX11_parts_53 : decode cX11_parts 53 = .ok (.invokevirtual 82, 3) := by decide +kernel
theorem dX11_parts_56 : decode cX11_parts 56 = .ok (.ireturn, 1) := by decide +kernel
theorem dX11_met_0 : decode cX11_met 0 = .ok (.aload_n 0, 1) := by decide +kernel
theorem dX11_met_1 : decode cX11_met 1 = .ok (.getfield 24, 3) := by decide +kernel
theorem dX11_met_4 : decode cX11_met 4 = .ok (.iload_n 1, 1) := by decide +kernel
theorem dX11_met_5 : decode cX11_met 5 = .ok (.invokevirtual 111, 3) := by decide +kernel
theorem dX11_met_8 : decode cX11_met 8 = .ok (.ifCond .eq 14, 3) := by decide +kernel
theorem dX11_met_11 : decode cX11_met 11 = .ok (.aload_n 0, 1) := by decide +kernel
theorem dX11_met_12 : decode cX11_met 12 = .ok (.getfield 24, 3) := by decide +kernel
theorem dX11_met_15 : decode cX11_met 15 = .ok (.iload_n 2, 1) := by decide +kernel
theorem dX11_met_16 : decode cX11_met 16 = .ok (.invokevirtual 111, 3) := by decide +kernel
theorem dX11_met_19 : decode cX11_met 19 = .ok (.ifCond .ne 5, 3) := by decide +kernel
theorem dX11_met_22 : decode cX11_met 22 = .ok (.iconst (-1), 1) := by decide +kernel
theorem dX11_met_23 : decode cX11_met 23 = .ok (.ireturn, 1) := by decide +kernel
theorem dX11_met_24 : decode cX11_met 24 = .ok (.aload_n 0, 1) := by decide +kernel
theorem dX11_met_25 : decode cX11_met 25 = .ok (.getfield 24, 3) := by decide +kernel
theorem dX11_met_28 : decode cX11_met 28 = .ok (.getfield 245, 3) := by decide +kernel
theorem dX11_met_31 : decode cX11_met 31 = .ok (.iload_n 1, 1) := by decide +kernel
theorem dX11_met_32 : decode cX11_met 32 = .ok (.aaload, 1) := by decide +kernel
theorem dX11_met_33 : decode cX11_met 33 = .ok (.astore_n 3, 1) := by decide +kernel
theorem dX11_met_34 : decode cX11_met 34 = .ok (.aload_n 0, 1) := by decide +kernel
theorem dX11_met_35 : decode cX11_met 35 = .ok (.getfield 24, 3) := by decide +kernel
theorem dX11_met_38 : decode cX11_met 38 = .ok (.getfield 245, 3) := by decide +kernel
theorem dX11_met_41 : decode cX11_met 41 = .ok (.iload_n 2, 1) := by decide +kernel
theorem dX11_met_42 : decode cX11_met 42 = .ok (.aaload, 1) := by decide +kernel
theorem dX11_met_43 : decode cX11_met 43 = .ok (.astore 4, 2) := by decide +kernel
theorem dX11_met_45 : decode cX11_met 45 = .ok (.aload_n 3, 1) := by decide +kernel
theorem dX11_met_46 : decode cX11_met 46 = .ok (.getfield 249, 3) := by decide +kernel
theorem dX11_met_49 : decode cX11_met 49 = .ok (.aload 4, 2) := by decide +kernel
theorem dX11_met_51 : decode cX11_met 51 = .ok (.getfield 249, 3) := by decide +kernel
theorem dX11_met_54 : decode cX11_met 54 = .ok (.invokestatic 252, 3) := by decide +kernel
theorem dX11_met_57 : decode cX11_met 57 = .ok (.bipush 15, 2) := by decide +kernel
theorem dX11_met_59 : decode cX11_met 59 = .ok (.iadd, 1) := by decide +kernel
theorem dX11_met_60 : decode cX11_met 60 = .ok (.istore 5, 2) := by decide +kernel
theorem dX11_met_62 : decode cX11_met 62 = .ok (.aload_n 3, 1) := by decide +kernel
theorem dX11_met_63 : decode cX11_met 63 = .ok (.getfield 257, 3) := by decide +kernel
theorem dX11_met_66 : decode cX11_met 66 = .ok (.aload 4, 2) := by decide +kernel
theorem dX11_met_68 : decode cX11_met 68 = .ok (.getfield 257, 3) := by decide +kernel
theorem dX11_met_71 : decode cX11_met 71 = .ok (.invokestatic 260, 3) := by decide +kernel
theorem dX11_met_74 : decode cX11_met 74 = .ok (.istore 6, 2) := by decide +kernel
theorem dX11_met_76 : decode cX11_met 76 = .ok (.iconst 0, 1) := by decide +kernel
theorem dX11_met_77 : decode cX11_met 77 = .ok (.iload 6, 2) := by decide +kernel
theorem dX11_met_79 : decode cX11_met 79 = .ok (.iload 5, 2) := by decide +kernel
theorem dX11_met_81 : decode cX11_met 81 = .ok (.isub, 1) := by decide +kernel
theorem dX11_met_82 : decode cX11_met 82 = .ok (.iconst 1, 1) := by decide +kernel
theorem dX11_met_83 : decode cX11_met 83 = .ok (.iadd, 1) := by decide +kernel
theorem dX11_met_84 : decode cX11_met 84 = .ok (.invokestatic 252, 3) := by decide +kernel
theorem dX11_met_87 : decode cX11_met 87 = .ok (.ireturn, 1) := by decide +kernel
theorem dX11_can_0 : decode cX11_can 0 = .ok (.iload_n 1, 1) := by decide +kernel
theorem dX11_can_1 : decode cX11_can 1 = .ok (.ifCond .le 16, 3) := by decide +kernel
theorem dX11_can_4 : decode cX11_can 4 = .ok (.iload_n 1, 1) := by decide +kernel
theorem dX11_can_5 : decode cX11_can 5 = .ok (.iconst 1, 1) := by decide +kernel
theorem dX11_can_6 : decode cX11_can 6 = .ok (.aload_n 0, 1) := by decide +kernel
theorem dX11_can_7 : decode cX11_can 7 = .ok (.getfield 24, 3) := by decide +kernel
theorem dX11_can_10 : decode cX11_can 10 = .ok (.getfield 115, 3) := by decide +kernel
theorem dX11_can_13 : decode cX11_can 13 = .ok (.ishl, 1) := by decide +kernel
theorem dX11_can_14 : decode cX11_can 14 = .ok (.if_icmp .lt 5, 3) := by decide +kernel
theorem dX11_can_17 : decode cX11_can 17 = .ok (.iconst (-1), 1) := by decide +kernel
theorem dX11_can_18 : decode cX11_can 18 = .ok (.ireturn, 1) := by decide +kernel
theorem dX11_can_19 : decode cX11_can 19 = .ok (.aload_n 0, 1) := by decide +kernel
theorem dX11_can_20 : decode cX11_can 20 = .ok (.getfield 24, 3) := by decide +kernel
theorem dX11_can_23 : decode cX11_can 23 = .ok (.iload_n 1, 1) := by decide +kernel
theorem dX11_can_24 : decode cX11_can 24 = .ok (.invokevirtual 263, 3) := by decide +kernel
theorem dX11_can_27 : decode cX11_can 27 = .ok (.istore_n 2, 1) := by decide +kernel
theorem dX11_can_28 : decode cX11_can 28 = .ok (.aload_n 0, 1) := by decide +kernel
theorem dX11_can_29 : decode cX11_can 29 = .ok (.iload_n 2, 1) := by decide +kernel
theorem dX11_can_30 : decode cX11_can 30 = .ok (.iload_n 2, 1) := by decide +kernel
theorem dX11_can_31 : decode cX11_can 31 = .ok (.bipush 70, 2) := by decide +kernel
theorem dX11_can_33 : decode cX11_can 33 = .ok (.if_icmp .gt 7, 3) := by decide +kernel
theorem dX11_can_36 : decode cX11_can 36 = .ok (.iconst 1, 1) := by decide +kernel
theorem dX11_can_37 : decode cX11_can 37 = .ok (.goto 4, 3) := by decide +kernel
theorem dX11_can_40 : decode cX11_can 40 = .ok (.iconst 0, 1) := by decide +kernel
theorem dX11_can_41 : decode cX11_can 41 = .ok (.invokevirtual 82, 3) := by decide +kernel
theorem dX11_can_44 : decode cX11_can 44 = .ok (.ireturn, 1) := by decide +kernel
theorem dX11_reads_0 : decode cX11_reads 0 = .ok (.iload_n 1, 1) := by decide +kernel
theorem dX11_reads_1 : decode cX11_reads 1 = .ok (.iconst 5, 1) := by decide +kernel
theorem dX11_reads_2 : decode cX11_reads 2 = .ok (.invokestatic 64, 3) := by decide +kernel
theorem dX11_reads_5 : decode cX11_reads 5 = .ok (.ifCond .eq 14, 3) := by decide +kernel
theorem dX11_reads_8 : decode cX11_reads 8 = .ok (.aload_n 0, 1) := by decide +kernel
theorem dX11_reads_9 : decode cX11_reads 9 = .ok (.getfield 24, 3) := by decide +kernel
theorem dX11_reads_12 : decode cX11_reads 12 = .ok (.iload_n 2, 1) := by decide +kernel
theorem dX11_reads_13 : decode cX11_reads 13 = .ok (.invokevirtual 135, 3) := by decide +kernel
theorem dX11_reads_16 : decode cX11_reads 16 = .ok (.ifCond .ne 5, 3) := by decide +kernel
theorem dX11_reads_19 : decode cX11_reads 19 = .ok (.iconst (-1), 1) := by decide +kernel
theorem dX11_reads_20 : decode cX11_reads 20 = .ok (.ireturn, 1) := by decide +kernel
theorem dX11_reads_21 : decode cX11_reads 21 = .ok (.iload_n 3, 1) := by decide +kernel
theorem dX11_reads_22 : decode cX11_reads 22 = .ok (.bipush (-9), 2) := by decide +kernel
theorem dX11_reads_24 : decode cX11_reads 24 = .ok (.if_icmp .eq 13, 3) := by decide +kernel
theorem dX11_reads_27 : decode cX11_reads 27 = .ok (.iload_n 3, 1) := by decide +kernel
theorem dX11_reads_28 : decode cX11_reads 28 = .ok (.iconst 2, 1) := by decide +kernel
theorem dX11_reads_29 : decode cX11_reads 29 = .ok (.invokestatic 64, 3) := by decide +kernel
theorem dX11_reads_32 : decode cX11_reads 32 = .ok (.ifCond .ne 5, 3) := by decide +kernel
theorem dX11_reads_35 : decode cX11_reads 35 = .ok (.iconst (-1), 1) := by decide +kernel
theorem dX11_reads_36 : decode cX11_reads 36 = .ok (.ireturn, 1) := by decide +kernel
theorem dX11_reads_37 : decode cX11_reads 37 = .ok (.aload_n 0, 1) := by decide +kernel
theorem dX11_reads_38 : decode cX11_reads 38 = .ok (.getfield 24, 3) := by decide +kernel
theorem dX11_reads_41 : decode cX11_reads 41 = .ok (.getfield 138, 3) := by decide +kernel
theorem dX11_reads_44 : decode cX11_reads 44 = .ok (.iload_n 2, 1) := by decide +kernel
theorem dX11_reads_45 : decode cX11_reads 45 = .ok (.aaload, 1) := by decide +kernel
theorem dX11_reads_46 : decode cX11_reads 46 = .ok (.getfield 266, 3) := by decide +kernel
theorem dX11_reads_49 : decode cX11_reads 49 = .ok (.astore 4, 2) := by decide +kernel
theorem dX11_reads_51 : decode cX11_reads 51 = .ok (.aload 4, 2) := by decide +kernel
theorem dX11_reads_53 : decode cX11_reads 53 = .ok (.iload_n 1, 1) := by decide +kernel
theorem dX11_reads_54 : decode cX11_reads 54 = .ok (.iaload, 1) := by decide +kernel
theorem dX11_reads_55 : decode cX11_reads 55 = .ok (.istore 5, 2) := by decide +kernel
theorem dX11_reads_57 : decode cX11_reads 57 = .ok (.aload 4, 2) := by decide +kernel
theorem dX11_reads_59 : decode cX11_reads 59 = .ok (.iload_n 1, 1) := by decide +kernel
theorem dX11_reads_60 : decode cX11_reads 60 = .ok (.iload_n 3, 1) := by decide +kernel
theorem dX11_reads_61 : decode cX11_reads 61 = .ok (.iastore, 1) := by decide +kernel
theorem dX11_reads_62 : decode cX11_reads 62 = .ok (.iload 5, 2) := by decide +kernel
theorem dX11_reads_64 : decode cX11_reads 64 = .ok (.ireturn, 1) := by decide +kernel
theorem dX11_reading_0 : decode cX11_reading 0 = .ok (.aload_n 0, 1) := by decide +kernel
theorem dX11_reading_1 : decode cX11_reading 1 = .ok (.getfield 24, 3) := by decide +kernel
theorem dX11_reading_4 : decode cX11_reading 4 = .ok (.iload_n 1, 1) := by decide +kernel
theorem dX11_reading_5 : decode cX11_reading 5 = .ok (.invokevirtual 135, 3) := by decide +kernel
theorem dX11_reading_8 : decode cX11_reading 8 = .ok (.ifCond .ne 5, 3) := by decide +kernel
theorem dX11_reading_11 : decode cX11_reading 11 = .ok (.iconst (-1), 1) := by decide +kernel
theorem dX11_reading_12 : decode cX11_reading 12 = .ok (.ireturn, 1) := by decide +kernel
theorem dX11_reading_13 : decode cX11_reading 13 = .ok (.aload_n 0, 1) := by decide +kernel
theorem dX11_reading_14 : decode cX11_reading 14 = .ok (.getfield 24, 3) := by decide +kernel
theorem dX11_reading_17 : decode cX11_reading 17 = .ok (.getfield 138, 3) := by decide +kernel
theorem dX11_reading_20 : decode cX11_reading 20 = .ok (.iload_n 1, 1) := by decide +kernel
theorem dX11_reading_21 : decode cX11_reading 21 = .ok (.aaload, 1) := by decide +kernel
theorem dX11_reading_22 : decode cX11_reading 22 = .ok (.astore_n 2, 1) := by decide +kernel
theorem dX11_reading_23 : decode cX11_reading 23 = .ok (.aload_n 2, 1) := by decide +kernel
theorem dX11_reading_24 : decode cX11_reading 24 = .ok (.iconst 1, 1) := by decide +kernel
theorem dX11_reading_25 : decode cX11_reading 25 = .ok (.invokevirtual 269, 3) := by decide +kernel
theorem dX11_reading_28 : decode cX11_reading 28 = .ok (.istore_n 3, 1) := by decide +kernel
theorem dX11_reading_29 : decode cX11_reading 29 = .ok (.aload_n 2, 1) := by decide +kernel
theorem dX11_reading_30 : decode cX11_reading 30 = .ok (.iconst 0, 1) := by decide +kernel
theorem dX11_reading_31 : decode cX11_reading 31 = .ok (.invokevirtual 269, 3) := by decide +kernel
theorem dX11_reading_34 : decode cX11_reading 34 = .ok (.istore 4, 2) := by decide +kernel
theorem dX11_reading_36 : decode cX11_reading 36 = .ok (.aload_n 0, 1) := by decide +kernel
theorem dX11_reading_37 : decode cX11_reading 37 = .ok (.iload_n 3, 1) := by decide +kernel
theorem dX11_reading_38 : decode cX11_reading 38 = .ok (.iload 4, 2) := by decide +kernel
theorem dX11_reading_40 : decode cX11_reading 40 = .ok (.iadd, 1) := by decide +kernel
theorem dX11_reading_41 : decode cX11_reading 41 = .ok (.iload_n 3, 1) := by decide +kernel
theorem dX11_reading_42 : decode cX11_reading 42 = .ok (.iload 4, 2) := by decide +kernel
theorem dX11_reading_44 : decode cX11_reading 44 = .ok (.if_icmp .ne 10, 3) := by decide +kernel
theorem dX11_reading_47 : decode cX11_reading 47 = .ok (.aload_n 2, 1) := by decide +kernel
theorem dX11_reading_48 : decode cX11_reading 48 = .ok (.getfield 272, 3) := by decide +kernel
theorem dX11_reading_51 : decode cX11_reading 51 = .ok (.goto 14, 3) := by decide +kernel
theorem dX11_reading_54 : decode cX11_reading 54 = .ok (.iload_n 3, 1) := by decide +kernel
theorem dX11_reading_55 : decode cX11_reading 55 = .ok (.iload 4, 2) := by decide +kernel
theorem dX11_reading_57 : decode cX11_reading 57 = .ok (.if_icmp .le 7, 3) := by decide +kernel
theorem dX11_reading_60 : decode cX11_reading 60 = .ok (.iconst 1, 1) := by decide +kernel
theorem dX11_reading_61 : decode cX11_reading 61 = .ok (.goto 4, 3) := by decide +kernel
theorem dX11_reading_64 : decode cX11_reading 64 = .ok (.iconst 0, 1) := by decide +kernel
theorem dX11_reading_65 : decode cX11_reading 65 = .ok (.invokevirtual 82, 3) := by decide +kernel
theorem dX11_reading_68 : decode cX11_reading 68 = .ok (.ireturn, 1) := by decide +kernel
theorem dX11_slip_0 : decode cX11_slip 0 = .ok (.iload_n 1, 1) := by decide +kernel
theorem dX11_slip_1 : decode cX11_slip 1 = .ok (.iconst 1, 1) := by decide +kernel
theorem dX11_slip_2 : decode cX11_slip 2 = .ok (.if_icmp .lt 29, 3) := by decide +kernel
theorem dX11_slip_5 : decode cX11_slip 5 = .ok (.iload_n 1, 1) := by decide +kernel
theorem dX11_slip_6 : decode cX11_slip 6 = .ok (.bipush 12, 2) := by decide +kernel
theorem dX11_slip_8 : decode cX11_slip 8 = .ok (.if_icmp .gt 23, 3) := by decide +kernel
theorem dX11_slip_11 : decode cX11_slip 11 = .ok (.iload_n 2, 1) := by decide +kernel
theorem dX11_slip_12 : decode cX11_slip 12 = .ok (.iconst 2, 1) := by decide +kernel
theorem dX11_slip_13 : decode cX11_slip 13 = .ok (.if_icmp .lt 18, 3) := by decide +kernel
theorem dX11_slip_16 : decode cX11_slip 16 = .ok (.iload_n 2, 1) := by decide +kernel
theorem dX11_slip_17 : decode cX11_slip 17 = .ok (.bipush 9, 2) := by decide +kernel
theorem dX11_slip_19 : decode cX11_slip 19 = .ok (.if_icmp .gt 12, 3) := by decide +kernel
theorem dX11_slip_22 : decode cX11_slip 22 = .ok (.iload_n 3, 1) := by decide +kernel
theorem dX11_slip_23 : decode cX11_slip 23 = .ok (.ifCond .lt 8, 3) := by decide +kernel
theorem dX11_slip_26 : decode cX11_slip 26 = .ok (.iload_n 3, 1) := by decide +kernel
theorem dX11_slip_27 : decode cX11_slip 27 = .ok (.iload_n 1, 1) := by decide +kernel
theorem dX11_slip_28 : decode cX11_slip 28 = .ok (.if_icmp .le 5, 3) := by decide +kernel
theorem dX11_slip_31 : decode cX11_slip 31 = .ok (.iconst (-1), 1) := by decide +kernel
theorem dX11_slip_32 : decode cX11_slip 32 = .ok (.ireturn, 1) := by decide +kernel
theorem dX11_slip_33 : decode cX11_slip 33 = .ok (.lconst 1, 1) := by decide +kernel
theorem dX11_slip_34 : decode cX11_slip 34 = .ok (.lstore 4, 2) := by decide +kernel
theorem dX11_slip_36 : decode cX11_slip 36 = .ok (.lconst 1, 1) := by decide +kernel
theorem dX11_slip_37 : decode cX11_slip 37 = .ok (.lstore 6, 2) := by decide +kernel
theorem dX11_slip_39 : decode cX11_slip 39 = .ok (.lconst 0, 1) := by decide +kernel
theorem dX11_slip_40 : decode cX11_slip 40 = .ok (.lstore 8, 2) := by decide +kernel
theorem dX11_slip_42 : decode cX11_slip 42 = .ok (.iload_n 1, 1) := by decide +kernel
theorem dX11_slip_43 : decode cX11_slip 43 = .ok (.istore 10, 2) := by decide +kernel
theorem dX11_slip_45 : decode cX11_slip 45 = .ok (.iload 10, 2) := by decide +kernel
theorem dX11_slip_47 : decode cX11_slip 47 = .ok (.iload_n 3, 1) := by decide +kernel
theorem dX11_slip_48 : decode cX11_slip 48 = .ok (.if_icmp .lt 44, 3) := by decide +kernel
theorem dX11_slip_51 : decode cX11_slip 51 = .ok (.lload 8, 2) := by decide +kernel
theorem dX11_slip_53 : decode cX11_slip 53 = .ok (.lload 4, 2) := by decide +kernel
theorem dX11_slip_55 : decode cX11_slip 55 = .ok (.lload 6, 2) := by decide +kernel
theorem dX11_slip_57 : decode cX11_slip 57 = .ok (.lmul, 1) := by decide +kernel
theorem dX11_slip_58 : decode cX11_slip 58 = .ok (.ladd, 1) := by decide +kernel
theorem dX11_slip_59 : decode cX11_slip 59 = .ok (.lstore 8, 2) := by decide +kernel
theorem dX11_slip_61 : decode cX11_slip 61 = .ok (.lload 4, 2) := by decide +kernel
theorem dX11_slip_63 : decode cX11_slip 63 = .ok (.iload 10, 2) := by decide +kernel
theorem dX11_slip_65 : decode cX11_slip 65 = .ok (.i2l, 1) := by decide +kernel
theorem dX11_slip_66 : decode cX11_slip 66 = .ok (.lmul, 1) := by decide +kernel
theorem dX11_slip_67 : decode cX11_slip 67 = .ok (.iload_n 1, 1) := by decide +kernel
theorem dX11_slip_68 : decode cX11_slip 68 = .ok (.iload 10, 2) := by decide +kernel
theorem dX11_slip_70 : decode cX11_slip 70 = .ok (.isub, 1) := by decide +kernel
theorem dX11_slip_71 : decode cX11_slip 71 = .ok (.iconst 1, 1) := by decide +kernel
theorem dX11_slip_72 : decode cX11_slip 72 = .ok (.iadd, 1) := by decide +kernel
theorem dX11_slip_73 : decode cX11_slip 73 = .ok (.i2l, 1) := by decide +kernel
theorem dX11_slip_74 : decode cX11_slip 74 = .ok (.ldiv, 1) := by decide +kernel
theorem dX11_slip_75 : decode cX11_slip 75 = .ok (.lstore 4, 2) := by decide +kernel
theorem dX11_slip_77 : decode cX11_slip 77 = .ok (.lload 6, 2) := by decide +kernel
theorem dX11_slip_79 : decode cX11_slip 79 = .ok (.iload_n 2, 1) := by decide +kernel
theorem dX11_slip_80 : decode cX11_slip 80 = .ok (.iconst 1, 1) := by decide +kernel
theorem dX11_slip_81 : decode cX11_slip 81 = .ok (.isub, 1) := by decide +kernel
theorem dX11_slip_82 : decode cX11_slip 82 = .ok (.i2l, 1) := by decide +kernel
theorem dX11_slip_83 : decode cX11_slip 83 = .ok (.lmul, 1) := by decide +kernel
theorem dX11_slip_84 : decode cX11_slip 84 = .ok (.lstore 6, 2) := by decide +kernel
theorem dX11_slip_86 : decode cX11_slip 86 = .ok (.iinc 10 (-1), 3) := by decide +kernel
theorem dX11_slip_89 : decode cX11_slip 89 = .ok (.goto (-44), 3) := by decide +kernel
theorem dX11_slip_92 : decode cX11_slip 92 = .ok (.lconst 1, 1) := by decide +kernel
theorem dX11_slip_93 : decode cX11_slip 93 = .ok (.lstore 10, 2) := by decide +kernel
theorem dX11_slip_95 : decode cX11_slip 95 = .ok (.iconst 0, 1) := by decide +kernel
theorem dX11_slip_96 : decode cX11_slip 96 = .ok (.istore 12, 2) := by decide +kernel
theorem dX11_slip_98 : decode cX11_slip 98 = .ok (.iload 12, 2) := by decide +kernel
theorem dX11_slip_100 : decode cX11_slip 100 = .ok (.iload_n 1, 1) := by decide +kernel
theorem dX11_slip_101 : decode cX11_slip 101 = .ok (.if_icmp .ge 16, 3) := by decide +kernel
theorem dX11_slip_104 : decode cX11_slip 104 = .ok (.lload 10, 2) := by decide +kernel
theorem dX11_slip_106 : decode cX11_slip 106 = .ok (.iload_n 2, 1) := by decide +kernel
theorem dX11_slip_107 : decode cX11_slip 107 = .ok (.i2l, 1) := by decide +kernel
theorem dX11_slip_108 : decode cX11_slip 108 = .ok (.lmul, 1) := by decide +kernel
theorem dX11_slip_109 : decode cX11_slip 109 = .ok (.lstore 10, 2) := by decide +kernel
theorem dX11_slip_111 : decode cX11_slip 111 = .ok (.iinc 12 1, 3) := by decide +kernel
theorem dX11_slip_114 : decode cX11_slip 114 = .ok (.goto (-16), 3) := by decide +kernel
theorem dX11_slip_117 : decode cX11_slip 117 = .ok (.aload_n 0, 1) := by decide +kernel
theorem dX11_slip_118 : decode cX11_slip 118 = .ok (.lload 8, 2) := by decide +kernel
theorem dX11_slip_120 : decode cX11_slip 120 = .ok (.lload 10, 2) := by decide +kernel
theorem dX11_slip_122 : decode cX11_slip 122 = .ok (.invokevirtual 275, 3) := by decide +kernel
theorem dX11_slip_125 : decode cX11_slip 125 = .ok (.iconst 1, 1) := by decide +kernel
theorem dX11_slip_126 : decode cX11_slip 126 = .ok (.ireturn, 1) := by decide +kernel
theorem dX11_runs_0 : decode cX11_runs 0 = .ok (.aload_n 0, 1) := by decide +kernel
theorem dX11_runs_1 : decode cX11_runs 1 = .ok (.getfield 24, 3) := by decide +kernel
theorem dX11_runs_4 : decode cX11_runs 4 = .ok (.iload_n 1, 1) := by decide +kernel
theorem dX11_runs_5 : decode cX11_runs 5 = .ok (.invokevirtual 135, 3) := by decide +kernel
theorem dX11_runs_8 : decode cX11_runs 8 = .ok (.ifCond .ne 5, 3) := by decide +kernel
theorem dX11_runs_11 : decode cX11_runs 11 = .ok (.iconst (-1), 1) := by decide +kernel
theorem dX11_runs_12 : decode cX11_runs 12 = .ok (.ireturn, 1) := by decide +kernel
theorem dX11_runs_13 : decode cX11_runs 13 = .ok (.aload_n 0, 1) := by decide +kernel
theorem dX11_runs_14 : decode cX11_runs 14 = .ok (.getfield 24, 3) := by decide +kernel
theorem dX11_runs_17 : decode cX11_runs 17 = .ok (.getfield 138, 3) := by decide +kernel
theorem dX11_runs_20 : decode cX11_runs 20 = .ok (.iload_n 1, 1) := by decide +kernel
theorem dX11_runs_21 : decode cX11_runs 21 = .ok (.aaload, 1) := by decide +kernel
theorem dX11_runs_22 : decode cX11_runs 22 = .ok (.astore_n 2, 1) := by decide +kernel
theorem dX11_runs_23 : decode cX11_runs 23 = .ok (.aload_n 0, 1) := by decide +kernel
theorem dX11_runs_24 : decode cX11_runs 24 = .ok (.getfield 24, 3) := by decide +kernel
theorem dX11_runs_27 : decode cX11_runs 27 = .ok (.invokevirtual 188, 3) := by decide +kernel
theorem dX11_runs_30 : decode cX11_runs 30 = .ok (.aload_n 2, 1) := by decide +kernel
theorem dX11_runs_31 : decode cX11_runs 31 = .ok (.getfield 279, 3) := by decide +kernel
theorem dX11_runs_34 : decode cX11_runs 34 = .ok (.aaload, 1) := by decide +kernel
theorem dX11_runs_35 : decode cX11_runs 35 = .ok (.getfield 192, 3) := by decide +kernel
theorem dX11_runs_38 : decode cX11_runs 38 = .ok (.getfield 203, 3) := by decide +kernel
theorem dX11_runs_41 : decode cX11_runs 41 = .ok (.istore_n 3, 1) := by decide +kernel
theorem dX11_runs_42 : decode cX11_runs 42 = .ok (.aload_n 0, 1) := by decide +kernel
theorem dX11_runs_43 : decode cX11_runs 43 = .ok (.getfield 24, 3) := by decide +kernel
theorem dX11_runs_46 : decode cX11_runs 46 = .ok (.iload_n 1, 1) := by decide +kernel
theorem dX11_runs_47 : decode cX11_runs 47 = .ok (.invokevirtual 282, 3) := by decide +kernel
theorem dX11_runs_50 : decode cX11_runs 50 = .ok (.istore 4, 2) := by decide +kernel
theorem dX11_runs_52 : decode cX11_runs 52 = .ok (.iload_n 3, 1) := by decide +kernel
theorem dX11_runs_53 : decode cX11_runs 53 = .ok (.iload 4, 2) := by decide +kernel
theorem dX11_runs_55 : decode cX11_runs 55 = .ok (.if_icmp .ne 10, 3) := by decide +kernel
theorem dX11_runs_58 : decode cX11_runs 58 = .ok (.aload_n 0, 1) := by decide +kernel
theorem dX11_runs_59 : decode cX11_runs 59 = .ok (.iconst 0, 1) := by decide +kernel
theorem dX11_runs_60 : decode cX11_runs 60 = .ok (.iconst 2, 1) := by decide +kernel
theorem dX11_runs_61 : decode cX11_runs 61 = .ok (.invokevirtual 82, 3) := by decide +kernel
theorem dX11_runs_64 : decode cX11_runs 64 = .ok (.ireturn, 1) := by decide +kernel
theorem dX11_runs_65 : decode cX11_runs 65 = .ok (.aload_n 0, 1) := by decide +kernel
theorem dX11_runs_66 : decode cX11_runs 66 = .ok (.iload_n 3, 1) := by decide +kernel
theorem dX11_runs_67 : decode cX11_runs 67 = .ok (.iload 4, 2) := by decide +kernel
theorem dX11_runs_69 : decode cX11_runs 69 = .ok (.isub, 1) := by decide +kernel
theorem dX11_runs_70 : decode cX11_runs 70 = .ok (.invokestatic 285, 3) := by decide +kernel
theorem dX11_runs_73 : decode cX11_runs 73 = .ok (.iload_n 3, 1) := by decide +kernel
theorem dX11_runs_74 : decode cX11_runs 74 = .ok (.iload 4, 2) := by decide +kernel
theorem dX11_runs_76 : decode cX11_runs 76 = .ok (.if_icmp .ge 10, 3) := by decide +kernel
theorem dX11_runs_79 : decode cX11_runs 79 = .ok (.aload_n 2, 1) := by decide +kernel
theorem dX11_runs_80 : decode cX11_runs 80 = .ok (.getfield 272, 3) := by decide +kernel
theorem dX11_runs_83 : decode cX11_runs 83 = .ok (.goto 9, 3) := by decide +kernel
theorem dX11_runs_86 : decode cX11_runs 86 = .ok (.iconst 1, 1) := by decide +kernel
theorem dX11_runs_87 : decode cX11_runs 87 = .ok (.aload_n 2, 1) := by decide +kernel
theorem dX11_runs_88 : decode cX11_runs 88 = .ok (.getfield 272, 3) := by decide +kernel
theorem dX11_runs_91 : decode cX11_runs 91 = .ok (.isub, 1) := by decide +kernel
theorem dX11_runs_92 : decode cX11_runs 92 = .ok (.invokevirtual 82, 3) := by decide +kernel
theorem dX11_runs_95 : decode cX11_runs 95 = .ok (.ireturn, 1) := by decide +kernel
theorem dX11_move_0 : decode cX11_move 0 = .ok (.aload_n 0, 1) := by decide +kernel
theorem dX11_move_1 : decode cX11_move 1 = .ok (.getfield 24, 3) := by decide +kernel
theorem dX11_move_4 : decode cX11_move 4 = .ok (.iload_n 1, 1) := by decide +kernel
theorem dX11_move_5 : decode cX11_move 5 = .ok (.invokevirtual 135, 3) := by decide +kernel
theorem dX11_move_8 : decode cX11_move 8 = .ok (.ifCond .eq 25, 3) := by decide +kernel
theorem dX11_move_11 : decode cX11_move 11 = .ok (.iload_n 2, 1) := by decide +kernel
theorem dX11_move_12 : decode cX11_move 12 = .ok (.bipush 7, 2) := by decide +kernel
theorem dX11_move_14 : decode cX11_move 14 = .ok (.invokestatic 64, 3) := by decide +kernel
theorem dX11_move_17 : decode cX11_move 17 = .ok (.ifCond .eq 16, 3) := by decide +kernel
theorem dX11_move_20 : decode cX11_move 20 = .ok (.aload_n 0, 1) := by decide +kernel
theorem dX11_move_21 : decode cX11_move 21 = .ok (.getfield 33, 3) := by decide +kernel
theorem dX11_move_24 : decode cX11_move 24 = .ok (.iload_n 1, 1) := by decide +kernel
theorem dX11_move_25 : decode cX11_move 25 = .ok (.iload_n 2, 1) := by decide +kernel
theorem dX11_move_26 : decode cX11_move 26 = .ok (.iload_n 3, 1) := by decide +kernel
theorem dX11_move_27 : decode cX11_move 27 = .ok (.invokevirtual 288, 3) := by decide +kernel
theorem dX11_move_30 : decode cX11_move 30 = .ok (.ifCond .ne 5, 3) := by decide +kernel
theorem dX11_move_33 : decode cX11_move 33 = .ok (.iconst (-1), 1) := by decide +kernel
theorem dX11_move_34 : decode cX11_move 34 = .ok (.ireturn, 1) := by decide +kernel
theorem dX11_move_35 : decode cX11_move 35 = .ok (.aload_n 0, 1) := by decide +kernel
theorem dX11_move_36 : decode cX11_move 36 = .ok (.getfield 33, 3) := by decide +kernel
theorem dX11_move_39 : decode cX11_move 39 = .ok (.getfield 292, 3) := by decide +kernel
theorem dX11_move_42 : decode cX11_move 42 = .ok (.bipush 40, 2) := by decide +kernel
theorem dX11_move_44 : decode cX11_move 44 = .ok (.if_icmp .ne 6, 3) := by decide +kernel
theorem dX11_move_47 : decode cX11_move 47 = .ok (.bipush (-2), 2) := by decide +kernel
theorem dX11_move_49 : decode cX11_move 49 = .ok (.ireturn, 1) := by decide +kernel
theorem dX11_move_50 : decode cX11_move 50 = .ok (.aload_n 0, 1) := by decide +kernel
theorem dX11_move_51 : decode cX11_move 51 = .ok (.getfield 33, 3) := by decide +kernel
theorem dX11_move_54 : decode cX11_move 54 = .ok (.iload_n 1, 1) := by decide +kernel
theorem dX11_move_55 : decode cX11_move 55 = .ok (.iload_n 2, 1) := by decide +kernel
theorem dX11_move_56 : decode cX11_move 56 = .ok (.iload_n 3, 1) := by decide +kernel
theorem dX11_move_57 : decode cX11_move 57 = .ok (.invokevirtual 295, 3) := by decide +kernel
theorem dX11_move_60 : decode cX11_move 60 = .ok (.ireturn, 1) := by decide +kernel
theorem dX11_moved_0 : decode cX11_moved 0 = .ok (.iload_n 1, 1) := by decide +kernel
theorem dX11_moved_1 : decode cX11_moved 1 = .ok (.aload_n 0, 1) := by decide +kernel
theorem dX11_moved_2 : decode cX11_moved 2 = .ok (.getfield 33, 3) := by decide +kernel
theorem dX11_moved_5 : decode cX11_moved 5 = .ok (.getfield 292, 3) := by decide +kernel
theorem dX11_moved_8 : decode cX11_moved 8 = .ok (.invokestatic 64, 3) := by decide +kernel
theorem dX11_moved_11 : decode cX11_moved 11 = .ok (.ifCond .eq 11, 3) := by decide +kernel
theorem dX11_moved_14 : decode cX11_moved 14 = .ok (.iload_n 2, 1) := by decide +kernel
theorem dX11_moved_15 : decode cX11_moved 15 = .ok (.iconst 3, 1) := by decide +kernel
theorem dX11_moved_16 : decode cX11_moved 16 = .ok (.invokestatic 64, 3) := by decide +kernel
theorem dX11_moved_19 : decode cX11_moved 19 = .ok (.ifCond .ne 5, 3) := by decide +kernel
theorem dX11_moved_22 : decode cX11_moved 22 = .ok (.iconst (-1), 1) := by decide +kernel
theorem dX11_moved_23 : decode cX11_moved 23 = .ok (.ireturn, 1) := by decide +kernel
theorem dX11_moved_24 : decode cX11_moved 24 = .ok (.aload_n 0, 1) := by decide +kernel
theorem dX11_moved_25 : decode cX11_moved 25 = .ok (.aload_n 0, 1) := by decide +kernel
theorem dX11_moved_26 : decode cX11_moved 26 = .ok (.getfield 33, 3) := by decide +kernel
theorem dX11_moved_29 : decode cX11_moved 29 = .ok (.getfield 298, 3) := by decide +kernel
theorem dX11_moved_32 : decode cX11_moved 32 = .ok (.iload_n 1, 1) := by decide +kernel
theorem dX11_moved_33 : decode cX11_moved 33 = .ok (.aaload, 1) := by decide +kernel
theorem dX11_moved_34 : decode cX11_moved 34 = .ok (.iload_n 2, 1) := by decide +kernel
theorem dX11_moved_35 : decode cX11_moved 35 = .ok (.invokevirtual 302, 3) := by decide +kernel
theorem dX11_moved_38 : decode cX11_moved 38 = .ok (.iconst 1, 1) := by decide +kernel
theorem dX11_moved_39 : decode cX11_moved 39 = .ok (.invokevirtual 82, 3) := by decide +kernel
theorem dX11_moved_42 : decode cX11_moved 42 = .ok (.ireturn, 1) := by decide +kernel
theorem dX11_mark_0 : decode cX11_mark 0 = .ok (.iload_n 1, 1) := by decide +kernel
theorem dX11_mark_1 : decode cX11_mark 1 = .ok (.aload_n 0, 1) := by decide +kernel
theorem dX11_mark_2 : decode cX11_mark 2 = .ok (.getfield 33, 3) := by decide +kernel
theorem dX11_mark_5 : decode cX11_mark 5 = .ok (.getfield 292, 3) := by decide +kernel
theorem dX11_mark_8 : decode cX11_mark 8 = .ok (.invokestatic 64, 3) := by decide +kernel
theorem dX11_mark_11 : decode cX11_mark 11 = .ok (.ifCond .eq 16, 3) := by decide +kernel
theorem dX11_mark_14 : decode cX11_mark 14 = .ok (.iload_n 2, 1) := by decide +kernel
theorem dX11_mark_15 : decode cX11_mark 15 = .ok (.bipush 7, 2) := by decide +kernel
theorem dX11_mark_17 : decode cX11_mark 17 = .ok (.invokestatic 64, 3) := by decide +kernel
theorem dX11_mark_20 : decode cX11_mark 20 = .ok (.ifCond .eq 7, 3) := by decide +kernel
theorem dX11_mark_23 : decode cX11_mark 23 = .ok (.iload_n 2, 1) := by decide +kernel
theorem dX11_mark_24 : decode cX11_mark 24 = .ok (.ifCond .ne 5, 3) := by decide +kernel
theorem dX11_mark_27 : decode cX11_mark 27 = .ok (.iconst (-1), 1) := by decide +kernel
theorem dX11_mark_28 : decode cX11_mark 28 = .ok (.ireturn, 1) := by decide +kernel
theorem dX11_mark_29 : decode cX11_mark 29 = .ok (.aload_n 0, 1) := by decide +kernel
theorem dX11_mark_30 : decode cX11_mark 30 = .ok (.getfield 33, 3) := by decide +kernel
theorem dX11_mark_33 : decode cX11_mark 33 = .ok (.getfield 298, 3) := by decide +kernel
theorem dX11_mark_36 : decode cX11_mark 36 = .ok (.iload_n 1, 1) := by decide +kernel
theorem dX11_mark_37 : decode cX11_mark 37 = .ok (.aaload, 1) := by decide +kernel
theorem dX11_mark_38 : decode cX11_mark 38 = .ok (.getfield 305, 3) := by decide +kernel
theorem dX11_mark_41 : decode cX11_mark 41 = .ok (.iload_n 2, 1) := by decide +kernel
theorem dX11_mark_42 : decode cX11_mark 42 = .ok (.if_icmp .eq 9, 3) := by decide +kernel
theorem dX11_mark_45 : decode cX11_mark 45 = .ok (.aload_n 0, 1) := by decide +kernel
theorem dX11_mark_46 : decode cX11_mark 46 = .ok (.iconst 3, 1) := by decide +kernel
theorem dX11_mark_47 : decode cX11_mark 47 = .ok (.invokevirtual 68, 3) := by decide +kernel
theorem dX11_mark_50 : decode cX11_mark 50 = .ok (.ireturn, 1) := by decide +kernel
theorem dX11_mark_51 : decode cX11_mark 51 = .ok (.aload_n 0, 1) := by decide +kernel
theorem dX11_mark_52 : decode cX11_mark 52 = .ok (.getfield 33, 3) := by decide +kernel
theorem dX11_mark_55 : decode cX11_mark 55 = .ok (.aload_n 0, 1) := by decide +kernel
theorem dX11_mark_56 : decode cX11_mark 56 = .ok (.getfield 33, 3) := by decide +kernel
theorem dX11_mark_59 : decode cX11_mark 59 = .ok (.getfield 298, 3) := by decide +kernel
theorem dX11_mark_62 : decode cX11_mark 62 = .ok (.iload_n 1, 1) := by decide +kernel
theorem dX11_mark_63 : decode cX11_mark 63 = .ok (.aaload, 1) := by decide +kernel
theorem dX11_mark_64 : decode cX11_mark 64 = .ok (.aload_n 0, 1) := by decide +kernel
theorem dX11_mark_65 : decode cX11_mark 65 = .ok (.getfield 24, 3) := by decide +kernel
theorem dX11_mark_68 : decode cX11_mark 68 = .ok (.invokevirtual 188, 3) := by decide +kernel
theorem dX11_mark_71 : decode cX11_mark 71 = .ok (.invokevirtual 308, 3) := by decide +kernel
theorem dX11_mark_74 : decode cX11_mark 74 = .ok (.ireturn, 1) := by decide +kernel
theorem dX11_follow_0 : decode cX11_follow 0 = .ok (.aload_n 0, 1) := by decide +kernel
theorem dX11_follow_1 : decode cX11_follow 1 = .ok (.getfield 33, 3) := by decide +kernel
theorem dX11_follow_4 : decode cX11_follow 4 = .ok (.aload_n 0, 1) := by decide +kernel
theorem dX11_follow_5 : decode cX11_follow 5 = .ok (.getfield 24, 3) := by decide +kernel
theorem dX11_follow_8 : decode cX11_follow 8 = .ok (.invokevirtual 188, 3) := by decide +kernel
theorem dX11_follow_11 : decode cX11_follow 11 = .ok (.invokevirtual 312, 3) := by decide +kernel
theorem dX11_follow_14 : decode cX11_follow 14 = .ok (.aload_n 0, 1) := by decide +kernel
theorem dX11_follow_15 : decode cX11_follow 15 = .ok (.aload_n 0, 1) := by decide +kernel
theorem dX11_follow_16 : decode cX11_follow 16 = .ok (.getfield 33, 3) := by decide +kernel
theorem dX11_follow_19 : decode cX11_follow 19 = .ok (.getfield 316, 3) := by decide +kernel
theorem dX11_follow_22 : decode cX11_follow 22 = .ok (.aload_n 0, 1) := by decide +kernel
theorem dX11_follow_23 : decode cX11_follow 23 = .ok (.getfield 33, 3) := by decide +kernel
theorem dX11_follow_26 : decode cX11_follow 26 = .ok (.getfield 319, 3) := by decide +kernel
theorem dX11_follow_29 : decode cX11_follow 29 = .ok (.invokevirtual 82, 3) := by decide +kernel
theorem dX11_follow_32 : decode cX11_follow 32 = .ok (.ireturn, 1) := by decide +kernel
theorem dX11_law_0 : decode cX11_law 0 = .ok (.iload_n 1, 1) := by decide +kernel
theorem dX11_law_1 : decode cX11_law 1 = .ok (.iconst 3, 1) := by decide +kernel
theorem dX11_law_2 : decode cX11_law 2 = .ok (.invokestatic 64, 3) := by decide +kernel
theorem dX11_law_5 : decode cX11_law 5 = .ok (.ifCond .eq 12, 3) := by decide +kernel
theorem dX11_law_8 : decode cX11_law 8 = .ok (.iload_n 2, 1) := by decide +kernel
theorem dX11_law_9 : decode cX11_law 9 = .ok (.bipush 32, 2) := by decide +kernel
theorem dX11_law_11 : decode cX11_law 11 = .ok (.invokestatic 64, 3) := by decide +kernel
theorem dX11_law_14 : decode cX11_law 14 = .ok (.ifCond .ne 5, 3) := by decide +kernel
theorem dX11_law_17 : decode cX11_law 17 = .ok (.iconst (-1), 1) := by decide +kernel
theorem dX11_law_18 : decode cX11_law 18 = .ok (.ireturn, 1) := by decide +kernel
theorem dX11_law_19 : decode cX11_law 19 = .ok (.aload_n 0, 1) := by decide +kernel
theorem dX11_law_20 : decode cX11_law 20 = .ok (.getfield 40, 3) := by decide +kernel
theorem dX11_law_23 : decode cX11_law 23 = .ok (.iload_n 1, 1) := by decide +kernel
theorem dX11_law_24 : decode cX11_law 24 = .ok (.iload_n 2, 1) := by decide +kernel
theorem dX11_law_25 : decode cX11_law 25 = .ok (.aload_n 0, 1) := by decide +kernel
theorem dX11_law_26 : decode cX11_law 26 = .ok (.getfield 24, 3) := by decide +kernel
theorem dX11_law_29 : decode cX11_law 29 = .ok (.invokevirtual 188, 3) := by decide +kernel
theorem dX11_law_32 : decode cX11_law 32 = .ok (.invokevirtual 322, 3) := by decide +kernel
theorem dX11_law_35 : decode cX11_law 35 = .ok (.istore_n 3, 1) := by decide +kernel
theorem dX11_law_36 : decode cX11_law 36 = .ok (.iload_n 3, 1) := by decide +kernel
theorem dX11_law_37 : decode cX11_law 37 = .ok (.bipush (-9), 2) := by decide +kernel
theorem dX11_law_39 : decode cX11_law 39 = .ok (.if_icmp .ne 8, 3) := by decide +kernel
theorem dX11_law_42 : decode cX11_law 42 = .ok (.bipush (-9), 2) := by decide +kernel
theorem dX11_law_44 : decode cX11_law 44 = .ok (.goto 15, 3) := by decide +kernel
theorem dX11_law_47 : decode cX11_law 47 = .ok (.aload_n 0, 1) := by decide +kernel
theorem dX11_law_48 : decode cX11_law 48 = .ok (.aload_n 0, 1) := by decide +kernel
theorem dX11_law_49 : decode cX11_law 49 = .ok (.getfield 40, 3) := by decide +kernel
theorem dX11_law_52 : decode cX11_law 52 = .ok (.getfield 326, 3) := by decide +kernel
theorem dX11_law_55 : decode cX11_law 55 = .ok (.iload_n 3, 1) := by decide +kernel
theorem dX11_law_56 : decode cX11_law 56 = .ok (.invokevirtual 82, 3) := by decide +kernel
theorem dX11_law_59 : decode cX11_law 59 = .ok (.ireturn, 1) := by decide +kernel
theorem dX11_lawsPart_0 : decode cX11_lawsPart 0 = .ok (.iload_n 1, 1) := by decide +kernel
theorem dX11_lawsPart_1 : decode cX11_lawsPart 1 = .ok (.iconst 3, 1) := by decide +kernel
theorem dX11_lawsPart_2 : decode cX11_lawsPart 2 = .ok (.invokestatic 64, 3) := by decide +kernel
theorem dX11_lawsPart_5 : decode cX11_lawsPart 5 = .ok (.ifCond .eq 11, 3) := by decide +kernel
theorem dX11_lawsPart_8 : decode cX11_lawsPart 8 = .ok (.iload_n 2, 1) := by decide +kernel
theorem dX11_lawsPart_9 : decode cX11_lawsPart 9 = .ok (.iconst 3, 1) := by decide +kernel
theorem dX11_lawsPart_10 : decode cX11_lawsPart 10 = .ok (.invokestatic 64, 3) := by decide +kernel
theorem dX11_lawsPart_13 : decode cX11_lawsPart 13 = .ok (.ifCond .ne 5, 3) := by decide +kernel
theorem dX11_lawsPart_16 : decode cX11_lawsPart 16 = .ok (.iconst (-1), 1) := by decide +kernel
theorem dX11_lawsPart_17 : decode cX11_lawsPart 17 = .ok (.ireturn, 1) := by decide +kernel
theorem dX11_lawsPart_18 : decode cX11_lawsPart 18 = .ok (.aload_n 0, 1) := by decide +kernel
theorem dX11_lawsPart_19 : decode cX11_lawsPart 19 = .ok (.getfield 24, 3) := by decide +kernel
theorem dX11_lawsPart_22 : decode cX11_lawsPart 22 = .ok (.invokevirtual 188, 3) := by decide +kernel
theorem dX11_lawsPart_25 : decode cX11_lawsPart 25 = .ok (.astore_n 3, 1) := by decide +kernel
theorem dX11_lawsPart_26 : decode cX11_lawsPart 26 = .ok (.iconst 0, 1) := by decide +kernel
theorem dX11_lawsPart_27 : decode cX11_lawsPart 27 = .ok (.istore 4, 2) := by decide +kernel
theorem dX11_lawsPart_29 : decode cX11_lawsPart 29 = .ok (.iconst 0, 1) := by decide +kernel
theorem dX11_lawsPart_30 : decode cX11_lawsPart 30 = .ok (.istore 5, 2) := by decide +kernel
theorem dX11_lawsPart_32 : decode cX11_lawsPart 32 = .ok (.iload 5, 2) := by decide +kernel
theorem dX11_lawsPart_34 : decode cX11_lawsPart 34 = .ok (.bipush 32, 2) := by decide +kernel
theorem dX11_lawsPart_36 : decode cX11_lawsPart 36 = .ok (.if_icmp .ge 37, 3) := by decide +kernel
theorem dX11_lawsPart_39 : decode cX11_lawsPart 39 = .ok (.aload_n 0, 1) := by decide +kernel
theorem dX11_lawsPart_40 : decode cX11_lawsPart 40 = .ok (.getfield 40, 3) := by decide +kernel
theorem dX11_lawsPart_43 : decode cX11_lawsPart 43 = .ok (.iload_n 1, 1) := by decide +kernel
theorem dX11_lawsPart_44 : decode cX11_lawsPart 44 = .ok (.iload 5, 2) := by decide +kernel
theorem dX11_lawsPart_46 : decode cX11_lawsPart 46 = .ok (.aload_n 3, 1) := by decide +kernel
theorem dX11_lawsPart_47 : decode cX11_lawsPart 47 = .ok (.invokevirtual 322, 3) := by decide +kernel
theorem dX11_lawsPart_50 : decode cX11_lawsPart 50 = .ok (.aload_n 0, 1) := by decide +kernel
theorem dX11_lawsPart_51 : decode cX11_lawsPart 51 = .ok (.getfield 40, 3) := by decide +kernel
theorem dX11_lawsPart_54 : decode cX11_lawsPart 54 = .ok (.iload_n 2, 1) := by decide +kernel
theorem dX11_lawsPart_55 : decode cX11_lawsPart 55 = .ok (.iload 5, 2) := by decide +kernel
theorem dX11_lawsPart_57 : decode cX11_lawsPart 57 = .ok (.aload_n 3, 1) := by decide +kernel
theorem dX11_lawsPart_58 : decode cX11_lawsPart 58 = .ok (.invokevirtual 322, 3) := by decide +kernel
theorem dX11_lawsPart_61 : decode cX11_lawsPart 61 = .ok (.if_icmp .eq 6, 3) := by decide +kernel
theorem dX11_lawsPart_64 : decode cX11_lawsPart 64 = .ok (.iinc 4 1, 3) := by decide +kernel
theorem dX11_lawsPart_67 : decode cX11_lawsPart 67 = .ok (.iinc 5 1, 3) := by decide +kernel
theorem dX11_lawsPart_70 : decode cX11_lawsPart 70 = .ok (.goto (-38), 3) := by decide +kernel
theorem dX11_lawsPart_73 : decode cX11_lawsPart 73 = .ok (.iload 4, 2) := by decide +kernel
theorem dX11_lawsPart_75 : decode cX11_lawsPart 75 = .ok (.ireturn, 1) := by decide +kernel
theorem dX11_fresh_0 : decode cX11_fresh 0 = .ok (.aload_n 0, 1) := by decide +kernel
theorem dX11_fresh_1 : decode cX11_fresh 1 = .ok (.getfield 24, 3) := by decide +kernel
theorem dX11_fresh_4 : decode cX11_fresh 4 = .ok (.iload_n 1, 1) := by decide +kernel
theorem dX11_fresh_5 : decode cX11_fresh 5 = .ok (.invokevirtual 111, 3) := by decide +kernel
theorem dX11_fresh_8 : decode cX11_fresh 8 = .ok (.ifCond .eq 12, 3) := by decide +kernel
theorem dX11_fresh_11 : decode cX11_fresh 11 = .ok (.iload_n 2, 1) := by decide +kernel
theorem dX11_fresh_12 : decode cX11_fresh 12 = .ok (.bipush 32, 2) := by decide +kernel
theorem dX11_fresh_14 : decode cX11_fresh 14 = .ok (.invokestatic 64, 3) := by decide +kernel
theorem dX11_fresh_17 : decode cX11_fresh 17 = .ok (.ifCond .ne 5, 3) := by decide +kernel
theorem dX11_fresh_20 : decode cX11_fresh 20 = .ok (.iconst (-1), 1) := by decide +kernel
theorem dX11_fresh_21 : decode cX11_fresh 21 = .ok (.ireturn, 1) := by decide +kernel
theorem dX11_fresh_22 : decode cX11_fresh 22 = .ok (.aload_n 0, 1) := by decide +kernel
theorem dX11_fresh_23 : decode cX11_fresh 23 = .ok (.getfield 24, 3) := by decide +kernel
theorem dX11_fresh_26 : decode cX11_fresh 26 = .ok (.invokevirtual 188, 3) := by decide +kernel
theorem dX11_fresh_29 : decode cX11_fresh 29 = .ok (.iload_n 1, 1) := by decide +kernel
theorem dX11_fresh_30 : decode cX11_fresh 30 = .ok (.aaload, 1) := by decide +kernel
theorem dX11_fresh_31 : decode cX11_fresh 31 = .ok (.getfield 192, 3) := by decide +kernel
theorem dX11_fresh_34 : decode cX11_fresh 34 = .ok (.iload_n 2, 1) := by decide +kernel
theorem dX11_fresh_35 : decode cX11_fresh 35 = .ok (.invokevirtual 329, 3) := by decide +kernel
theorem dX11_fresh_38 : decode cX11_fresh 38 = .ok (.ireturn, 1) := by decide +kernel
theorem dX11_next_0 : decode cX11_next 0 = .ok (.aload_n 0, 1) := by decide +kernel
theorem dX11_next_1 : decode cX11_next 1 = .ok (.getfield 24, 3) := by decide +kernel
theorem dX11_next_4 : decode cX11_next 4 = .ok (.getfield 221, 3) := by decide +kernel
theorem dX11_next_7 : decode cX11_next 7 = .ok (.ifCond .ne 6, 3) := by decide +kernel
theorem dX11_next_10 : decode cX11_next 10 = .ok (.bipush (-9), 2) := by decide +kernel
theorem dX11_next_12 : decode cX11_next 12 = .ok (.ireturn, 1) := by decide +kernel
theorem dX11_next_13 : decode cX11_next 13 = .ok (.aload_n 0, 1) := by decide +kernel
theorem dX11_next_14 : decode cX11_next 14 = .ok (.getfield 24, 3) := by decide +kernel
theorem dX11_next_17 : decode cX11_next 17 = .ok (.invokevirtual 188, 3) := by decide +kernel
theorem dX11_next_20 : decode cX11_next 20 = .ok (.astore_n 1, 1) := by decide +kernel
theorem dX11_next_21 : decode cX11_next 21 = .ok (.iconst 0, 1) := by decide +kernel
theorem dX11_next_22 : decode cX11_next 22 = .ok (.istore_n 2, 1) := by decide +kernel
theorem dX11_next_23 : decode cX11_next 23 = .ok (.iconst (-1), 1) := by decide +kernel
theorem dX11_next_24 : decode cX11_next 24 = .ok (.istore_n 3, 1) := by decide +kernel
theorem dX11_next_25 : decode cX11_next 25 = .ok (.iconst 0, 1) := by decide +kernel
theorem dX11_next_26 : decode cX11_next 26 = .ok (.istore 4, 2) := by decide +kernel
theorem dX11_next_28 : decode cX11_next 28 = .ok (.iload 4, 2) := by decide +kernel
theorem dX11_next_30 : decode cX11_next 30 = .ok (.bipush 32, 2) := by decide +kernel
theorem dX11_next_32 : decode cX11_next 32 = .ok (.if_icmp .ge 33, 3) := by decide +kernel
theorem dX11_next_35 : decode cX11_next 35 = .ok (.aload_n 0, 1) := by decide +kernel
theorem dX11_next_36 : decode cX11_next 36 = .ok (.getfield 24, 3) := by decide +kernel
theorem dX11_next_39 : decode cX11_next 39 = .ok (.iload 4, 2) := by decide +kernel
theorem dX11_next_41 : decode cX11_next 41 = .ok (.aload_n 1, 1) := by decide +kernel
theorem dX11_next_42 : decode cX11_next 42 = .ok (.invokevirtual 332, 3) := by decide +kernel
theorem dX11_next_45 : decode cX11_next 45 = .ok (.istore 5, 2) := by decide +kernel
theorem dX11_next_47 : decode cX11_next 47 = .ok (.iload 5, 2) := by decide +kernel
theorem dX11_next_49 : decode cX11_next 49 = .ok (.iload_n 3, 1) := by decide +kernel
theorem dX11_next_50 : decode cX11_next 50 = .ok (.if_icmp .le 9, 3) := by decide +kernel
theorem dX11_next_53 : decode cX11_next 53 = .ok (.iload 5, 2) := by decide +kernel
theorem dX11_next_55 : decode cX11_next 55 = .ok (.istore_n 3, 1) := by decide +kernel
theorem dX11_next_56 : decode cX11_next 56 = .ok (.iload 4, 2) := by decide +kernel
theorem dX11_next_58 : decode cX11_next 58 = .ok (.istore_n 2, 1) := by decide +kernel
theorem dX11_next_59 : decode cX11_next 59 = .ok (.iinc 4 1, 3) := by decide +kernel
theorem dX11_next_62 : decode cX11_next 62 = .ok (.goto (-34), 3) := by decide +kernel
theorem dX11_next_65 : decode cX11_next 65 = .ok (.aload_n 0, 1) := by decide +kernel
theorem dX11_next_66 : decode cX11_next 66 = .ok (.iload_n 3, 1) := by decide +kernel
theorem dX11_next_67 : decode cX11_next 67 = .ok (.iload_n 2, 1) := by decide +kernel
theorem dX11_next_68 : decode cX11_next 68 = .ok (.invokevirtual 82, 3) := by decide +kernel
theorem dX11_next_71 : decode cX11_next 71 = .ok (.ireturn, 1) := by decide +kernel
theorem dX11_asked_0 : decode cX11_asked 0 = .ok (.aload_n 0, 1) := by decide +kernel
theorem dX11_asked_1 : decode cX11_asked 1 = .ok (.getfield 52, 3) := by decide +kernel
theorem dX11_asked_4 : decode cX11_asked 4 = .ok (.ireturn, 1) := by decide +kernel
theorem dX11_upper_0 : decode cX11_upper 0 = .ok (.aload_n 0, 1) := by decide +kernel
theorem dX11_upper_1 : decode cX11_upper 1 = .ok (.getfield 55, 3) := by decide +kernel
theorem dX11_upper_4 : decode cX11_upper 4 = .ok (.lreturn, 1) := by decide +kernel
theorem dX11_lower_0 : decode cX11_lower 0 = .ok (.aload_n 0, 1) := by decide +kernel
theorem dX11_lower_1 : decode cX11_lower 1 = .ok (.getfield 59, 3) := by decide +kernel
theorem dX11_lower_4 : decode cX11_lower 4 = .ok (.lreturn, 1) := by decide +kernel
theorem dX11_count_0 : decode cX11_count 0 = .ok (.iload_n 1, 1) := by decide +kernel
theorem dX11_count_1 : decode cX11_count 1 = .ok (.bipush 7, 2) := by decide +kernel
theorem dX11_count_3 : decode cX11_count 3 = .ok (.invokestatic 64, 3) := by decide +kernel
theorem dX11_count_6 : decode cX11_count 6 = .ok (.ifCond .eq 11, 3) := by decide +kernel
theorem dX11_count_9 : decode cX11_count 9 = .ok (.aload_n 0, 1) := by decide +kernel
theorem dX11_count_10 : decode cX11_count 10 = .ok (.iload_n 1, 1) := by decide +kernel
theorem dX11_count_11 : decode cX11_count 11 = .ok (.invokevirtual 335, 3) := by decide +kernel
theorem dX11_count_14 : decode cX11_count 14 = .ok (.goto 4, 3) := by decide +kernel
theorem dX11_count_17 : decode cX11_count 17 = .ok (.iconst (-1), 1) := by decide +kernel
theorem dX11_count_18 : decode cX11_count 18 = .ok (.ireturn, 1) := by decide +kernel
theorem dX11_finding_0 : decode cX11_finding 0 = .ok (.aload_n 0, 1) := by decide +kernel
theorem dX11_finding_1 : decode cX11_finding 1 = .ok (.getfield 48, 3) := by decide +kernel
theorem dX11_finding_4 : decode cX11_finding 4 = .ok (.ireturn, 1) := by decide +kernel
theorem dX11_findings_0 : decode cX11_findings 0 = .ok (.iload_n 1, 1) := by decide +kernel
theorem dX11_findings_1 : decode cX11_findings 1 = .ok (.iconst 1, 1) := by decide +kernel
theorem dX11_findings_2 : decode cX11_findings 2 = .ok (.if_icmp .lt 17, 3) := by decide +kernel
theorem dX11_findings_5 : decode cX11_findings 5 = .ok (.iload_n 1, 1) := by decide +kernel
theorem dX11_findings_6 : decode cX11_findings 6 = .ok (.iconst 5, 1) := by decide +kernel
theorem dX11_findings_7 : decode cX11_findings 7 = .ok (.if_icmp .gt 12, 3) := by decide +kernel
theorem dX11_findings_10 : decode cX11_findings 10 = .ok (.aload_n 0, 1) := by decide +kernel
theorem dX11_findings_11 : decode cX11_findings 11 = .ok (.getfield 44, 3) := by decide +kernel
theorem dX11_findings_14 : decode cX11_findings 14 = .ok (.iload_n 1, 1) := by decide +kernel
theorem dX11_findings_15 : decode cX11_findings 15 = .ok (.iaload, 1) := by decide +kernel
theorem dX11_findings_16 : decode cX11_findings 16 = .ok (.goto 4, 3) := by decide +kernel
theorem dX11_findings_19 : decode cX11_findings 19 = .ok (.iconst (-1), 1) := by decide +kernel
theorem dX11_findings_20 : decode cX11_findings 20 = .ok (.ireturn, 1) := by decide +kernel
theorem dX11_digest_0 : decode cX11_digest 0 = .ok (.ldc2_w 338, 3) := by decide +kernel
theorem dX11_digest_3 : decode cX11_digest 3 = .ok (.lstore_n 1, 1) := by decide +kernel
theorem dX11_digest_4 : decode cX11_digest 4 = .ok (.iconst 0, 1) := by decide +kernel
theorem dX11_digest_5 : decode cX11_digest 5 = .ok (.istore_n 3, 1) := by decide +kernel
theorem dX11_digest_6 : decode cX11_digest 6 = .ok (.iload_n 3, 1) := by decide +kernel
theorem dX11_digest_7 : decode cX11_digest 7 = .ok (.bipush 7, 2) := by decide +kernel
theorem dX11_digest_9 : decode cX11_digest 9 = .ok (.if_icmp .ge 22, 3) := by decide +kernel
theorem dX11_digest_12 : decode cX11_digest 12 = .ok (.ldc2_w 340, 3) := by decide +kernel
theorem dX11_digest_15 : decode cX11_digest 15 = .ok (.lload_n 1, 1) := by decide +kernel
theorem dX11_digest_16 : decode cX11_digest 16 = .ok (.lmul, 1) := by decide +kernel
theorem dX11_digest_17 : decode cX11_digest 17 = .ok (.aload_n 0, 1) := by decide +kernel
theorem dX11_digest_18 : decode cX11_digest 18 = .ok (.iload_n 3, 1) := by decide +kernel
theorem dX11_digest_19 : decode cX11_digest 19 = .ok (.invokevirtual 335, 3) := by decide +kernel
theorem dX11_digest_22 : decode cX11_digest 22 = .ok (.i2l, 1) := by decide +kernel
theorem dX11_digest_23 : decode cX11_digest 23 = .ok (.ladd, 1) := by decide +kernel
theorem dX11_digest_24 : decode cX11_digest 24 = .ok (.lstore_n 1, 1) := by decide +kernel
theorem dX11_digest_25 : decode cX11_digest 25 = .ok (.iinc 3 1, 3) := by decide +kernel
theorem dX11_digest_28 : decode cX11_digest 28 = .ok (.goto (-22), 3) := by decide +kernel
theorem dX11_digest_31 : decode cX11_digest 31 = .ok (.aload_n 0, 1) := by decide +kernel
theorem dX11_digest_32 : decode cX11_digest 32 = .ok (.getfield 24, 3) := by decide +kernel
theorem dX11_digest_35 : decode cX11_digest 35 = .ok (.lload_n 1, 1) := by decide +kernel
theorem dX11_digest_36 : decode cX11_digest 36 = .ok (.invokevirtual 342, 3) := by decide +kernel
theorem dX11_digest_39 : decode cX11_digest 39 = .ok (.lstore_n 1, 1) := by decide +kernel
theorem dX11_digest_40 : decode cX11_digest 40 = .ok (.aload_n 0, 1) := by decide +kernel
theorem dX11_digest_41 : decode cX11_digest 41 = .ok (.getfield 33, 3) := by decide +kernel
theorem dX11_digest_44 : decode cX11_digest 44 = .ok (.lload_n 1, 1) := by decide +kernel
theorem dX11_digest_45 : decode cX11_digest 45 = .ok (.invokevirtual 346, 3) := by decide +kernel
theorem dX11_digest_48 : decode cX11_digest 48 = .ok (.lstore_n 1, 1) := by decide +kernel
theorem dX11_digest_49 : decode cX11_digest 49 = .ok (.iconst 0, 1) := by decide +kernel
theorem dX11_digest_50 : decode cX11_digest 50 = .ok (.istore_n 3, 1) := by decide +kernel
theorem dX11_digest_51 : decode cX11_digest 51 = .ok (.iload_n 3, 1) := by decide +kernel
theorem dX11_digest_52 : decode cX11_digest 52 = .ok (.bipush 6, 2) := by decide +kernel
theorem dX11_digest_54 : decode cX11_digest 54 = .ok (.if_icmp .ge 20, 3) := by decide +kernel
theorem dX11_digest_57 : decode cX11_digest 57 = .ok (.aload_n 0, 1) := by decide +kernel
theorem dX11_digest_58 : decode cX11_digest 58 = .ok (.getfield 11, 3) := by decide +kernel
theorem dX11_digest_61 : decode cX11_digest 61 = .ok (.iload_n 3, 1) := by decide +kernel
theorem dX11_digest_62 : decode cX11_digest 62 = .ok (.aaload, 1) := by decide +kernel
theorem dX11_digest_63 : decode cX11_digest 63 = .ok (.lload_n 1, 1) := by decide +kernel
theorem dX11_digest_64 : decode cX11_digest 64 = .ok (.invokevirtual 347, 3) := by decide +kernel
theorem dX11_digest_67 : decode cX11_digest 67 = .ok (.lstore_n 1, 1) := by decide +kernel
theorem dX11_digest_68 : decode cX11_digest 68 = .ok (.iinc 3 1, 3) := by decide +kernel
theorem dX11_digest_71 : decode cX11_digest 71 = .ok (.goto (-20), 3) := by decide +kernel
theorem dX11_digest_74 : decode cX11_digest 74 = .ok (.iconst 0, 1) := by decide +kernel
theorem dX11_digest_75 : decode cX11_digest 75 = .ok (.istore_n 3, 1) := by decide +kernel
theorem dX11_digest_76 : decode cX11_digest 76 = .ok (.iload_n 3, 1) := by decide +kernel
theorem dX11_digest_77 : decode cX11_digest 77 = .ok (.iconst 4, 1) := by decide +kernel
theorem dX11_digest_78 : decode cX11_digest 78 = .ok (.if_icmp .ge 20, 3) := by decide +kernel
theorem dX11_digest_81 : decode cX11_digest 81 = .ok (.aload_n 0, 1) := by decide +kernel
theorem dX11_digest_82 : decode cX11_digest 82 = .ok (.getfield 17, 3) := by decide +kernel
theorem dX11_digest_85 : decode cX11_digest 85 = .ok (.iload_n 3, 1) := by decide +kernel
theorem dX11_digest_86 : decode cX11_digest 86 = .ok (.aaload, 1) := by decide +kernel
theorem dX11_digest_87 : decode cX11_digest 87 = .ok (.lload_n 1, 1) := by decide +kernel
theorem dX11_digest_88 : decode cX11_digest 88 = .ok (.invokevirtual 348, 3) := by decide +kernel
theorem dX11_digest_91 : decode cX11_digest 91 = .ok (.lstore_n 1, 1) := by decide +kernel
theorem dX11_digest_92 : decode cX11_digest 92 = .ok (.iinc 3 1, 3) := by decide +kernel
theorem dX11_digest_95 : decode cX11_digest 95 = .ok (.goto (-19), 3) := by decide +kernel
theorem dX11_digest_98 : decode cX11_digest 98 = .ok (.lload_n 1, 1) := by decide +kernel
theorem dX11_digest_99 : decode cX11_digest 99 = .ok (.lreturn, 1) := by decide +kernel
theorem dX11_within_0 : decode cX11_within 0 = .ok (.iload_n 0, 1) := by decide +kernel
theorem dX11_within_1 : decode cX11_within 1 = .ok (.ifCond .lt 12, 3) := by decide +kernel
theorem dX11_within_4 : decode cX11_within 4 = .ok (.iload_n 0, 1) := by decide +kernel
theorem dX11_within_5 : decode cX11_within 5 = .ok (.iload_n 1, 1) := by decide +kernel
theorem dX11_within_6 : decode cX11_within 6 = .ok (.if_icmp .ge 7, 3) := by decide +kernel
theorem dX11_within_9 : decode cX11_within 9 = .ok (.iconst 1, 1) := by decide +kernel
theorem dX11_within_10 : decode cX11_within 10 = .ok (.goto 4, 3) := by decide +kernel
theorem dX11_within_13 : decode cX11_within 13 = .ok (.iconst 0, 1) := by decide +kernel
theorem dX11_within_14 : decode cX11_within 14 = .ok (.ireturn, 1) := by decide +kernel
theorem dX11_isPrice_0 : decode cX11_isPrice 0 = .ok (.iload_n 0, 1) := by decide +kernel
theorem dX11_isPrice_1 : decode cX11_isPrice 1 = .ok (.ifCond .lt 13, 3) := by decide +kernel
theorem dX11_isPrice_4 : decode cX11_isPrice 4 = .ok (.iload_n 0, 1) := by decide +kernel
theorem dX11_isPrice_5 : decode cX11_isPrice 5 = .ok (.bipush 99, 2) := by decide +kernel
theorem dX11_isPrice_7 : decode cX11_isPrice 7 = .ok (.if_icmp .gt 7, 3) := by decide +kernel
theorem dX11_isPrice_10 : decode cX11_isPrice 10 = .ok (.iconst 1, 1) := by decide +kernel
theorem dX11_isPrice_11 : decode cX11_isPrice 11 = .ok (.goto 4, 3) := by decide +kernel
theorem dX11_isPrice_14 : decode cX11_isPrice 14 = .ok (.iconst 0, 1) := by decide +kernel
theorem dX11_isPrice_15 : decode cX11_isPrice 15 = .ok (.ireturn, 1) := by decide +kernel
theorem dX11_firstTrait_0 : decode cX11_firstTrait 0 = .ok (.iconst 0, 1) := by decide +kernel
theorem dX11_firstTrait_1 : decode cX11_firstTrait 1 = .ok (.istore_n 1, 1) := by decide +kernel
theorem dX11_firstTrait_2 : decode cX11_firstTrait 2 = .ok (.iload_n 1, 1) := by decide +kernel
theorem dX11_firstTrait_3 : decode cX11_firstTrait 3 = .ok (.iconst 5, 1) := by decide +kernel
theorem dX11_firstTrait_4 : decode cX11_firstTrait 4 = .ok (.if_icmp .ge 20, 3) := by decide +kernel
theorem dX11_firstTrait_7 : decode cX11_firstTrait 7 = .ok (.iload_n 0, 1) := by decide +kernel
theorem dX11_firstTrait_8 : decode cX11_firstTrait 8 = .ok (.iload_n 1, 1) := by decide +kernel
theorem dX11_firstTrait_9 : decode cX11_firstTrait 9 = .ok (.iushr, 1) := by decide +kernel
theorem dX11_firstTrait_10 : decode cX11_firstTrait 10 = .ok (.iconst 1, 1) := by decide +kernel
theorem dX11_firstTrait_11 : decode cX11_firstTrait 11 = .ok (.iand, 1) := by decide +kernel
theorem dX11_firstTrait_12 : decode cX11_firstTrait 12 = .ok (.iconst 1, 1) := by decide +kernel
theorem dX11_firstTrait_13 : decode cX11_firstTrait 13 = .ok (.if_icmp .ne 5, 3) := by decide +kernel
theorem dX11_firstTrait_16 : decode cX11_firstTrait 16 = .ok (.iload_n 1, 1) := by decide +kernel
theorem dX11_firstTrait_17 : decode cX11_firstTrait 17 = .ok (.ireturn, 1) := by decide +kernel
theorem dX11_firstTrait_18 : decode cX11_firstTrait 18 = .ok (.iinc 1 1, 3) := by decide +kernel
theorem dX11_firstTrait_21 : decode cX11_firstTrait 21 = .ok (.goto (-19), 3) := by decide +kernel
theorem dX11_firstTrait_24 : decode cX11_firstTrait 24 = .ok (.bipush (-9), 2) := by decide +kernel
theorem dX11_firstTrait_26 : decode cX11_firstTrait 26 = .ok (.ireturn, 1) := by decide +kernel
theorem dX11_refuse_0 : decode cX11_refuse 0 = .ok (.aload_n 0, 1) := by decide +kernel
theorem dX11_refuse_1 : decode cX11_refuse 1 = .ok (.iload_n 1, 1) := by decide +kernel
theorem dX11_refuse_2 : decode cX11_refuse 2 = .ok (.putfield 48, 3) := by decide +kernel
theorem dX11_refuse_5 : decode cX11_refuse 5 = .ok (.aload_n 0, 1) := by decide +kernel
theorem dX11_refuse_6 : decode cX11_refuse 6 = .ok (.getfield 44, 3) := by decide +kernel
theorem dX11_refuse_9 : decode cX11_refuse 9 = .ok (.iload_n 1, 1) := by decide +kernel
theorem dX11_refuse_10 : decode cX11_refuse 10 = .ok (.dup2, 1) := by decide +kernel
theorem dX11_refuse_11 : decode cX11_refuse 11 = .ok (.iaload, 1) := by decide +kernel
theorem dX11_refuse_12 : decode cX11_refuse 12 = .ok (.iconst 1, 1) := by decide +kernel
theorem dX11_refuse_13 : decode cX11_refuse 13 = .ok (.iadd, 1) := by decide +kernel
theorem dX11_refuse_14 : decode cX11_refuse 14 = .ok (.iastore, 1) := by decide +kernel
theorem dX11_refuse_15 : decode cX11_refuse 15 = .ok (.bipush (-3), 2) := by decide +kernel
theorem dX11_refuse_17 : decode cX11_refuse 17 = .ok (.ireturn, 1) := by decide +kernel
theorem dX11_tell_0 : decode cX11_tell 0 = .ok (.aload_n 0, 1) := by decide +kernel
theorem dX11_tell_1 : decode cX11_tell 1 = .ok (.iload_n 1, 1) := by decide +kernel
theorem dX11_tell_2 : decode cX11_tell 2 = .ok (.putfield 52, 3) := by decide +kernel
theorem dX11_tell_5 : decode cX11_tell 5 = .ok (.iload_n 2, 1) := by decide +kernel
theorem dX11_tell_6 : decode cX11_tell 6 = .ok (.ireturn, 1) := by decide +kernel
theorem dX11_tellFraction_0 : decode cX11_tellFraction 0 = .ok (.lload_n 3, 1) := by decide +kernel
theorem dX11_tellFraction_1 : decode cX11_tellFraction 1 = .ok (.lstore 5, 2) := by decide +kernel
theorem dX11_tellFraction_3 : decode cX11_tellFraction 3 = .ok (.lload_n 1, 1) := by decide +kernel
theorem dX11_tellFraction_4 : decode cX11_tellFraction 4 = .ok (.lstore 7, 2) := by decide +kernel
theorem dX11_tellFraction_6 : decode cX11_tellFraction 6 = .ok (.iconst 0, 1) := by decide +kernel
theorem dX11_tellFraction_7 : decode cX11_tellFraction 7 = .ok (.istore 9, 2) := by decide +kernel
theorem dX11_tellFraction_9 : decode cX11_tellFraction 9 = .ok (.iload 9, 2) := by decide +kernel
theorem dX11_tellFraction_11 : decode cX11_tellFraction 11 = .ok (.sipush 200, 3) := by decide +kernel
theorem dX11_tellFraction_14 : decode cX11_tellFraction 14 = .ok (.if_icmp .ge 31, 3) := by decide +kernel
theorem dX11_tellFraction_17 : decode cX11_tellFraction 17 = .ok (.lload 7, 2) := by decide +kernel
theorem dX11_tellFraction_19 : decode cX11_tellFraction 19 = .ok (.lconst 0, 1) := by decide +kernel
theorem dX11_tellFraction_20 : decode cX11_tellFraction 20 = .ok (.lcmp, 1) := by decide +kernel
theorem dX11_tellFraction_21 : decode cX11_tellFraction 21 = .ok (.ifCond .eq 24, 3) := by decide +kernel
theorem dX11_tellFraction_24 : decode cX11_tellFraction 24 = .ok (.lload 5, 2) := by decide +kernel
theorem dX11_tellFraction_26 : decode cX11_tellFraction 26 = .ok (.lload 7, 2) := by decide +kernel
theorem dX11_tellFraction_28 : decode cX11_tellFraction 28 = .ok (.lrem, 1) := by decide +kernel
theorem dX11_tellFraction_29 : decode cX11_tellFraction 29 = .ok (.lstore 10, 2) := by decide +kernel
theorem dX11_tellFraction_31 : decode cX11_tellFraction 31 = .ok (.lload 7, 2) := by decide +kernel
theorem dX11_tellFraction_33 : decode cX11_tellFraction 33 = .ok (.lstore 5, 2) := by decide +kernel
theorem dX11_tellFraction_35 : decode cX11_tellFraction 35 = .ok (.lload 10, 2) := by decide +kernel
theorem dX11_tellFraction_37 : decode cX11_tellFraction 37 = .ok (.lstore 7, 2) := by decide +kernel
theorem dX11_tellFraction_39 : decode cX11_tellFraction 39 = .ok (.iinc 9 1, 3) := by decide +kernel
theorem dX11_tellFraction_42 : decode cX11_tellFraction 42 = .ok (.goto (-33), 3) := by decide +kernel
theorem dX11_tellFraction_45 : decode cX11_tellFraction 45 = .ok (.lload 5, 2) := by decide +kernel
theorem dX11_tellFraction_47 : decode cX11_tellFraction 47 = .ok (.lconst 0, 1) := by decide +kernel
theorem dX11_tellFraction_48 : decode cX11_tellFraction 48 = .ok (.lcmp, 1) := by decide +kernel
theorem dX11_tellFraction_49 : decode cX11_tellFraction 49 = .ok (.ifCond .ne 4, 3) := by decide +kernel
theorem dX11_tellFraction_52 : decode cX11_tellFraction 52 = .ok (.return_, 1) := by decide +kernel
theorem dX11_tellFraction_53 : decode cX11_tellFraction 53 = .ok (.aload_n 0, 1) := by decide +kernel
theorem dX11_tellFraction_54 : decode cX11_tellFraction 54 = .ok (.lload_n 1, 1) := by decide +kernel
theorem dX11_tellFraction_55 : decode cX11_tellFraction 55 = .ok (.lload 5, 2) := by decide +kernel
theorem dX11_tellFraction_57 : decode cX11_tellFraction 57 = .ok (.ldiv, 1) := by decide +kernel
theorem dX11_tellFraction_58 : decode cX11_tellFraction 58 = .ok (.putfield 55, 3) := by decide +kernel
theorem dX11_tellFraction_61 : decode cX11_tellFraction 61 = .ok (.aload_n 0, 1) := by decide +kernel
theorem dX11_tellFraction_62 : decode cX11_tellFraction 62 = .ok (.lload_n 3, 1) := by decide +kernel
theorem dX11_tellFraction_63 : decode cX11_tellFraction 63 = .ok (.lload 5, 2) := by decide +kernel
theorem dX11_tellFraction_65 : decode cX11_tellFraction 65 = .ok (.ldiv, 1) := by decide +kernel
theorem dX11_tellFraction_66 : decode cX11_tellFraction 66 = .ok (.putfield 59, 3) := by decide +kernel
theorem dX11_tellFraction_69 : decode cX11_tellFraction 69 = .ok (.return_, 1) := by decide +kernel
theorem dX11_amount_0 : decode cX11_amount 0 = .ok (.iload_n 1, 1) := by decide +kernel
theorem dX11_amount_1 : decode cX11_amount 1 = .ok (.tableswitch 84 0 5 #[39, 47, 55, 63, 71, 79], 39) := by decide +kernel
theorem dX11_amount_40 : decode cX11_amount 40 = .ok (.aload_n 0, 1) := by decide +kernel
theorem dX11_amount_41 : decode cX11_amount 41 = .ok (.getfield 24, 3) := by decide +kernel
theorem dX11_amount_44 : decode cX11_amount 44 = .ok (.getfield 105, 3) := by decide +kernel
theorem dX11_amount_47 : decode cX11_amount 47 = .ok (.ireturn, 1) := by decide +kernel
theorem dX11_amount_48 : decode cX11_amount 48 = .ok (.aload_n 0, 1) := by decide +kernel
theorem dX11_amount_49 : decode cX11_amount 49 = .ok (.getfield 24, 3) := by decide +kernel
theorem dX11_amount_52 : decode cX11_amount 52 = .ok (.getfield 115, 3) := by decide +kernel
theorem dX11_amount_55 : decode cX11_amount 55 = .ok (.ireturn, 1) := by decide +kernel
theorem dX11_amount_56 : decode cX11_amount 56 = .ok (.aload_n 0, 1) := by decide +kernel
theorem dX11_amount_57 : decode cX11_amount 57 = .ok (.getfield 24, 3) := by decide +kernel
theorem dX11_amount_60 : decode cX11_amount 60 = .ok (.getfield 221, 3) := by decide +kernel
theorem dX11_amount_63 : decode cX11_amount 63 = .ok (.ireturn, 1) := by decide +kernel
theorem dX11_amount_64 : decode cX11_amount 64 = .ok (.aload_n 0, 1) := by decide +kernel
theorem dX11_amount_65 : decode cX11_amount 65 = .ok (.getfield 33, 3) := by decide +kernel
theorem dX11_amount_68 : decode cX11_amount 68 = .ok (.getfield 292, 3) := by decide +kernel
theorem dX11_amount_71 : decode cX11_amount 71 = .ok (.ireturn, 1) := by decide +kernel
theorem dX11_amount_72 : decode cX11_amount 72 = .ok (.aload_n 0, 1) := by decide +kernel
theorem dX11_amount_73 : decode cX11_amount 73 = .ok (.getfield 33, 3) := by decide +kernel
theorem dX11_amount_76 : decode cX11_amount 76 = .ok (.invokevirtual 349, 3) := by decide +kernel
theorem dX11_amount_79 : decode cX11_amount 79 = .ok (.ireturn, 1) := by decide +kernel
theorem dX11_amount_80 : decode cX11_amount 80 = .ok (.aload_n 0, 1) := by decide +kernel
theorem dX11_amount_81 : decode cX11_amount 81 = .ok (.invokevirtual 352, 3) := by decide +kernel
theorem dX11_amount_84 : decode cX11_amount 84 = .ok (.ireturn, 1) := by decide +kernel
theorem dX11_amount_85 : decode cX11_amount 85 = .ok (.aload_n 0, 1) := by decide +kernel
theorem dX11_amount_86 : decode cX11_amount 86 = .ok (.invokevirtual 355, 3) := by decide +kernel
theorem dX11_amount_89 : decode cX11_amount 89 = .ok (.ireturn, 1) := by decide +kernel
theorem dX11_rowsThere_0 : decode cX11_rowsThere 0 = .ok (.iconst 0, 1) := by decide +kernel
theorem dX11_rowsThere_1 : decode cX11_rowsThere 1 = .ok (.istore_n 1, 1) := by decide +kernel
theorem dX11_rowsThere_2 : decode cX11_rowsThere 2 = .ok (.iconst 0, 1) := by decide +kernel
theorem dX11_rowsThere_3 : decode cX11_rowsThere 3 = .ok (.istore_n 2, 1) := by decide +kernel
theorem dX11_rowsThere_4 : decode cX11_rowsThere 4 = .ok (.iload_n 2, 1) := by decide +kernel
theorem dX11_rowsThere_5 : decode cX11_rowsThere 5 = .ok (.bipush 6, 2) := by decide +kernel
theorem dX11_rowsThere_7 : decode cX11_rowsThere 7 = .ok (.if_icmp .ge 25, 3) := by decide +kernel
theorem dX11_rowsThere_10 : decode cX11_rowsThere 10 = .ok (.aload_n 0, 1) := by decide +kernel
theorem dX11_rowsThere_11 : decode cX11_rowsThere 11 = .ok (.getfield 11, 3) := by decide +kernel
theorem dX11_rowsThere_14 : decode cX11_rowsThere 14 = .ok (.iload_n 2, 1) := by decide +kernel
theorem dX11_rowsThere_15 : decode cX11_rowsThere 15 = .ok (.aaload, 1) := by decide +kernel
theorem dX11_rowsThere_16 : decode cX11_rowsThere 16 = .ok (.getfield 76, 3) := by decide +kernel
theorem dX11_rowsThere_19 : decode cX11_rowsThere 19 = .ok (.iconst (-1), 1) := by decide +kernel
theorem dX11_rowsThere_20 : decode cX11_rowsThere 20 = .ok (.if_icmp .eq 6, 3) := by decide +kernel
theorem dX11_rowsThere_23 : decode cX11_rowsThere 23 = .ok (.iinc 1 1, 3) := by decide +kernel
theorem dX11_rowsThere_26 : decode cX11_rowsThere 26 = .ok (.iinc 2 1, 3) := by decide +kernel
theorem dX11_rowsThere_29 : decode cX11_rowsThere 29 = .ok (.goto (-25), 3) := by decide +kernel
theorem dX11_rowsThere_32 : decode cX11_rowsThere 32 = .ok (.iload_n 1, 1) := by decide +kernel
theorem dX11_rowsThere_33 : decode cX11_rowsThere 33 = .ok (.ireturn, 1) := by decide +kernel
theorem dX11_textsThere_0 : decode cX11_textsThere 0 = .ok (.iconst 0, 1) := by decide +kernel
theorem dX11_textsThere_1 : decode cX11_textsThere 1 = .ok (.istore_n 1, 1) := by decide +kernel
theorem dX11_textsThere_2 : decode cX11_textsThere 2 = .ok (.iconst 0, 1) := by decide +kernel
theorem dX11_textsThere_3 : decode cX11_textsThere 3 = .ok (.istore_n 2, 1) := by decide +kernel
theorem dX11_textsThere_4 : decode cX11_textsThere 4 = .ok (.iload_n 2, 1) := by decide +kernel
theorem dX11_textsThere_5 : decode cX11_textsThere 5 = .ok (.iconst 4, 1) := by decide +kernel
theorem dX11_textsThere_6 : decode cX11_textsThere 6 = .ok (.if_icmp .ge 25, 3) := by decide +kernel
theorem dX11_textsThere_9 : decode cX11_textsThere 9 = .ok (.aload_n 0, 1) := by decide +kernel
theorem dX11_textsThere_10 : decode cX11_textsThere 10 = .ok (.getfield 17, 3) := by decide +kernel
theorem dX11_textsThere_13 : decode cX11_textsThere 13 = .ok (.iload_n 2, 1) := by decide +kernel
theorem dX11_textsThere_14 : decode cX11_textsThere 14 = .ok (.aaload, 1) := by decide +kernel
theorem dX11_textsThere_15 : decode cX11_textsThere 15 = .ok (.getfield 100, 3) := by decide +kernel
theorem dX11_textsThere_18 : decode cX11_textsThere 18 = .ok (.iconst (-1), 1) := by decide +kernel
theorem dX11_textsThere_19 : decode cX11_textsThere 19 = .ok (.if_icmp .eq 6, 3) := by decide +kernel
theorem dX11_textsThere_22 : decode cX11_textsThere 22 = .ok (.iinc 1 1, 3) := by decide +kernel
theorem dX11_textsThere_25 : decode cX11_textsThere 25 = .ok (.iinc 2 1, 3) := by decide +kernel
theorem dX11_textsThere_28 : decode cX11_textsThere 28 = .ok (.goto (-24), 3) := by decide +kernel
theorem dX11_textsThere_31 : decode cX11_textsThere 31 = .ok (.iload_n 1, 1) := by decide +kernel
theorem dX11_textsThere_32 : decode cX11_textsThere 32 = .ok (.ireturn, 1) := by decide +kernel
theorem dX12_init_0 : decode cX12_init 0 = .ok (.aload_n 0, 1) := by decide +kernel
theorem dX12_init_1 : decode cX12_init 1 = .ok (.invokespecial 1, 3) := by decide +kernel
theorem dX12_init_4 : decode cX12_init 4 = .ok (.aload_n 0, 1) := by decide +kernel
theorem dX12_init_5 : decode cX12_init 5 = .ok (.bipush 6, 2) := by decide +kernel
theorem dX12_init_7 : decode cX12_init 7 = .ok (.newarray .int, 2) := by decide +kernel
theorem dX12_init_9 : decode cX12_init 9 = .ok (.putfield 7, 3) := by decide +kernel
theorem dX12_init_12 : decode cX12_init 12 = .ok (.aload_n 0, 1) := by decide +kernel
theorem dX12_init_13 : decode cX12_init 13 = .ok (.lconst 1, 1) := by decide +kernel
theorem dX12_init_14 : decode cX12_init 14 = .ok (.putfield 13, 3) := by decide +kernel
theorem dX12_init_17 : decode cX12_init 17 = .ok (.aload_n 0, 1) := by decide +kernel
theorem dX12_init_18 : decode cX12_init 18 = .ok (.bipush 6, 2) := by decide +kernel
theorem dX12_init_20 : decode cX12_init 20 = .ok (.newarray .int, 2) := by decide +kernel
theorem dX12_init_22 : decode cX12_init 22 = .ok (.putfield 17, 3) := by decide +kernel
theorem dX12_init_25 : decode cX12_init 25 = .ok (.aload_n 0, 1) := by decide +kernel
theorem dX12_init_26 : decode cX12_init 26 = .ok (.sipush 240, 3) := by decide +kernel
theorem dX12_init_29 : decode cX12_init 29 = .ok (.newarray .int, 2) := by decide +kernel
theorem dX12_init_31 : decode cX12_init 31 = .ok (.putfield 20, 3) := by decide +kernel
theorem dX12_init_34 : decode cX12_init 34 = .ok (.aload_n 0, 1) := by decide +kernel
theorem dX12_init_35 : decode cX12_init 35 = .ok (.bipush 40, 2) := by decide +kernel
theorem dX12_init_37 : decode cX12_init 37 = .ok (.newarray .int, 2) := by decide +kernel
theorem dX12_init_39 : decode cX12_init 39 = .ok (.putfield 23, 3) := by decide +kernel
theorem dX12_init_42 : decode cX12_init 42 = .ok (.aload_n 0, 1) := by decide +kernel
theorem dX12_init_43 : decode cX12_init 43 = .ok (.iconst 4, 1) := by decide +kernel
theorem dX12_init_44 : decode cX12_init 44 = .ok (.newarray .int, 2) := by decide +kernel
theorem dX12_init_46 : decode cX12_init 46 = .ok (.putfield 26, 3) := by decide +kernel
theorem dX12_init_49 : decode cX12_init 49 = .ok (.aload_n 0, 1) := by decide +kernel
theorem dX12_init_50 : decode cX12_init 50 = .ok (.sipush 160, 3) := by decide +kernel
theorem dX12_init_53 : decode cX12_init 53 = .ok (.newarray .int, 2) := by decide +kernel
theorem dX12_init_55 : decode cX12_init 55 = .ok (.putfield 29, 3) := by decide +kernel
theorem dX12_init_58 : decode cX12_init 58 = .ok (.aload_n 0, 1) := by decide +kernel
theorem dX12_init_59 : decode cX12_init 59 = .ok (.bipush 12, 2) := by decide +kernel
theorem dX12_init_61 : decode cX12_init 61 = .ok (.newarray .int, 2) := by decide +kernel
theorem dX12_init_63 : decode cX12_init 63 = .ok (.putfield 32, 3) := by decide +kernel
theorem dX12_init_66 : decode cX12_init 66 = .ok (.aload_n 0, 1) := by decide +kernel
theorem dX12_init_67 : decode cX12_init 67 = .ok (.bipush 8, 2) := by decide +kernel
theorem dX12_init_69 : decode cX12_init 69 = .ok (.newarray .int, 2) := by decide +kernel
theorem dX12_init_71 : decode cX12_init 71 = .ok (.putfield 35, 3) := by decide +kernel
theorem dX12_init_74 : decode cX12_init 74 = .ok (.aload_n 0, 1) := by decide +kernel
theorem dX12_init_75 : decode cX12_init 75 = .ok (.bipush 8, 2) := by decide +kernel
theorem dX12_init_77 : decode cX12_init 77 = .ok (.newarray .int, 2) := by decide +kernel
theorem dX12_init_79 : decode cX12_init 79 = .ok (.putfield 38, 3) := by decide +kernel
theorem dX12_init_82 : decode cX12_init 82 = .ok (.aload_n 0, 1) := by decide +kernel
theorem dX12_init_83 : decode cX12_init 83 = .ok (.bipush 8, 2) := by decide +kernel
theorem dX12_init_85 : decode cX12_init 85 = .ok (.newarray .int, 2) := by decide +kernel
theorem dX12_init_87 : decode cX12_init 87 = .ok (.putfield 41, 3) := by decide +kernel
theorem dX12_init_90 : decode cX12_init 90 = .ok (.aload_n 0, 1) := by decide +kernel
theorem dX12_init_91 : decode cX12_init 91 = .ok (.bipush 24, 2) := by decide +kernel
theorem dX12_init_93 : decode cX12_init 93 = .ok (.newarray .int, 2) := by decide +kernel
theorem dX12_init_95 : decode cX12_init 95 = .ok (.putfield 44, 3) := by decide +kernel
theorem dX12_init_98 : decode cX12_init 98 = .ok (.aload_n 0, 1) := by decide +kernel
theorem dX12_init_99 : decode cX12_init 99 = .ok (.bipush 24, 2) := by decide +kernel
theorem dX12_init_101 : decode cX12_init 101 = .ok (.newarray .int, 2) := by decide +kernel
theorem dX12_init_103 : decode cX12_init 103 = .ok (.putfield 47, 3) := by decide +kernel
theorem dX12_init_106 : decode cX12_init 106 = .ok (.aload_n 0, 1) := by decide +kernel
theorem dX12_init_107 : decode cX12_init 107 = .ok (.bipush 24, 2) := by decide +kernel
theorem dX12_init_109 : decode cX12_init 109 = .ok (.newarray .int, 2) := by decide +kernel
theorem dX12_init_111 : decode cX12_init 111 = .ok (.putfield 50, 3) := by decide +kernel
theorem dX12_init_114 : decode cX12_init 114 = .ok (.aload_n 0, 1) := by decide +kernel
theorem dX12_init_115 : decode cX12_init 115 = .ok (.bipush 24, 2) := by decide +kernel
theorem dX12_init_117 : decode cX12_init 117 = .ok (.newarray .int, 2) := by decide +kernel
theorem dX12_init_119 : decode cX12_init 119 = .ok (.putfield 53, 3) := by decide +kernel
theorem dX12_init_122 : decode cX12_init 122 = .ok (.aload_n 0, 1) := by decide +kernel
theorem dX12_init_123 : decode cX12_init 123 = .ok (.bipush 24, 2) := by decide +kernel
theorem dX12_init_125 : decode cX12_init 125 = .ok (.newarray .int, 2) := by decide +kernel
theorem dX12_init_127 : decode cX12_init 127 = .ok (.putfield 56, 3) := by decide +kernel
theorem dX12_init_130 : decode cX12_init 130 = .ok (.aload_n 0, 1) := by decide +kernel
theorem dX12_init_131 : decode cX12_init 131 = .ok (.bipush 120, 2) := by decide +kernel
theorem dX12_init_133 : decode cX12_init 133 = .ok (.newarray .int, 2) := by decide +kernel
theorem dX12_init_135 : decode cX12_init 135 = .ok (.putfield 59, 3) := by decide +kernel
theorem dX12_init_138 : decode cX12_init 138 = .ok (.aload_n 0, 1) := by decide +kernel
theorem dX12_init_139 : decode cX12_init 139 = .ok (.iconst 3, 1) := by decide +kernel
theorem dX12_init_140 : decode cX12_init 140 = .ok (.newarray .int, 2) := by decide +kernel
theorem dX12_init_142 : decode cX12_init 142 = .ok (.putfield 62, 3) := by decide +kernel
theorem dX12_init_145 : decode cX12_init 145 = .ok (.aload_n 0, 1) := by decide +kernel
theorem dX12_init_146 : decode cX12_init 146 = .ok (.sipush 2196, 3) := by decide +kernel
theorem dX12_init_149 : decode cX12_init 149 = .ok (.newarray .int, 2) := by decide +kernel
theorem dX12_init_151 : decode cX12_init 151 = .ok (.putfield 65, 3) := by decide +kernel
theorem dX12_init_154 : decode cX12_init 154 = .ok (.aload_n 0, 1) := by decide +kernel
theorem dX12_init_155 : decode cX12_init 155 = .ok (.sipush 244, 3) := by decide +kernel
theorem dX12_init_158 : decode cX12_init 158 = .ok (.newarray .boolean, 2) := by decide +kernel
theorem dX12_init_160 : decode cX12_init 160 = .ok (.putfield 68, 3) := by decide +kernel
theorem dX12_init_163 : decode cX12_init 163 = .ok (.aload_n 0, 1) := by decide +kernel
theorem dX12_init_164 : decode cX12_init 164 = .ok (.bipush 8, 2) := by decide +kernel
theorem dX12_init_166 : decode cX12_init 166 = .ok (.newarray .int, 2) := by decide +kernel
theorem dX12_init_168 : decode cX12_init 168 = .ok (.putfield 72, 3) := by decide +kernel
theorem dX12_init_171 : decode cX12_init 171 = .ok (.aload_n 0, 1) := by decide +kernel
theorem dX12_init_172 : decode cX12_init 172 = .ok (.bipush 40, 2) := by decide +kernel
theorem dX12_init_174 : decode cX12_init 174 = .ok (.newarray .int, 2) := by decide +kernel
theorem dX12_init_176 : decode cX12_init 176 = .ok (.putfield 75, 3) := by decide +kernel
theorem dX12_init_179 : decode cX12_init 179 = .ok (.aload_n 0, 1) := by decide +kernel
theorem dX12_init_180 : decode cX12_init 180 = .ok (.bipush 40, 2) := by decide +kernel
theorem dX12_init_182 : decode cX12_init 182 = .ok (.newarray .int, 2) := by decide +kernel
theorem dX12_init_184 : decode cX12_init 184 = .ok (.putfield 78, 3) := by decide +kernel
theorem dX12_init_187 : decode cX12_init 187 = .ok (.aload_n 0, 1) := by decide +kernel
theorem dX12_init_188 : decode cX12_init 188 = .ok (.bipush 40, 2) := by decide +kernel
theorem dX12_init_190 : decode cX12_init 190 = .ok (.newarray .int, 2) := by decide +kernel
theorem dX12_init_192 : decode cX12_init 192 = .ok (.putfield 81, 3) := by decide +kernel
theorem dX12_init_195 : decode cX12_init 195 = .ok (.aload_n 0, 1) := by decide +kernel
theorem dX12_init_196 : decode cX12_init 196 = .ok (.bipush 40, 2) := by decide +kernel
theorem dX12_init_198 : decode cX12_init 198 = .ok (.newarray .boolean, 2) := by decide +kernel
theorem dX12_init_200 : decode cX12_init 200 = .ok (.putfield 84, 3) := by decide +kernel
theorem dX12_init_203 : decode cX12_init 203 = .ok (.aload_n 0, 1) := by decide +kernel
theorem dX12_init_204 : decode cX12_init 204 = .ok (.bipush 32, 2) := by decide +kernel
theorem dX12_init_206 : decode cX12_init 206 = .ok (.newarray .int, 2) := by decide +kernel
theorem dX12_init_208 : decode cX12_init 208 = .ok (.putfield 87, 3) := by decide +kernel
theorem dX12_init_211 : decode cX12_init 211 = .ok (.iconst 0, 1) := by decide +kernel
theorem dX12_init_212 : decode cX12_init 212 = .ok (.istore_n 1, 1) := by decide +kernel
theorem dX12_init_213 : decode cX12_init 213 = .ok (.iload_n 1, 1) := by decide +kernel
theorem dX12_init_214 : decode cX12_init 214 = .ok (.bipush 6, 2) := by decide +kernel
theorem dX12_init_216 : decode cX12_init 216 = .ok (.if_icmp .ge 17, 3) := by decide +kernel
theorem dX12_init_219 : decode cX12_init 219 = .ok (.aload_n 0, 1) := by decide +kernel
theorem dX12_init_220 : decode cX12_init 220 = .ok (.getfield 17, 3) := by decide +kernel
theorem dX12_init_223 : decode cX12_init 223 = .ok (.iload_n 1, 1) := by decide +kernel
theorem dX12_init_224 : decode cX12_init 224 = .ok (.bipush (-9), 2) := by decide +kernel
theorem dX12_init_226 : decode cX12_init 226 = .ok (.iastore, 1) := by decide +kernel
theorem dX12_init_227 : decode cX12_init 227 = .ok (.iinc 1 1, 3) := by decide +kernel
theorem dX12_init_230 : decode cX12_init 230 = .ok (.goto (-17), 3) := by decide +kernel
theorem dX12_init_233 : decode cX12_init 233 = .ok (.iconst 0, 1) := by decide +kernel
theorem dX12_init_234 : decode cX12_init 234 = .ok (.istore_n 1, 1) := by decide +kernel
theorem dX12_init_235 : decode cX12_init 235 = .ok (.iload_n 1, 1) := by decide +kernel
theorem dX12_init_236 : decode cX12_init 236 = .ok (.iconst 4, 1) := by decide +kernel
theorem dX12_init_237 : decode cX12_init 237 = .ok (.if_icmp .ge 17, 3) := by decide +kernel
theorem dX12_init_240 : decode cX12_init 240 = .ok (.aload_n 0, 1) := by decide +kernel
theorem dX12_init_241 : decode cX12_init 241 = .ok (.getfield 26, 3) := by decide +kernel
theorem dX12_init_244 : decode cX12_init 244 = .ok (.iload_n 1, 1) := by decide +kernel
theorem dX12_init_245 : decode cX12_init 245 = .ok (.bipush (-9), 2) := by decide +kernel
theorem dX12_init_247 : decode cX12_init 247 = .ok (.iastore, 1) := by decide +kernel
theorem dX12_init_248 : decode cX12_init 248 = .ok (.iinc 1 1, 3) := by decide +kernel
theorem dX12_init_251 : decode cX12_init 251 = .ok (.goto (-16), 3) := by decide +kernel
theorem dX12_init_254 : decode cX12_init 254 = .ok (.aload_n 0, 1) := by decide +kernel
theorem dX12_init_255 : decode cX12_init 255 = .ok (.getfield 62, 3) := by decide +kernel
theorem dX12_init_258 : decode cX12_init 258 = .ok (.iconst 0, 1) := by decide +kernel
theorem dX12_init_259 : decode cX12_init 259 = .ok (.iconst 3, 1) := by decide +kernel
theorem dX12_init_260 : decode cX12_init 260 = .ok (.iastore, 1) := by decide +kernel
theorem dX12_init_261 : decode cX12_init 261 = .ok (.aload_n 0, 1) := by decide +kernel
theorem dX12_init_262 : decode cX12_init 262 = .ok (.getfield 62, 3) := by decide +kernel
theorem dX12_init_265 : decode cX12_init 265 = .ok (.iconst 1, 1) := by decide +kernel
theorem dX12_init_266 : decode cX12_init 266 = .ok (.iconst 5, 1) := by decide +kernel
theorem dX12_init_267 : decode cX12_init 267 = .ok (.iastore, 1) := by decide +kernel
theorem dX12_init_268 : decode cX12_init 268 = .ok (.aload_n 0, 1) := by decide +kernel
theorem dX12_init_269 : decode cX12_init 269 = .ok (.getfield 62, 3) := by decide +kernel
theorem dX12_init_272 : decode cX12_init 272 = .ok (.iconst 2, 1) := by decide +kernel
theorem dX12_init_273 : decode cX12_init 273 = .ok (.bipush 7, 2) := by decide +kernel
theorem dX12_init_275 : decode cX12_init 275 = .ok (.iastore, 1) := by decide +kernel
theorem dX12_init_276 : decode cX12_init 276 = .ok (.return_, 1) := by decide +kernel
theorem dX12_in_0 : decode cX12_in 0 = .ok (.iload_n 0, 1) := by decide +kernel
theorem dX12_in_1 : decode cX12_in 1 = .ok (.iload_n 1, 1) := by decide +kernel
theorem dX12_in_2 : decode cX12_in 2 = .ok (.if_icmp .lt 12, 3) := by decide +kernel
theorem dX12_in_5 : decode cX12_in 5 = .ok (.iload_n 0, 1) := by decide +kernel
theorem dX12_in_6 : decode cX12_in 6 = .ok (.iload_n 2, 1) := by decide +kernel
theorem dX12_in_7 : decode cX12_in 7 = .ok (.if_icmp .gt 7, 3) := by decide +kernel
theorem dX12_in_10 : decode cX12_in 10 = .ok (.iconst 1, 1) := by decide +kernel
theorem dX12_in_11 : decode cX12_in 11 = .ok (.goto 4, 3) := by decide +kernel
theorem dX12_in_14 : decode cX12_in 14 = .ok (.iconst 0, 1) := by decide +kernel
theorem dX12_in_15 : decode cX12_in 15 = .ok (.ireturn, 1) := by decide +kernel
theorem dX12_meets_0 : decode cX12_meets 0 = .ok (.aload_n 0, 1) := by decide +kernel
theorem dX12_meets_1 : decode cX12_meets 1 = .ok (.iload_n 1, 1) := by decide +kernel
theorem dX12_meets_2 : decode cX12_meets 2 = .ok (.putfield 90, 3) := by decide +kernel
theorem dX12_meets_5 : decode cX12_meets 5 = .ok (.aload_n 0, 1) := by decide +kernel
theorem dX12_meets_6 : decode cX12_meets 6 = .ok (.getfield 7, 3) := by decide +kernel
theorem dX12_meets_9 : decode cX12_meets 9 = .ok (.iload_n 1, 1) := by decide +kernel
theorem dX12_meets_10 : decode cX12_meets 10 = .ok (.dup2, 1) := by decide +kernel
theorem dX12_meets_11 : decode cX12_meets 11 = .ok (.iaload, 1) := by decide +kernel
theorem dX12_meets_12 : decode cX12_meets 12 = .ok (.iconst 1, 1) := by decide +kernel
theorem dX12_meets_13 : decode cX12_meets 13 = .ok (.iadd, 1) := by decide +kernel
theorem dX12_meets_14 : decode cX12_meets 14 = .ok (.iastore, 1) := by decide +kernel
theorem dX12_meets_15 : decode cX12_meets 15 = .ok (.bipush (-3), 2) := by decide +kernel
theorem dX12_meets_17 : decode cX12_meets 17 = .ok (.ireturn, 1) := by decide +kernel
theorem dX12_ask_0 : decode cX12_ask 0 = .ok (.aload_n 0, 1) := by decide +kernel
theorem dX12_ask_1 : decode cX12_ask 1 = .ok (.iload_n 1, 1) := by decide +kernel
theorem dX12_ask_2 : decode cX12_ask 2 = .ok (.putfield 94, 3) := by decide +kernel
theorem dX12_ask_5 : decode cX12_ask 5 = .ok (.iload_n 2, 1) := by decide +kernel
theorem dX12_ask_6 : decode cX12_ask 6 = .ok (.ireturn, 1) := by decide +kernel
theorem dX12_has_0 : decode cX12_has 0 = .ok (.iload_n 0, 1) := by decide +kernel
theorem dX12_has_1 : decode cX12_has 1 = .ok (.iload_n 1, 1) := by decide +kernel
theorem dX12_has_2 : decode cX12_has 2 = .ok (.ishr, 1) := by decide +kernel
theorem dX12_has_3 : decode cX12_has 3 = .ok (.iconst 1, 1) := by decide +kernel
theorem dX12_has_4 : decode cX12_has 4 = .ok (.iand, 1) := by decide +kernel
theorem dX12_has_5 : decode cX12_has 5 = .ok (.iconst 1, 1) := by decide +kernel
theorem dX12_has_6 : decode cX12_has 6 = .ok (.if_icmp .ne 7, 3) := by decide +kernel
theorem dX12_has_9 : decode cX12_has 9 = .ok (.iconst 1, 1) := by decide +kernel
theorem dX12_has_10 : decode cX12_has 10 = .ok (.goto 4, 3) := by decide +kernel
theorem dX12_has_13 : decode cX12_has 13 = .ok (.iconst 0, 1) := by decide +kernel
theorem dX12_has_14 : decode cX12_has 14 = .ok (.ireturn, 1) := by decide +kernel
theorem dX12_isRow_0 : decode cX12_isRow 0 = .ok (.iload_n 0, 1) := by decide +kernel
theorem dX12_isRow_1 : decode cX12_isRow 1 = .ok (.iconst 0, 1) := by decide +kernel
theorem dX12_isRow_2 : decode cX12_isRow 2 = .ok (.iconst 5, 1) := by decide +kernel
theorem dX12_isRow_3 : decode cX12_isRow 3 = .ok (.invokestatic 97, 3) := by decide +kernel
theorem dX12_isRow_6 : decode cX12_isRow 6 = .ok (.ireturn, 1) := by decide +kernel
theorem dX12_isText_0 : decode cX12_isText 0 = .ok (.iload_n 0, 1) := by decide +kernel
theorem dX12_isText_1 : decode cX12_isText 1 = .ok (.iconst 0, 1) := by decide +kernel
theorem dX12_isText_2 : decode cX12_isText 2 = .ok (.iconst 3, 1) := by decide +kernel
theorem dX12_isText_3 : decode cX12_isText 3 = .ok (.invokestatic 97, 3) := by decide +kernel
theorem dX12_isText_6 : decode cX12_isText 6 = .ok (.ireturn, 1) := by decide +kernel
theorem dX12_askedRow_0 : decode cX12_askedRow 0 = .ok (.iload_n 1, 1) := by decide +kernel
theorem dX12_askedRow_1 : decode cX12_askedRow 1 = .ok (.invokestatic 101, 3) := by decide +kernel
theorem dX12_askedRow_4 : decode cX12_askedRow 4 = .ok (.ifCond .ne 7, 3) := by decide +kernel
theorem dX12_askedRow_7 : decode cX12_askedRow 7 = .ok (.iconst (-1), 1) := by decide +kernel
theorem dX12_askedRow_8 : decode cX12_askedRow 8 = .ok (.goto 21, 3) := by decide +kernel
theorem dX12_askedRow_11 : decode cX12_askedRow 11 = .ok (.aload_n 0, 1) := by decide +kernel
theorem dX12_askedRow_12 : decode cX12_askedRow 12 = .ok (.getfield 17, 3) := by decide +kernel
theorem dX12_askedRow_15 : decode cX12_askedRow 15 = .ok (.iload_n 1, 1) := by decide +kernel
theorem dX12_askedRow_16 : decode cX12_askedRow 16 = .ok (.iaload, 1) := by decide +kernel
theorem dX12_askedRow_17 : decode cX12_askedRow 17 = .ok (.ifCond .ge 11, 3) := by decide +kernel
theorem dX12_askedRow_20 : decode cX12_askedRow 20 = .ok (.aload_n 0, 1) := by decide +kernel
theorem dX12_askedRow_21 : decode cX12_askedRow 21 = .ok (.iconst 1, 1) := by decide +kernel
theorem dX12_askedRow_22 : decode cX12_askedRow 22 = .ok (.invokevirtual 105, 3) := by decide +kernel
theorem dX12_askedRow_25 : decode cX12_askedRow 25 = .ok (.goto 4, 3) := by decide +kernel
theorem dX12_askedRow_28 : decode cX12_askedRow 28 = .ok (.iconst 0, 1) := by decide +kernel
theorem dX12_askedRow_29 : decode cX12_askedRow 29 = .ok (.ireturn, 1) := by decide +kernel
theorem dX12_askedText_0 : decode cX12_askedText 0 = .ok (.iload_n 1, 1) := by decide +kernel
theorem dX12_askedText_1 : decode cX12_askedText 1 = .ok (.invokestatic 109, 3) := by decide +kernel
theorem dX12_askedText_4 : decode cX12_askedText 4 = .ok (.ifCond .ne 7, 3) := by decide +kernel
theorem dX12_askedText_7 : decode cX12_askedText 7 = .ok (.iconst (-1), 1) := by decide +kernel
theorem dX12_askedText_8 : decode cX12_askedText 8 = .ok (.goto 21, 3) := by decide +kernel
theorem dX12_askedText_11 : decode cX12_askedText 11 = .ok (.aload_n 0, 1) := by decide +kernel
theorem dX12_askedText_12 : decode cX12_askedText 12 = .ok (.getfield 26, 3) := by decide +kernel
theorem dX12_askedText_15 : decode cX12_askedText 15 = .ok (.iload_n 1, 1) := by decide +kernel
theorem dX12_askedText_16 : decode cX12_askedText 16 = .ok (.iaload, 1) := by decide +kernel
theorem dX12_askedText_17 : decode cX12_askedText 17 = .ok (.ifCond .ge 11, 3) := by decide +kernel
theorem dX12_askedText_20 : decode cX12_askedText 20 = .ok (.aload_n 0, 1) := by decide +kernel
theorem dX12_askedText_21 : decode cX12_askedText 21 = .ok (.iconst 1, 1) := by decide +kernel
theorem dX12_askedText_22 : decode cX12_askedText 22 = .ok (.invokevirtual 105, 3) := by decide +kernel
theorem dX12_askedText_25 : decode cX12_askedText 25 = .ok (.goto 4, 3) := by decide +kernel
theorem dX12_askedText_28 : decode cX12_askedText 28 = .ok (.iconst 0, 1) := by decide +kernel
theorem dX12_askedText_29 : decode cX12_askedText 29 = .ok (.ireturn, 1) := by decide +kernel
theorem dX12_rowAt_0 : decode cX12_rowAt 0 = .ok (.aload_n 0, 1) := by decide +kernel
theorem dX12_rowAt_1 : decode cX12_rowAt 1 = .ok (.getfield 20, 3) := by decide +kernel
theorem dX12_rowAt_4 : decode cX12_rowAt 4 = .ok (.bipush 40, 2) := by decide +kernel
theorem dX12_rowAt_6 : decode cX12_rowAt 6 = .ok (.iload_n 1, 1) := by decide +kernel
theorem dX12_rowAt_7 : decode cX12_rowAt 7 = .ok (.imul, 1) := by decide +kernel
theorem dX12_rowAt_8 : decode cX12_rowAt 8 = .ok (.iload_n 2, 1) := by decide +kernel
theorem dX12_rowAt_9 : decode cX12_rowAt 9 = .ok (.iadd, 1) := by decide +kernel
theorem dX12_rowAt_10 : decode cX12_rowAt 10 = .ok (.iaload, 1) := by decide +kernel
theorem dX12_rowAt_11 : decode cX12_rowAt 11 = .ok (.ireturn, 1) := by decide +kernel
theorem dX12_row_0 : decode cX12_row 0 = .ok (.iload_n 1, 1) := by decide +kernel
theorem dX12_row_1 : decode cX12_row 1 = .ok (.invokestatic 101, 3) := by decide +kernel
theorem dX12_row_4 : decode cX12_row 4 = .ok (.ifCond .eq 9, 3) := by decide +kernel
theorem dX12_row_7 : decode cX12_row 7 = .ok (.iload_n 2, 1) := by decide +kernel
theorem dX12_row_8 : decode cX12_row 8 = .ok (.bipush 40, 2) := by decide +kernel
theorem dX12_row_10 : decode cX12_row 10 = .ok (.if_icmp .le 5, 3) := by decide +kernel
theorem dX12_row_13 : decode cX12_row 13 = .ok (.iconst (-1), 1) := by decide +kernel
theorem dX12_row_14 : decode cX12_row 14 = .ok (.ireturn, 1) := by decide +kernel
theorem dX12_row_15 : decode cX12_row 15 = .ok (.iload_n 2, 1) := by decide +kernel
theorem dX12_row_16 : decode cX12_row 16 = .ok (.ifCond .ge 9, 3) := by decide +kernel
theorem dX12_row_19 : decode cX12_row 19 = .ok (.aload_n 0, 1) := by decide +kernel
theorem dX12_row_20 : decode cX12_row 20 = .ok (.iconst 5, 1) := by decide +kernel
theorem dX12_row_21 : decode cX12_row 21 = .ok (.invokevirtual 105, 3) := by decide +kernel
theorem dX12_row_24 : decode cX12_row 24 = .ok (.ireturn, 1) := by decide +kernel
theorem dX12_row_25 : decode cX12_row 25 = .ok (.aload_n 0, 1) := by decide +kernel
theorem dX12_row_26 : decode cX12_row 26 = .ok (.getfield 17, 3) := by decide +kernel
theorem dX12_row_29 : decode cX12_row 29 = .ok (.iload_n 1, 1) := by decide +kernel
theorem dX12_row_30 : decode cX12_row 30 = .ok (.iload_n 2, 1) := by decide +kernel
theorem dX12_row_31 : decode cX12_row 31 = .ok (.iastore, 1) := by decide +kernel
theorem dX12_row_32 : decode cX12_row 32 = .ok (.iconst 0, 1) := by decide +kernel
theorem dX12_row_33 : decode cX12_row 33 = .ok (.istore_n 3, 1) := by decide +kernel
theorem dX12_row_34 : decode cX12_row 34 = .ok (.iload_n 3, 1) := by decide +kernel
theorem dX12_row_35 : decode cX12_row 35 = .ok (.bipush 40, 2) := by decide +kernel
theorem dX12_row_37 : decode cX12_row 37 = .ok (.if_icmp .ge 21, 3) := by decide +kernel
theorem dX12_row_40 : decode cX12_row 40 = .ok (.aload_n 0, 1) := by decide +kernel
theorem dX12_row_41 : decode cX12_row 41 = .ok (.getfield 20, 3) := by decide +kernel
theorem dX12_row_44 : decode cX12_row 44 = .ok (.bipush 40, 2) := by decide +kernel
theorem dX12_row_46 : decode cX12_row 46 = .ok (.iload_n 1, 1) := by decide +kernel
theorem dX12_row_47 : decode cX12_row 47 = .ok (.imul, 1) := by decide +kernel
theorem dX12_row_48 : decode cX12_row 48 = .ok (.iload_n 3, 1) := by decide +kernel
theorem dX12_row_49 : decode cX12_row 49 = .ok (.iadd, 1) := by decide +kernel
theorem dX12_row_50 : decode cX12_row 50 = .ok (.iconst 0, 1) := by decide +kernel
theorem dX12_row_51 : decode cX12_row 51 = .ok (.iastore, 1) := by decide +kernel
theorem dX12_row_52 : decode cX12_row 52 = .ok (.iinc 3 1, 3) := by decide +kernel
theorem dX12_row_55 : decode cX12_row 55 = .ok (.goto (-21), 3) := by decide +kernel
theorem dX12_row_58 : decode cX12_row 58 = .ok (.iload_n 2, 1) := by decide +kernel
theorem dX12_row_59 : decode cX12_row 59 = .ok (.ireturn, 1) := by decide +kernel
theorem dX12_lay_0 : decode cX12_lay 0 = .ok (.aload_n 0, 1) := by decide +kernel
theorem dX12_lay_1 : decode cX12_lay 1 = .ok (.iload_n 1, 1) := by decide +kernel
theorem dX12_lay_2 : decode cX12_lay 2 = .ok (.invokevirtual 112, 3) := by decide +kernel
theorem dX12_lay_5 : decode cX12_lay 5 = .ok (.istore 4, 2) := by decide +kernel
theorem dX12_lay_7 : decode cX12_lay 7 = .ok (.iload 4, 2) := by decide +kernel
theorem dX12_lay_9 : decode cX12_lay 9 = .ok (.ifCond .ge 6, 3) := by decide +kernel
theorem dX12_lay_12 : decode cX12_lay 12 = .ok (.iload 4, 2) := by decide +kernel
theorem dX12_lay_14 : decode cX12_lay 14 = .ok (.ireturn, 1) := by decide +kernel
theorem dX12_lay_15 : decode cX12_lay 15 = .ok (.iload_n 2, 1) := by decide +kernel
theorem dX12_lay_16 : decode cX12_lay 16 = .ok (.iconst 0, 1) := by decide +kernel
theorem dX12_lay_17 : decode cX12_lay 17 = .ok (.aload_n 0, 1) := by decide +kernel
theorem dX12_lay_18 : decode cX12_lay 18 = .ok (.getfield 17, 3) := by decide +kernel
theorem dX12_lay_21 : decode cX12_lay 21 = .ok (.iload_n 1, 1) := by decide +kernel
theorem dX12_lay_22 : decode cX12_lay 22 = .ok (.iaload, 1) := by decide +kernel
theorem dX12_lay_23 : decode cX12_lay 23 = .ok (.iconst 1, 1) := by decide +kernel
theorem dX12_lay_24 : decode cX12_lay 24 = .ok (.isub, 1) := by decide +kernel
theorem dX12_lay_25 : decode cX12_lay 25 = .ok (.invokestatic 97, 3) := by decide +kernel
theorem dX12_lay_28 : decode cX12_lay 28 = .ok (.ifCond .ne 9, 3) := by decide +kernel
theorem dX12_lay_31 : decode cX12_lay 31 = .ok (.aload_n 0, 1) := by decide +kernel
theorem dX12_lay_32 : decode cX12_lay 32 = .ok (.iconst 2, 1) := by decide +kernel
theorem dX12_lay_33 : decode cX12_lay 33 = .ok (.invokevirtual 105, 3) := by decide +kernel
theorem dX12_lay_36 : decode cX12_lay 36 = .ok (.ireturn, 1) := by decide +kernel
theorem dX12_lay_37 : decode cX12_lay 37 = .ok (.aload_n 0, 1) := by decide +kernel
theorem dX12_lay_38 : decode cX12_lay 38 = .ok (.aload_n 0, 1) := by decide +kernel
theorem dX12_lay_39 : decode cX12_lay 39 = .ok (.iload_n 1, 1) := by decide +kernel
theorem dX12_lay_40 : decode cX12_lay 40 = .ok (.iload_n 2, 1) := by decide +kernel
theorem dX12_lay_41 : decode cX12_lay 41 = .ok (.invokevirtual 115, 3) := by decide +kernel
theorem dX12_lay_44 : decode cX12_lay 44 = .ok (.putfield 94, 3) := by decide +kernel
theorem dX12_lay_47 : decode cX12_lay 47 = .ok (.aload_n 0, 1) := by decide +kernel
theorem dX12_lay_48 : decode cX12_lay 48 = .ok (.getfield 20, 3) := by decide +kernel
theorem dX12_lay_51 : decode cX12_lay 51 = .ok (.bipush 40, 2) := by decide +kernel
theorem dX12_lay_53 : decode cX12_lay 53 = .ok (.iload_n 1, 1) := by decide +kernel
theorem dX12_lay_54 : decode cX12_lay 54 = .ok (.imul, 1) := by decide +kernel
theorem dX12_lay_55 : decode cX12_lay 55 = .ok (.iload_n 2, 1) := by decide +kernel
theorem dX12_lay_56 : decode cX12_lay 56 = .ok (.iadd, 1) := by decide +kernel
theorem dX12_lay_57 : decode cX12_lay 57 = .ok (.iload_n 3, 1) := by decide +kernel
theorem dX12_lay_58 : decode cX12_lay 58 = .ok (.iastore, 1) := by decide +kernel
theorem dX12_lay_59 : decode cX12_lay 59 = .ok (.iconst 1, 1) := by decide +kernel
theorem dX12_lay_60 : decode cX12_lay 60 = .ok (.ireturn, 1) := by decide +kernel
theorem dX12_tear_0 : decode cX12_tear 0 = .ok (.aload_n 0, 1) := by decide +kernel
theorem dX12_tear_1 : decode cX12_tear 1 = .ok (.iload_n 1, 1) := by decide +kernel
theorem dX12_tear_2 : decode cX12_tear 2 = .ok (.invokevirtual 112, 3) := by decide +kernel
theorem dX12_tear_5 : decode cX12_tear 5 = .ok (.istore_n 2, 1) := by decide +kernel
theorem dX12_tear_6 : decode cX12_tear 6 = .ok (.iload_n 2, 1) := by decide +kernel
theorem dX12_tear_7 : decode cX12_tear 7 = .ok (.ifCond .ge 5, 3) := by decide +kernel
theorem dX12_tear_10 : decode cX12_tear 10 = .ok (.iload_n 2, 1) := by decide +kernel
theorem dX12_tear_11 : decode cX12_tear 11 = .ok (.ireturn, 1) := by decide +kernel
theorem dX12_tear_12 : decode cX12_tear 12 = .ok (.aload_n 0, 1) := by decide +kernel
theorem dX12_tear_13 : decode cX12_tear 13 = .ok (.getfield 17, 3) := by decide +kernel
theorem dX12_tear_16 : decode cX12_tear 16 = .ok (.iload_n 1, 1) := by decide +kernel
theorem dX12_tear_17 : decode cX12_tear 17 = .ok (.bipush (-9), 2) := by decide +kernel
theorem dX12_tear_19 : decode cX12_tear 19 = .ok (.iastore, 1) := by decide +kernel
theorem dX12_tear_20 : decode cX12_tear 20 = .ok (.iconst 1, 1) := by decide +kernel
theorem dX12_tear_21 : decode cX12_tear 21 = .ok (.ireturn, 1) := by decide +kernel
theorem dX12_copy_0 : decode cX12_copy 0 = .ok (.iload_n 1, 1) := by decide +kernel
theorem dX12_copy_1 : decode cX12_copy 1 = .ok (.invokestatic 101, 3) := by decide +kernel
theorem dX12_copy_4 : decode cX12_copy 4 = .ok (.ifCond .eq 10, 3) := by decide +kernel
theorem dX12_copy_7 : decode cX12_copy 7 = .ok (.iload_n 3, 1) := by decide +kernel
theorem dX12_copy_8 : decode cX12_copy 8 = .ok (.invokestatic 101, 3) := by decide +kernel
theorem dX12_copy_11 : decode cX12_copy 11 = .ok (.ifCond .ne 5, 3) := by decide +kernel
theorem dX12_copy_14 : decode cX12_copy 14 = .ok (.iconst (-1), 1) := by decide +kernel
theorem dX12_copy_15 : decode cX12_copy 15 = .ok (.ireturn, 1) := by decide +kernel
theorem dX12_copy_16 : decode cX12_copy 16 = .ok (.iload 5, 2) := by decide +kernel
theorem dX12_copy_18 : decode cX12_copy 18 = .ok (.ifCond .ge 9, 3) := by decide +kernel
theorem dX12_copy_21 : decode cX12_copy 21 = .ok (.aload_n 0, 1) := by decide +kernel
theorem dX12_copy_22 : decode cX12_copy 22 = .ok (.iconst 5, 1) := by decide +kernel
theorem dX12_copy_23 : decode cX12_copy 23 = .ok (.invokevirtual 105, 3) := by decide +kernel
theorem dX12_copy_26 : decode cX12_copy 26 = .ok (.ireturn, 1) := by decide +kernel
theorem dX12_copy_27 : decode cX12_copy 27 = .ok (.aload_n 0, 1) := by decide +kernel
theorem dX12_copy_28 : decode cX12_copy 28 = .ok (.getfield 17, 3) := by decide +kernel
theorem dX12_copy_31 : decode cX12_copy 31 = .ok (.iload_n 1, 1) := by decide +kernel
theorem dX12_copy_32 : decode cX12_copy 32 = .ok (.iaload, 1) := by decide +kernel
theorem dX12_copy_33 : decode cX12_copy 33 = .ok (.ifCond .lt 12, 3) := by decide +kernel
theorem dX12_copy_36 : decode cX12_copy 36 = .ok (.aload_n 0, 1) := by decide +kernel
theorem dX12_copy_37 : decode cX12_copy 37 = .ok (.getfield 17, 3) := by decide +kernel
theorem dX12_copy_40 : decode cX12_copy 40 = .ok (.iload_n 3, 1) := by decide +kernel
theorem dX12_copy_41 : decode cX12_copy 41 = .ok (.iaload, 1) := by decide +kernel
theorem dX12_copy_42 : decode cX12_copy 42 = .ok (.ifCond .ge 9, 3) := by decide +kernel
theorem dX12_copy_45 : decode cX12_copy 45 = .ok (.aload_n 0, 1) := by decide +kernel
theorem dX12_copy_46 : decode cX12_copy 46 = .ok (.iconst 1, 1) := by decide +kernel
theorem dX12_copy_47 : decode cX12_copy 47 = .ok (.invokevirtual 105, 3) := by decide +kernel
theorem dX12_copy_50 : decode cX12_copy 50 = .ok (.ireturn, 1) := by decide +kernel
theorem dX12_copy_51 : decode cX12_copy 51 = .ok (.iload_n 2, 1) := by decide +kernel
theorem dX12_copy_52 : decode cX12_copy 52 = .ok (.ifCond .lt 43, 3) := by decide +kernel
theorem dX12_copy_55 : decode cX12_copy 55 = .ok (.iload 4, 2) := by decide +kernel
theorem dX12_copy_57 : decode cX12_copy 57 = .ok (.ifCond .lt 38, 3) := by decide +kernel
theorem dX12_copy_60 : decode cX12_copy 60 = .ok (.iload_n 2, 1) := by decide +kernel
theorem dX12_copy_61 : decode cX12_copy 61 = .ok (.i2l, 1) := by decide +kernel
theorem dX12_copy_62 : decode cX12_copy 62 = .ok (.iload 5, 2) := by decide +kernel
theorem dX12_copy_64 : decode cX12_copy 64 = .ok (.i2l, 1) := by decide +kernel
theorem dX12_copy_65 : decode cX12_copy 65 = .ok (.ladd, 1) := by decide +kernel
theorem dX12_copy_66 : decode cX12_copy 66 = .ok (.aload_n 0, 1) := by decide +kernel
theorem dX12_copy_67 : decode cX12_copy 67 = .ok (.getfield 17, 3) := by decide +kernel
theorem dX12_copy_70 : decode cX12_copy 70 = .ok (.iload_n 1, 1) := by decide +kernel
theorem dX12_copy_71 : decode cX12_copy 71 = .ok (.iaload, 1) := by decide +kernel
theorem dX12_copy_72 : decode cX12_copy 72 = .ok (.i2l, 1) := by decide +kernel
theorem dX12_copy_73 : decode cX12_copy 73 = .ok (.lcmp, 1) := by decide +kernel
theorem dX12_copy_74 : decode cX12_copy 74 = .ok (.ifCond .gt 21, 3) := by decide +kernel
theorem dX12_copy_77 : decode cX12_copy 77 = .ok (.iload 4, 2) := by decide +kernel
theorem dX12_copy_79 : decode cX12_copy 79 = .ok (.i2l, 1) := by decide +kernel
theorem dX12_copy_80 : decode cX12_copy 80 = .ok (.iload 5, 2) := by decide +kernel
theorem dX12_copy_82 : decode cX12_copy 82 = .ok (.i2l, 1) := by decide +kernel
theorem dX12_copy_83 : decode cX12_copy 83 = .ok (.ladd, 1) := by decide +kernel
theorem dX12_copy_84 : decode cX12_copy 84 = .ok (.aload_n 0, 1) := by decide +kernel
theorem dX12_copy_85 : decode cX12_copy 85 = .ok (.getfield 17, 3) := by decide +kernel
theorem dX12_copy_88 : decode cX12_copy 88 = .ok (.iload_n 3, 1) := by decide +kernel
theorem dX12_copy_89 : decode cX12_copy 89 = .ok (.iaload, 1) := by decide +kernel
theorem dX12_copy_90 : decode cX12_copy 90 = .ok (.i2l, 1) := by decide +kernel
theorem dX12_copy_91 : decode cX12_copy 91 = .ok (.lcmp, 1) := by decide +kernel
theorem dX12_copy_92 : decode cX12_copy 92 = .ok (.ifCond .le 9, 3) := by decide +kernel
theorem dX12_copy_95 : decode cX12_copy 95 = .ok (.aload_n 0, 1) := by decide +kernel
theorem dX12_copy_96 : decode cX12_copy 96 = .ok (.iconst 2, 1) := by decide +kernel
theorem dX12_copy_97 : decode cX12_copy 97 = .ok (.invokevirtual 105, 3) := by decide +kernel
theorem dX12_copy_100 : decode cX12_copy 100 = .ok (.ireturn, 1) := by decide +kernel
theorem dX12_copy_101 : decode cX12_copy 101 = .ok (.iconst 0, 1) := by decide +kernel
theorem dX12_copy_102 : decode cX12_copy 102 = .ok (.istore 6, 2) := by decide +kernel
theorem dX12_copy_104 : decode cX12_copy 104 = .ok (.iload 6, 2) := by decide +kernel
theorem dX12_copy_106 : decode cX12_copy 106 = .ok (.iload 5, 2) := by decide +kernel
theorem dX12_copy_108 : decode cX12_copy 108 = .ok (.if_icmp .ge 25, 3) := by decide +kernel
theorem dX12_copy_111 : decode cX12_copy 111 = .ok (.aload_n 0, 1) := by decide +kernel
theorem dX12_copy_112 : decode cX12_copy 112 = .ok (.getfield 23, 3) := by decide +kernel
theorem dX12_copy_115 : decode cX12_copy 115 = .ok (.iload 6, 2) := by decide +kernel
theorem dX12_copy_117 : decode cX12_copy 117 = .ok (.aload_n 0, 1) := by decide +kernel
theorem dX12_copy_118 : decode cX12_copy 118 = .ok (.iload_n 1, 1) := by decide +kernel
theorem dX12_copy_119 : decode cX12_copy 119 = .ok (.iload_n 2, 1) := by decide +kernel
theorem dX12_copy_120 : decode cX12_copy 120 = .ok (.iload 6, 2) := by decide +kernel
theorem dX12_copy_122 : decode cX12_copy 122 = .ok (.iadd, 1) := by decide +kernel
theorem dX12_copy_123 : decode cX12_copy 123 = .ok (.invokevirtual 115, 3) := by decide +kernel
theorem dX12_copy_126 : decode cX12_copy 126 = .ok (.iastore, 1) := by decide +kernel
theorem dX12_copy_127 : decode cX12_copy 127 = .ok (.iinc 6 1, 3) := by decide +kernel
theorem dX12_copy_130 : decode cX12_copy 130 = .ok (.goto (-26), 3) := by decide +kernel
theorem dX12_copy_133 : decode cX12_copy 133 = .ok (.iconst 0, 1) := by decide +kernel
theorem dX12_copy_134 : decode cX12_copy 134 = .ok (.istore 6, 2) := by decide +kernel
theorem dX12_copy_136 : decode cX12_copy 136 = .ok (.iload 6, 2) := by decide +kernel
theorem dX12_copy_138 : decode cX12_copy 138 = .ok (.iload 5, 2) := by decide +kernel
theorem dX12_copy_140 : decode cX12_copy 140 = .ok (.if_icmp .ge 31, 3) := by decide +kernel
theorem dX12_copy_143 : decode cX12_copy 143 = .ok (.aload_n 0, 1) := by decide +kernel
theorem dX12_copy_144 : decode cX12_copy 144 = .ok (.getfield 20, 3) := by decide +kernel
theorem dX12_copy_147 : decode cX12_copy 147 = .ok (.bipush 40, 2) := by decide +kernel
theorem dX12_copy_149 : decode cX12_copy 149 = .ok (.iload_n 3, 1) := by decide +kernel
theorem dX12_copy_150 : decode cX12_copy 150 = .ok (.imul, 1) := by decide +kernel
theorem dX12_copy_151 : decode cX12_copy 151 = .ok (.iload 4, 2) := by decide +kernel
theorem dX12_copy_153 : decode cX12_copy 153 = .ok (.iadd, 1) := by decide +kernel
theorem dX12_copy_154 : decode cX12_copy 154 = .ok (.iload 6, 2) := by decide +kernel
theorem dX12_copy_156 : decode cX12_copy 156 = .ok (.iadd, 1) := by decide +kernel
theorem dX12_copy_157 : decode cX12_copy 157 = .ok (.aload_n 0, 1) := by decide +kernel
theorem dX12_copy_158 : decode cX12_copy 158 = .ok (.getfield 23, 3) := by decide +kernel
theorem dX12_copy_161 : decode cX12_copy 161 = .ok (.iload 6, 2) := by decide +kernel
theorem dX12_copy_163 : decode cX12_copy 163 = .ok (.iaload, 1) := by decide +kernel
theorem dX12_copy_164 : decode cX12_copy 164 = .ok (.iastore, 1) := by decide +kernel
theorem dX12_copy_165 : decode cX12_copy 165 = .ok (.iinc 6 1, 3) := by decide +kernel
theorem dX12_copy_168 : decode cX12_copy 168 = .ok (.goto (-32), 3) := by decide +kernel
theorem dX12_copy_171 : decode cX12_copy 171 = .ok (.iconst 1, 1) := by decide +kernel
theorem dX12_copy_172 : decode cX12_copy 172 = .ok (.ireturn, 1) := by decide +kernel
theorem dX12_mean_0 : decode cX12_mean 0 = .ok (.aload_n 0, 1) := by decide +kernel
theorem dX12_mean_1 : decode cX12_mean 1 = .ok (.iload_n 1, 1) := by decide +kernel
theorem dX12_mean_2 : decode cX12_mean 2 = .ok (.invokevirtual 112, 3) := by decide +kernel
theorem dX12_mean_5 : decode cX12_mean 5 = .ok (.istore_n 2, 1) := by decide +kernel
theorem dX12_mean_6 : decode cX12_mean 6 = .ok (.iload_n 2, 1) := by decide +kernel
theorem dX12_mean_7 : decode cX12_mean 7 = .ok (.ifCond .ge 5, 3) := by decide +kernel
theorem dX12_mean_10 : decode cX12_mean 10 = .ok (.iload_n 2, 1) := by decide +kernel
theorem dX12_mean_11 : decode cX12_mean 11 = .ok (.ireturn, 1) := by decide +kernel
theorem dX12_mean_12 : decode cX12_mean 12 = .ok (.lconst 0, 1) := by decide +kernel
theorem dX12_mean_13 : decode cX12_mean 13 = .ok (.lstore_n 3, 1) := by decide +kernel
theorem dX12_mean_14 : decode cX12_mean 14 = .ok (.iconst 0, 1) := by decide +kernel
theorem dX12_mean_15 : decode cX12_mean 15 = .ok (.istore 5, 2) := by decide +kernel
theorem dX12_mean_17 : decode cX12_mean 17 = .ok (.iload 5, 2) := by decide +kernel
theorem dX12_mean_19 : decode cX12_mean 19 = .ok (.aload_n 0, 1) := by decide +kernel
theorem dX12_mean_20 : decode cX12_mean 20 = .ok (.getfield 17, 3) := by decide +kernel
theorem dX12_mean_23 : decode cX12_mean 23 = .ok (.iload_n 1, 1) := by decide +kernel
theorem dX12_mean_24 : decode cX12_mean 24 = .ok (.iaload, 1) := by decide +kernel
theorem dX12_mean_25 : decode cX12_mean 25 = .ok (.if_icmp .ge 20, 3) := by decide +kernel
theorem dX12_mean_28 : decode cX12_mean 28 = .ok (.lload_n 3, 1) := by decide +kernel
theorem dX12_mean_29 : decode cX12_mean 29 = .ok (.aload_n 0, 1) := by decide +kernel
theorem dX12_mean_30 : decode cX12_mean 30 = .ok (.iload_n 1, 1) := by decide +kernel
theorem dX12_mean_31 : decode cX12_mean 31 = .ok (.iload 5, 2) := by decide +kernel
theorem dX12_mean_33 : decode cX12_mean 33 = .ok (.invokevirtual 115, 3) := by decide +kernel
theorem dX12_mean_36 : decode cX12_mean 36 = .ok (.i2l, 1) := by decide +kernel
theorem dX12_mean_37 : decode cX12_mean 37 = .ok (.ladd, 1) := by decide +kernel
theorem dX12_mean_38 : decode cX12_mean 38 = .ok (.lstore_n 3, 1) := by decide +kernel
theorem dX12_mean_39 : decode cX12_mean 39 = .ok (.iinc 5 1, 3) := by decide +kernel
theorem dX12_mean_42 : decode cX12_mean 42 = .ok (.goto (-25), 3) := by decide +kernel
theorem dX12_mean_45 : decode cX12_mean 45 = .ok (.aload_n 0, 1) := by decide +kernel
theorem dX12_mean_46 : decode cX12_mean 46 = .ok (.getfield 17, 3) := by decide +kernel
theorem dX12_mean_49 : decode cX12_mean 49 = .ok (.iload_n 1, 1) := by decide +kernel
theorem dX12_mean_50 : decode cX12_mean 50 = .ok (.iaload, 1) := by decide +kernel
theorem dX12_mean_51 : decode cX12_mean 51 = .ok (.ifCond .ne 11, 3) := by decide +kernel
theorem dX12_mean_54 : decode cX12_mean 54 = .ok (.aload_n 0, 1) := by decide +kernel
theorem dX12_mean_55 : decode cX12_mean 55 = .ok (.iconst 4, 1) := by decide +kernel
theorem dX12_mean_56 : decode cX12_mean 56 = .ok (.invokevirtual 105, 3) := by decide +kernel
theorem dX12_mean_59 : decode cX12_mean 59 = .ok (.goto 18, 3) := by decide +kernel
theorem dX12_mean_62 : decode cX12_mean 62 = .ok (.aload_n 0, 1) := by decide +kernel
theorem dX12_mean_63 : decode cX12_mean 63 = .ok (.lload_n 3, 1) := by decide +kernel
theorem dX12_mean_64 : decode cX12_mean 64 = .ok (.aload_n 0, 1) := by decide +kernel
theorem dX12_mean_65 : decode cX12_mean 65 = .ok (.getfield 17, 3) := by decide +kernel
theorem dX12_mean_68 : decode cX12_mean 68 = .ok (.iload_n 1, 1) := by decide +kernel
theorem dX12_mean_69 : decode cX12_mean 69 = .ok (.iaload, 1) := by decide +kernel
theorem dX12_mean_70 : decode cX12_mean 70 = .ok (.i2l, 1) := by decide +kernel
theorem dX12_mean_71 : decode cX12_mean 71 = .ok (.ldiv, 1) := by decide +kernel
theorem dX12_mean_72 : decode cX12_mean 72 = .ok (.l2i, 1) := by decide +kernel
theorem dX12_mean_73 : decode cX12_mean 73 = .ok (.iconst 1, 1) := by decide +kernel
theorem dX12_mean_74 : decode cX12_mean 74 = .ok (.invokevirtual 119, 3) := by decide +kernel
theorem dX12_mean_77 : decode cX12_mean 77 = .ok (.ireturn, 1) := by decide +kernel
theorem dX12_text_0 : decode cX12_text 0 = .ok (.iload_n 1, 1) := by decide +kernel
theorem dX12_text_1 : decode cX12_text 1 = .ok (.invokestatic 109, 3) := by decide +kernel
theorem dX12_text_4 : decode cX12_text 4 = .ok (.ifCond .eq 9, 3) := by decide +kernel
theorem dX12_text_7 : decode cX12_text 7 = .ok (.iload_n 2, 1) := by decide +kernel
theorem dX12_text_8 : decode cX12_text 8 = .ok (.bipush 40, 2) := by decide +kernel
theorem dX12_text_10 : decode cX12_text 10 = .ok (.if_icmp .le 5, 3) := by decide +kernel
theorem dX12_text_13 : decode cX12_text 13 = .ok (.iconst (-1), 1) := by decide +kernel
theorem dX12_text_14 : decode cX12_text 14 = .ok (.ireturn, 1) := by decide +kernel
theorem dX12_text_15 : decode cX12_text 15 = .ok (.iload_n 2, 1) := by decide +kernel
theorem dX12_text_16 : decode cX12_text 16 = .ok (.ifCond .ge 9, 3) := by decide +kernel
theorem dX12_text_19 : decode cX12_text 19 = .ok (.aload_n 0, 1) := by decide +kernel
theorem dX12_text_20 : decode cX12_text 20 = .ok (.iconst 5, 1) := by decide +kernel
theorem dX12_text_21 : decode cX12_text 21 = .ok (.invokevirtual 105, 3) := by decide +kernel
theorem dX12_text_24 : decode cX12_text 24 = .ok (.ireturn, 1) := by decide +kernel
theorem dX12_text_25 : decode cX12_text 25 = .ok (.aload_n 0, 1) := by decide +kernel
theorem dX12_text_26 : decode cX12_text 26 = .ok (.getfield 26, 3) := by decide +kernel
theorem dX12_text_29 : decode cX12_text 29 = .ok (.iload_n 1, 1) := by decide +kernel
theorem dX12_text_30 : decode cX12_text 30 = .ok (.iload_n 2, 1) := by decide +kernel
theorem dX12_text_31 : decode cX12_text 31 = .ok (.iastore, 1) := by decide +kernel
theorem dX12_text_32 : decode cX12_text 32 = .ok (.iconst 0, 1) := by decide +kernel
theorem dX12_text_33 : decode cX12_text 33 = .ok (.istore_n 3, 1) := by decide +kernel
theorem dX12_text_34 : decode cX12_text 34 = .ok (.iload_n 3, 1) := by decide +kernel
end
section
theorem dX12_text_35 : decode cX12_text 35 = .ok (.bipush 40, 2) := by decide +kernel
theorem dX12_text_37 : decode cX12_text 37 = .ok (.if_icmp .ge 22, 3) := by decide +kernel
theorem dX12_text_40 : decode cX12_text 40 = .ok (.aload_n 0, 1) := by decide +kernel
theorem dX12_text_41 : decode cX12_text 41 = .ok (.getfield 29, 3) := by decide +kernel
theorem dX12_text_44 : decode cX12_text 44 = .ok (.bipush 40, 2) := by decide +kernel
theorem dX12_text_46 : decode cX12_text 46 = .ok (.iload_n 1, 1) := by decide +kernel
theorem dX12_text_47 : decode cX12_text 47 = .ok (.imul, 1) := by decide +kernel
theorem dX12_text_48 : decode cX12_text 48 = .ok (.iload_n 3, 1) := by decide +kernel
theorem dX12_text_49 : decode cX12_text 49 = .ok (.iadd, 1) := by decide +kernel
theorem dX12_text_50 : decode cX12_text 50 = .ok (.bipush 32, 2) := by decide +kernel
theorem dX12_text_52 : decode cX12_text 52 = .ok (.iastore, 1) := by decide +kernel
theorem dX12_text_53 : decode cX12_text 53 = .ok (.iinc 3 1, 3) := by decide +kernel
theorem dX12_text_56 : decode cX12_text 56 = .ok (.goto (-22), 3) := by decide +kernel
theorem dX12_text_59 : decode cX12_text 59 = .ok (.iload_n 2, 1) := by decide +kernel
theorem dX12_text_60 : decode cX12_text 60 = .ok (.ireturn, 1) := by decide +kernel
theorem dX12_put_0 : decode cX12_put 0 = .ok (.aload_n 0, 1) := by decide +kernel
theorem dX12_put_1 : decode cX12_put 1 = .ok (.iload_n 1, 1) := by decide +kernel
theorem dX12_put_2 : decode cX12_put 2 = .ok (.invokevirtual 122, 3) := by decide +kernel
theorem dX12_put_5 : decode cX12_put 5 = .ok (.istore 4, 2) := by decide +kernel
theorem dX12_put_7 : decode cX12_put 7 = .ok (.iload 4, 2) := by decide +kernel
theorem dX12_put_9 : decode cX12_put 9 = .ok (.ifCond .ge 6, 3) := by decide +kernel
theorem dX12_put_12 : decode cX12_put 12 = .ok (.iload 4, 2) := by decide +kernel
theorem dX12_put_14 : decode cX12_put 14 = .ok (.ireturn, 1) := by decide +kernel
theorem dX12_put_15 : decode cX12_put 15 = .ok (.iload_n 2, 1) := by decide +kernel
theorem dX12_put_16 : decode cX12_put 16 = .ok (.iconst 0, 1) := by decide +kernel
theorem dX12_put_17 : decode cX12_put 17 = .ok (.aload_n 0, 1) := by decide +kernel
theorem dX12_put_18 : decode cX12_put 18 = .ok (.getfield 26, 3) := by decide +kernel
theorem dX12_put_21 : decode cX12_put 21 = .ok (.iload_n 1, 1) := by decide +kernel
theorem dX12_put_22 : decode cX12_put 22 = .ok (.iaload, 1) := by decide +kernel
theorem dX12_put_23 : decode cX12_put 23 = .ok (.iconst 1, 1) := by decide +kernel
theorem dX12_put_24 : decode cX12_put 24 = .ok (.isub, 1) := by decide +kernel
theorem dX12_put_25 : decode cX12_put 25 = .ok (.invokestatic 97, 3) := by decide +kernel
theorem dX12_put_28 : decode cX12_put 28 = .ok (.ifCond .ne 9, 3) := by decide +kernel
theorem dX12_put_31 : decode cX12_put 31 = .ok (.aload_n 0, 1) := by decide +kernel
theorem dX12_put_32 : decode cX12_put 32 = .ok (.iconst 2, 1) := by decide +kernel
theorem dX12_put_33 : decode cX12_put 33 = .ok (.invokevirtual 105, 3) := by decide +kernel
theorem dX12_put_36 : decode cX12_put 36 = .ok (.ireturn, 1) := by decide +kernel
theorem dX12_put_37 : decode cX12_put 37 = .ok (.aload_n 0, 1) := by decide +kernel
theorem dX12_put_38 : decode cX12_put 38 = .ok (.getfield 29, 3) := by decide +kernel
theorem dX12_put_41 : decode cX12_put 41 = .ok (.bipush 40, 2) := by decide +kernel
theorem dX12_put_43 : decode cX12_put 43 = .ok (.iload_n 1, 1) := by decide +kernel
theorem dX12_put_44 : decode cX12_put 44 = .ok (.imul, 1) := by decide +kernel
theorem dX12_put_45 : decode cX12_put 45 = .ok (.iload_n 2, 1) := by decide +kernel
theorem dX12_put_46 : decode cX12_put 46 = .ok (.iadd, 1) := by decide +kernel
theorem dX12_put_47 : decode cX12_put 47 = .ok (.iaload, 1) := by decide +kernel
theorem dX12_put_48 : decode cX12_put 48 = .ok (.istore 5, 2) := by decide +kernel
theorem dX12_put_50 : decode cX12_put 50 = .ok (.aload_n 0, 1) := by decide +kernel
theorem dX12_put_51 : decode cX12_put 51 = .ok (.getfield 29, 3) := by decide +kernel
theorem dX12_put_54 : decode cX12_put 54 = .ok (.bipush 40, 2) := by decide +kernel
theorem dX12_put_56 : decode cX12_put 56 = .ok (.iload_n 1, 1) := by decide +kernel
theorem dX12_put_57 : decode cX12_put 57 = .ok (.imul, 1) := by decide +kernel
theorem dX12_put_58 : decode cX12_put 58 = .ok (.iload_n 2, 1) := by decide +kernel
theorem dX12_put_59 : decode cX12_put 59 = .ok (.iadd, 1) := by decide +kernel
theorem dX12_put_60 : decode cX12_put 60 = .ok (.iload_n 3, 1) := by decide +kernel
theorem dX12_put_61 : decode cX12_put 61 = .ok (.i2b, 1) := by decide +kernel
theorem dX12_put_62 : decode cX12_put 62 = .ok (.iastore, 1) := by decide +kernel
theorem dX12_put_63 : decode cX12_put 63 = .ok (.iload 5, 2) := by decide +kernel
theorem dX12_put_65 : decode cX12_put 65 = .ok (.sipush 1000, 3) := by decide +kernel
theorem dX12_put_68 : decode cX12_put 68 = .ok (.iadd, 1) := by decide +kernel
theorem dX12_put_69 : decode cX12_put 69 = .ok (.ireturn, 1) := by decide +kernel
theorem dX12_isCase_0 : decode cX12_isCase 0 = .ok (.iload_n 1, 1) := by decide +kernel
theorem dX12_isCase_1 : decode cX12_isCase 1 = .ok (.iconst 0, 1) := by decide +kernel
theorem dX12_isCase_2 : decode cX12_isCase 2 = .ok (.aload_n 0, 1) := by decide +kernel
theorem dX12_isCase_3 : decode cX12_isCase 3 = .ok (.getfield 125, 3) := by decide +kernel
theorem dX12_isCase_6 : decode cX12_isCase 6 = .ok (.iconst 1, 1) := by decide +kernel
theorem dX12_isCase_7 : decode cX12_isCase 7 = .ok (.isub, 1) := by decide +kernel
theorem dX12_isCase_8 : decode cX12_isCase 8 = .ok (.invokestatic 97, 3) := by decide +kernel
theorem dX12_isCase_11 : decode cX12_isCase 11 = .ok (.ireturn, 1) := by decide +kernel
theorem dX12_isMaster_0 : decode cX12_isMaster 0 = .ok (.iload_n 1, 1) := by decide +kernel
theorem dX12_isMaster_1 : decode cX12_isMaster 1 = .ok (.iconst 0, 1) := by decide +kernel
theorem dX12_isMaster_2 : decode cX12_isMaster 2 = .ok (.aload_n 0, 1) := by decide +kernel
theorem dX12_isMaster_3 : decode cX12_isMaster 3 = .ok (.getfield 128, 3) := by decide +kernel
theorem dX12_isMaster_6 : decode cX12_isMaster 6 = .ok (.iconst 1, 1) := by decide +kernel
theorem dX12_isMaster_7 : decode cX12_isMaster 7 = .ok (.isub, 1) := by decide +kernel
theorem dX12_isMaster_8 : decode cX12_isMaster 8 = .ok (.invokestatic 97, 3) := by decide +kernel
theorem dX12_isMaster_11 : decode cX12_isMaster 11 = .ok (.ireturn, 1) := by decide +kernel
theorem dX12_isSaying_0 : decode cX12_isSaying 0 = .ok (.iload_n 1, 1) := by decide +kernel
theorem dX12_isSaying_1 : decode cX12_isSaying 1 = .ok (.iconst 0, 1) := by decide +kernel
theorem dX12_isSaying_2 : decode cX12_isSaying 2 = .ok (.aload_n 0, 1) := by decide +kernel
theorem dX12_isSaying_3 : decode cX12_isSaying 3 = .ok (.getfield 131, 3) := by decide +kernel
theorem dX12_isSaying_6 : decode cX12_isSaying 6 = .ok (.iconst 1, 1) := by decide +kernel
theorem dX12_isSaying_7 : decode cX12_isSaying 7 = .ok (.isub, 1) := by decide +kernel
theorem dX12_isSaying_8 : decode cX12_isSaying 8 = .ok (.invokestatic 97, 3) := by decide +kernel
theorem dX12_isSaying_11 : decode cX12_isSaying 11 = .ok (.ireturn, 1) := by decide +kernel
theorem dX12_isTrait_0 : decode cX12_isTrait 0 = .ok (.iload_n 0, 1) := by decide +kernel
theorem dX12_isTrait_1 : decode cX12_isTrait 1 = .ok (.iconst 0, 1) := by decide +kernel
theorem dX12_isTrait_2 : decode cX12_isTrait 2 = .ok (.iconst 4, 1) := by decide +kernel
theorem dX12_isTrait_3 : decode cX12_isTrait 3 = .ok (.invokestatic 97, 3) := by decide +kernel
theorem dX12_isTrait_6 : decode cX12_isTrait 6 = .ok (.ireturn, 1) := by decide +kernel
theorem dX12_isSet_0 : decode cX12_isSet 0 = .ok (.iload_n 0, 1) := by decide +kernel
theorem dX12_isSet_1 : decode cX12_isSet 1 = .ok (.iconst 0, 1) := by decide +kernel
theorem dX12_isSet_2 : decode cX12_isSet 2 = .ok (.bipush 31, 2) := by decide +kernel
theorem dX12_isSet_4 : decode cX12_isSet 4 = .ok (.invokestatic 97, 3) := by decide +kernel
theorem dX12_isSet_7 : decode cX12_isSet 7 = .ok (.ireturn, 1) := by decide +kernel
theorem dX12_instance_0 : decode cX12_instance 0 = .ok (.iload_n 1, 1) := by decide +kernel
theorem dX12_instance_1 : decode cX12_instance 1 = .ok (.invokestatic 134, 3) := by decide +kernel
theorem dX12_instance_4 : decode cX12_instance 4 = .ok (.ifCond .ne 5, 3) := by decide +kernel
theorem dX12_instance_7 : decode cX12_instance 7 = .ok (.iconst (-1), 1) := by decide +kernel
theorem dX12_instance_8 : decode cX12_instance 8 = .ok (.ireturn, 1) := by decide +kernel
theorem dX12_instance_9 : decode cX12_instance 9 = .ok (.aload_n 0, 1) := by decide +kernel
theorem dX12_instance_10 : decode cX12_instance 10 = .ok (.getfield 125, 3) := by decide +kernel
theorem dX12_instance_13 : decode cX12_instance 13 = .ok (.bipush 12, 2) := by decide +kernel
theorem dX12_instance_15 : decode cX12_instance 15 = .ok (.if_icmp .ne 6, 3) := by decide +kernel
theorem dX12_instance_18 : decode cX12_instance 18 = .ok (.bipush (-2), 2) := by decide +kernel
theorem dX12_instance_20 : decode cX12_instance 20 = .ok (.ireturn, 1) := by decide +kernel
theorem dX12_instance_21 : decode cX12_instance 21 = .ok (.aload_n 0, 1) := by decide +kernel
theorem dX12_instance_22 : decode cX12_instance 22 = .ok (.getfield 32, 3) := by decide +kernel
theorem dX12_instance_25 : decode cX12_instance 25 = .ok (.aload_n 0, 1) := by decide +kernel
theorem dX12_instance_26 : decode cX12_instance 26 = .ok (.getfield 125, 3) := by decide +kernel
theorem dX12_instance_29 : decode cX12_instance 29 = .ok (.iload_n 1, 1) := by decide +kernel
theorem dX12_instance_30 : decode cX12_instance 30 = .ok (.iastore, 1) := by decide +kernel
theorem dX12_instance_31 : decode cX12_instance 31 = .ok (.aload_n 0, 1) := by decide +kernel
theorem dX12_instance_32 : decode cX12_instance 32 = .ok (.dup, 1) := by decide +kernel
theorem dX12_instance_33 : decode cX12_instance 33 = .ok (.getfield 125, 3) := by decide +kernel
theorem dX12_instance_36 : decode cX12_instance 36 = .ok (.iconst 1, 1) := by decide +kernel
theorem dX12_instance_37 : decode cX12_instance 37 = .ok (.iadd, 1) := by decide +kernel
theorem dX12_instance_38 : decode cX12_instance 38 = .ok (.putfield 125, 3) := by decide +kernel
theorem dX12_instance_41 : decode cX12_instance 41 = .ok (.aload_n 0, 1) := by decide +kernel
theorem dX12_instance_42 : decode cX12_instance 42 = .ok (.getfield 125, 3) := by decide +kernel
theorem dX12_instance_45 : decode cX12_instance 45 = .ok (.iconst 1, 1) := by decide +kernel
theorem dX12_instance_46 : decode cX12_instance 46 = .ok (.isub, 1) := by decide +kernel
theorem dX12_instance_47 : decode cX12_instance 47 = .ok (.ireturn, 1) := by decide +kernel
theorem dX12_master_0 : decode cX12_master 0 = .ok (.iload_n 1, 1) := by decide +kernel
theorem dX12_master_1 : decode cX12_master 1 = .ok (.iconst 0, 1) := by decide +kernel
theorem dX12_master_2 : decode cX12_master 2 = .ok (.sipush 999, 3) := by decide +kernel
theorem dX12_master_5 : decode cX12_master 5 = .ok (.invokestatic 97, 3) := by decide +kernel
theorem dX12_master_8 : decode cX12_master 8 = .ok (.ifCond .eq 28, 3) := by decide +kernel
theorem dX12_master_11 : decode cX12_master 11 = .ok (.iload_n 2, 1) := by decide +kernel
theorem dX12_master_12 : decode cX12_master 12 = .ok (.iload_n 1, 1) := by decide +kernel
theorem dX12_master_13 : decode cX12_master 13 = .ok (.sipush 999, 3) := by decide +kernel
theorem dX12_master_16 : decode cX12_master 16 = .ok (.invokestatic 97, 3) := by decide +kernel
theorem dX12_master_19 : decode cX12_master 19 = .ok (.ifCond .eq 17, 3) := by decide +kernel
theorem dX12_master_22 : decode cX12_master 22 = .ok (.iload_n 3, 1) := by decide +kernel
theorem dX12_master_23 : decode cX12_master 23 = .ok (.bipush (-9), 2) := by decide +kernel
theorem dX12_master_25 : decode cX12_master 25 = .ok (.if_icmp .eq 13, 3) := by decide +kernel
theorem dX12_master_28 : decode cX12_master 28 = .ok (.aload_n 0, 1) := by decide +kernel
theorem dX12_master_29 : decode cX12_master 29 = .ok (.iload_n 3, 1) := by decide +kernel
theorem dX12_master_30 : decode cX12_master 30 = .ok (.invokevirtual 137, 3) := by decide +kernel
theorem dX12_master_33 : decode cX12_master 33 = .ok (.ifCond .ne 5, 3) := by decide +kernel
theorem dX12_master_36 : decode cX12_master 36 = .ok (.iconst (-1), 1) := by decide +kernel
theorem dX12_master_37 : decode cX12_master 37 = .ok (.ireturn, 1) := by decide +kernel
theorem dX12_master_38 : decode cX12_master 38 = .ok (.aload_n 0, 1) := by decide +kernel
theorem dX12_master_39 : decode cX12_master 39 = .ok (.getfield 128, 3) := by decide +kernel
theorem dX12_master_42 : decode cX12_master 42 = .ok (.bipush 8, 2) := by decide +kernel
theorem dX12_master_44 : decode cX12_master 44 = .ok (.if_icmp .ne 6, 3) := by decide +kernel
theorem dX12_master_47 : decode cX12_master 47 = .ok (.bipush (-2), 2) := by decide +kernel
theorem dX12_master_49 : decode cX12_master 49 = .ok (.ireturn, 1) := by decide +kernel
theorem dX12_master_50 : decode cX12_master 50 = .ok (.aload_n 0, 1) := by decide +kernel
theorem dX12_master_51 : decode cX12_master 51 = .ok (.getfield 35, 3) := by decide +kernel
theorem dX12_master_54 : decode cX12_master 54 = .ok (.aload_n 0, 1) := by decide +kernel
theorem dX12_master_55 : decode cX12_master 55 = .ok (.getfield 128, 3) := by decide +kernel
theorem dX12_master_58 : decode cX12_master 58 = .ok (.iload_n 1, 1) := by decide +kernel
theorem dX12_master_59 : decode cX12_master 59 = .ok (.iastore, 1) := by decide +kernel
theorem dX12_master_60 : decode cX12_master 60 = .ok (.aload_n 0, 1) := by decide +kernel
theorem dX12_master_61 : decode cX12_master 61 = .ok (.getfield 38, 3) := by decide +kernel
theorem dX12_master_64 : decode cX12_master 64 = .ok (.aload_n 0, 1) := by decide +kernel
theorem dX12_master_65 : decode cX12_master 65 = .ok (.getfield 128, 3) := by decide +kernel
theorem dX12_master_68 : decode cX12_master 68 = .ok (.iload_n 2, 1) := by decide +kernel
theorem dX12_master_69 : decode cX12_master 69 = .ok (.iastore, 1) := by decide +kernel
theorem dX12_master_70 : decode cX12_master 70 = .ok (.aload_n 0, 1) := by decide +kernel
theorem dX12_master_71 : decode cX12_master 71 = .ok (.getfield 41, 3) := by decide +kernel
theorem dX12_master_74 : decode cX12_master 74 = .ok (.aload_n 0, 1) := by decide +kernel
theorem dX12_master_75 : decode cX12_master 75 = .ok (.getfield 128, 3) := by decide +kernel
theorem dX12_master_78 : decode cX12_master 78 = .ok (.iload_n 3, 1) := by decide +kernel
theorem dX12_master_79 : decode cX12_master 79 = .ok (.iastore, 1) := by decide +kernel
theorem dX12_master_80 : decode cX12_master 80 = .ok (.aload_n 0, 1) := by decide +kernel
theorem dX12_master_81 : decode cX12_master 81 = .ok (.dup, 1) := by decide +kernel
theorem dX12_master_82 : decode cX12_master 82 = .ok (.getfield 128, 3) := by decide +kernel
theorem dX12_master_85 : decode cX12_master 85 = .ok (.iconst 1, 1) := by decide +kernel
theorem dX12_master_86 : decode cX12_master 86 = .ok (.iadd, 1) := by decide +kernel
theorem dX12_master_87 : decode cX12_master 87 = .ok (.putfield 128, 3) := by decide +kernel
theorem dX12_master_90 : decode cX12_master 90 = .ok (.aload_n 0, 1) := by decide +kernel
theorem dX12_master_91 : decode cX12_master 91 = .ok (.getfield 128, 3) := by decide +kernel
theorem dX12_master_94 : decode cX12_master 94 = .ok (.iconst 1, 1) := by decide +kernel
theorem dX12_master_95 : decode cX12_master 95 = .ok (.isub, 1) := by decide +kernel
theorem dX12_master_96 : decode cX12_master 96 = .ok (.ireturn, 1) := by decide +kernel
theorem dX12_sayingsOf_0 : decode cX12_sayingsOf 0 = .ok (.iconst 0, 1) := by decide +kernel
theorem dX12_sayingsOf_1 : decode cX12_sayingsOf 1 = .ok (.istore_n 2, 1) := by decide +kernel
theorem dX12_sayingsOf_2 : decode cX12_sayingsOf 2 = .ok (.iconst 0, 1) := by decide +kernel
theorem dX12_sayingsOf_3 : decode cX12_sayingsOf 3 = .ok (.istore_n 3, 1) := by decide +kernel
theorem dX12_sayingsOf_4 : decode cX12_sayingsOf 4 = .ok (.iload_n 3, 1) := by decide +kernel
theorem dX12_sayingsOf_5 : decode cX12_sayingsOf 5 = .ok (.aload_n 0, 1) := by decide +kernel
theorem dX12_sayingsOf_6 : decode cX12_sayingsOf 6 = .ok (.getfield 131, 3) := by decide +kernel
theorem dX12_sayingsOf_9 : decode cX12_sayingsOf 9 = .ok (.if_icmp .ge 27, 3) := by decide +kernel
theorem dX12_sayingsOf_12 : decode cX12_sayingsOf 12 = .ok (.iload_n 2, 1) := by decide +kernel
theorem dX12_sayingsOf_13 : decode cX12_sayingsOf 13 = .ok (.aload_n 0, 1) := by decide +kernel
theorem dX12_sayingsOf_14 : decode cX12_sayingsOf 14 = .ok (.getfield 44, 3) := by decide +kernel
theorem dX12_sayingsOf_17 : decode cX12_sayingsOf 17 = .ok (.iload_n 3, 1) := by decide +kernel
theorem dX12_sayingsOf_18 : decode cX12_sayingsOf 18 = .ok (.iaload, 1) := by decide +kernel
theorem dX12_sayingsOf_19 : decode cX12_sayingsOf 19 = .ok (.iload_n 1, 1) := by decide +kernel
theorem dX12_sayingsOf_20 : decode cX12_sayingsOf 20 = .ok (.if_icmp .ne 7, 3) := by decide +kernel
theorem dX12_sayingsOf_23 : decode cX12_sayingsOf 23 = .ok (.iconst 1, 1) := by decide +kernel
theorem dX12_sayingsOf_24 : decode cX12_sayingsOf 24 = .ok (.goto 4, 3) := by decide +kernel
theorem dX12_sayingsOf_27 : decode cX12_sayingsOf 27 = .ok (.iconst 0, 1) := by decide +kernel
theorem dX12_sayingsOf_28 : decode cX12_sayingsOf 28 = .ok (.iadd, 1) := by decide +kernel
theorem dX12_sayingsOf_29 : decode cX12_sayingsOf 29 = .ok (.istore_n 2, 1) := by decide +kernel
theorem dX12_sayingsOf_30 : decode cX12_sayingsOf 30 = .ok (.iinc 3 1, 3) := by decide +kernel
theorem dX12_sayingsOf_33 : decode cX12_sayingsOf 33 = .ok (.goto (-29), 3) := by decide +kernel
theorem dX12_sayingsOf_36 : decode cX12_sayingsOf 36 = .ok (.iload_n 2, 1) := by decide +kernel
theorem dX12_sayingsOf_37 : decode cX12_sayingsOf 37 = .ok (.ireturn, 1) := by decide +kernel
theorem dX12_newSaying_0 : decode cX12_newSaying 0 = .ok (.aload_n 0, 1) := by decide +kernel
theorem dX12_newSaying_1 : decode cX12_newSaying 1 = .ok (.getfield 131, 3) := by decide +kernel
theorem dX12_newSaying_4 : decode cX12_newSaying 4 = .ok (.istore 6, 2) := by decide +kernel
theorem dX12_newSaying_6 : decode cX12_newSaying 6 = .ok (.aload_n 0, 1) := by decide +kernel
theorem dX12_newSaying_7 : decode cX12_newSaying 7 = .ok (.getfield 44, 3) := by decide +kernel
theorem dX12_newSaying_10 : decode cX12_newSaying 10 = .ok (.iload 6, 2) := by decide +kernel
theorem dX12_newSaying_12 : decode cX12_newSaying 12 = .ok (.iload_n 1, 1) := by decide +kernel
theorem dX12_newSaying_13 : decode cX12_newSaying 13 = .ok (.iastore, 1) := by decide +kernel
theorem dX12_newSaying_14 : decode cX12_newSaying 14 = .ok (.aload_n 0, 1) := by decide +kernel
theorem dX12_newSaying_15 : decode cX12_newSaying 15 = .ok (.getfield 47, 3) := by decide +kernel
theorem dX12_newSaying_18 : decode cX12_newSaying 18 = .ok (.iload 6, 2) := by decide +kernel
theorem dX12_newSaying_20 : decode cX12_newSaying 20 = .ok (.iload_n 2, 1) := by decide +kernel
theorem dX12_newSaying_21 : decode cX12_newSaying 21 = .ok (.iastore, 1) := by decide +kernel
theorem dX12_newSaying_22 : decode cX12_newSaying 22 = .ok (.aload_n 0, 1) := by decide +kernel
theorem dX12_newSaying_23 : decode cX12_newSaying 23 = .ok (.getfield 50, 3) := by decide +kernel
theorem dX12_newSaying_26 : decode cX12_newSaying 26 = .ok (.iload 6, 2) := by decide +kernel
theorem dX12_newSaying_28 : decode cX12_newSaying 28 = .ok (.iload_n 3, 1) := by decide +kernel
theorem dX12_newSaying_29 : decode cX12_newSaying 29 = .ok (.iastore, 1) := by decide +kernel
theorem dX12_newSaying_30 : decode cX12_newSaying 30 = .ok (.aload_n 0, 1) := by decide +kernel
theorem dX12_newSaying_31 : decode cX12_newSaying 31 = .ok (.getfield 53, 3) := by decide +kernel
theorem dX12_newSaying_34 : decode cX12_newSaying 34 = .ok (.iload 6, 2) := by decide +kernel
theorem dX12_newSaying_36 : decode cX12_newSaying 36 = .ok (.iload 4, 2) := by decide +kernel
theorem dX12_newSaying_38 : decode cX12_newSaying 38 = .ok (.iastore, 1) := by decide +kernel
theorem dX12_newSaying_39 : decode cX12_newSaying 39 = .ok (.aload_n 0, 1) := by decide +kernel
theorem dX12_newSaying_40 : decode cX12_newSaying 40 = .ok (.getfield 56, 3) := by decide +kernel
theorem dX12_newSaying_43 : decode cX12_newSaying 43 = .ok (.iload 6, 2) := by decide +kernel
theorem dX12_newSaying_45 : decode cX12_newSaying 45 = .ok (.iload 5, 2) := by decide +kernel
theorem dX12_newSaying_47 : decode cX12_newSaying 47 = .ok (.iastore, 1) := by decide +kernel
theorem dX12_newSaying_48 : decode cX12_newSaying 48 = .ok (.iconst 0, 1) := by decide +kernel
theorem dX12_newSaying_49 : decode cX12_newSaying 49 = .ok (.istore 7, 2) := by decide +kernel
theorem dX12_newSaying_51 : decode cX12_newSaying 51 = .ok (.iload 7, 2) := by decide +kernel
theorem dX12_newSaying_53 : decode cX12_newSaying 53 = .ok (.iconst 5, 1) := by decide +kernel
theorem dX12_newSaying_54 : decode cX12_newSaying 54 = .ok (.if_icmp .ge 23, 3) := by decide +kernel
theorem dX12_newSaying_57 : decode cX12_newSaying 57 = .ok (.aload_n 0, 1) := by decide +kernel
theorem dX12_newSaying_58 : decode cX12_newSaying 58 = .ok (.getfield 59, 3) := by decide +kernel
theorem dX12_newSaying_61 : decode cX12_newSaying 61 = .ok (.iconst 5, 1) := by decide +kernel
theorem dX12_newSaying_62 : decode cX12_newSaying 62 = .ok (.iload 6, 2) := by decide +kernel
theorem dX12_newSaying_64 : decode cX12_newSaying 64 = .ok (.imul, 1) := by decide +kernel
theorem dX12_newSaying_65 : decode cX12_newSaying 65 = .ok (.iload 7, 2) := by decide +kernel
theorem dX12_newSaying_67 : decode cX12_newSaying 67 = .ok (.iadd, 1) := by decide +kernel
theorem dX12_newSaying_68 : decode cX12_newSaying 68 = .ok (.bipush (-9), 2) := by decide +kernel
theorem dX12_newSaying_70 : decode cX12_newSaying 70 = .ok (.iastore, 1) := by decide +kernel
theorem dX12_newSaying_71 : decode cX12_newSaying 71 = .ok (.iinc 7 1, 3) := by decide +kernel
theorem dX12_newSaying_74 : decode cX12_newSaying 74 = .ok (.goto (-23), 3) := by decide +kernel
theorem dX12_newSaying_77 : decode cX12_newSaying 77 = .ok (.aload_n 0, 1) := by decide +kernel
theorem dX12_newSaying_78 : decode cX12_newSaying 78 = .ok (.dup, 1) := by decide +kernel
theorem dX12_newSaying_79 : decode cX12_newSaying 79 = .ok (.getfield 131, 3) := by decide +kernel
theorem dX12_newSaying_82 : decode cX12_newSaying 82 = .ok (.iconst 1, 1) := by decide +kernel
theorem dX12_newSaying_83 : decode cX12_newSaying 83 = .ok (.iadd, 1) := by decide +kernel
theorem dX12_newSaying_84 : decode cX12_newSaying 84 = .ok (.putfield 131, 3) := by decide +kernel
theorem dX12_newSaying_87 : decode cX12_newSaying 87 = .ok (.iload 6, 2) := by decide +kernel
theorem dX12_newSaying_89 : decode cX12_newSaying 89 = .ok (.ireturn, 1) := by decide +kernel
theorem dX12_isOf_0 : decode cX12_isOf 0 = .ok (.aload_n 0, 1) := by decide +kernel
theorem dX12_isOf_1 : decode cX12_isOf 1 = .ok (.iload_n 1, 1) := by decide +kernel
theorem dX12_isOf_2 : decode cX12_isOf 2 = .ok (.invokevirtual 137, 3) := by decide +kernel
theorem dX12_isOf_5 : decode cX12_isOf 5 = .ok (.ifCond .eq 26, 3) := by decide +kernel
theorem dX12_isOf_8 : decode cX12_isOf 8 = .ok (.iload_n 2, 1) := by decide +kernel
theorem dX12_isOf_9 : decode cX12_isOf 9 = .ok (.aload_n 0, 1) := by decide +kernel
theorem dX12_isOf_10 : decode cX12_isOf 10 = .ok (.getfield 35, 3) := by decide +kernel
theorem dX12_isOf_13 : decode cX12_isOf 13 = .ok (.iload_n 1, 1) := by decide +kernel
theorem dX12_isOf_14 : decode cX12_isOf 14 = .ok (.iaload, 1) := by decide +kernel
theorem dX12_isOf_15 : decode cX12_isOf 15 = .ok (.aload_n 0, 1) := by decide +kernel
theorem dX12_isOf_16 : decode cX12_isOf 16 = .ok (.getfield 38, 3) := by decide +kernel
theorem dX12_isOf_19 : decode cX12_isOf 19 = .ok (.iload_n 1, 1) := by decide +kernel
theorem dX12_isOf_20 : decode cX12_isOf 20 = .ok (.iaload, 1) := by decide +kernel
theorem dX12_isOf_21 : decode cX12_isOf 21 = .ok (.invokestatic 97, 3) := by decide +kernel
theorem dX12_isOf_24 : decode cX12_isOf 24 = .ok (.ifCond .eq 7, 3) := by decide +kernel
theorem dX12_isOf_27 : decode cX12_isOf 27 = .ok (.iconst 1, 1) := by decide +kernel
theorem dX12_isOf_28 : decode cX12_isOf 28 = .ok (.goto 4, 3) := by decide +kernel
theorem dX12_isOf_31 : decode cX12_isOf 31 = .ok (.iconst 0, 1) := by decide +kernel
theorem dX12_isOf_32 : decode cX12_isOf 32 = .ok (.ireturn, 1) := by decide +kernel
theorem dX12_saying_0 : decode cX12_saying 0 = .ok (.aload_n 0, 1) := by decide +kernel
theorem dX12_saying_1 : decode cX12_saying 1 = .ok (.iload_n 1, 1) := by decide +kernel
theorem dX12_saying_2 : decode cX12_saying 2 = .ok (.iload_n 3, 1) := by decide +kernel
theorem dX12_saying_3 : decode cX12_saying 3 = .ok (.invokevirtual 140, 3) := by decide +kernel
theorem dX12_saying_6 : decode cX12_saying 6 = .ok (.ifCond .eq 36, 3) := by decide +kernel
theorem dX12_saying_9 : decode cX12_saying 9 = .ok (.aload_n 0, 1) := by decide +kernel
theorem dX12_saying_10 : decode cX12_saying 10 = .ok (.iload_n 2, 1) := by decide +kernel
theorem dX12_saying_11 : decode cX12_saying 11 = .ok (.invokevirtual 144, 3) := by decide +kernel
theorem dX12_saying_14 : decode cX12_saying 14 = .ok (.ifCond .eq 28, 3) := by decide +kernel
theorem dX12_saying_17 : decode cX12_saying 17 = .ok (.iload 4, 2) := by decide +kernel
theorem dX12_saying_19 : decode cX12_saying 19 = .ok (.iconst 0, 1) := by decide +kernel
theorem dX12_saying_20 : decode cX12_saying 20 = .ok (.iconst 1, 1) := by decide +kernel
theorem dX12_saying_21 : decode cX12_saying 21 = .ok (.invokestatic 97, 3) := by decide +kernel
theorem dX12_saying_24 : decode cX12_saying 24 = .ok (.ifCond .eq 18, 3) := by decide +kernel
theorem dX12_saying_27 : decode cX12_saying 27 = .ok (.iload 5, 2) := by decide +kernel
theorem dX12_saying_29 : decode cX12_saying 29 = .ok (.bipush (-9), 2) := by decide +kernel
theorem dX12_saying_31 : decode cX12_saying 31 = .ok (.if_icmp .eq 13, 3) := by decide +kernel
theorem dX12_saying_34 : decode cX12_saying 34 = .ok (.iload 5, 2) := by decide +kernel
theorem dX12_saying_36 : decode cX12_saying 36 = .ok (.invokestatic 147, 3) := by decide +kernel
theorem dX12_saying_39 : decode cX12_saying 39 = .ok (.ifCond .ne 5, 3) := by decide +kernel
theorem dX12_saying_42 : decode cX12_saying 42 = .ok (.iconst (-1), 1) := by decide +kernel
theorem dX12_saying_43 : decode cX12_saying 43 = .ok (.ireturn, 1) := by decide +kernel
theorem dX12_saying_44 : decode cX12_saying 44 = .ok (.aload_n 0, 1) := by decide +kernel
theorem dX12_saying_45 : decode cX12_saying 45 = .ok (.getfield 131, 3) := by decide +kernel
theorem dX12_saying_48 : decode cX12_saying 48 = .ok (.bipush 24, 2) := by decide +kernel
theorem dX12_saying_50 : decode cX12_saying 50 = .ok (.if_icmp .eq 13, 3) := by decide +kernel
theorem dX12_saying_53 : decode cX12_saying 53 = .ok (.aload_n 0, 1) := by decide +kernel
theorem dX12_saying_54 : decode cX12_saying 54 = .ok (.iload_n 1, 1) := by decide +kernel
theorem dX12_saying_55 : decode cX12_saying 55 = .ok (.invokevirtual 150, 3) := by decide +kernel
theorem dX12_saying_58 : decode cX12_saying 58 = .ok (.bipush 9, 2) := by decide +kernel
theorem dX12_saying_60 : decode cX12_saying 60 = .ok (.if_icmp .ne 8, 3) := by decide +kernel
theorem dX12_saying_63 : decode cX12_saying 63 = .ok (.bipush (-2), 2) := by decide +kernel
theorem dX12_saying_65 : decode cX12_saying 65 = .ok (.goto 14, 3) := by decide +kernel
theorem dX12_saying_68 : decode cX12_saying 68 = .ok (.aload_n 0, 1) := by decide +kernel
theorem dX12_saying_69 : decode cX12_saying 69 = .ok (.iload_n 1, 1) := by decide +kernel
theorem dX12_saying_70 : decode cX12_saying 70 = .ok (.iload_n 2, 1) := by decide +kernel
theorem dX12_saying_71 : decode cX12_saying 71 = .ok (.iload_n 3, 1) := by decide +kernel
theorem dX12_saying_72 : decode cX12_saying 72 = .ok (.iload 4, 2) := by decide +kernel
theorem dX12_saying_74 : decode cX12_saying 74 = .ok (.iload 5, 2) := by decide +kernel
theorem dX12_saying_76 : decode cX12_saying 76 = .ok (.invokevirtual 153, 3) := by decide +kernel
theorem dX12_saying_79 : decode cX12_saying 79 = .ok (.ireturn, 1) := by decide +kernel
theorem dX12_sayings_0 : decode cX12_sayings 0 = .ok (.aload_n 0, 1) := by decide +kernel
theorem dX12_sayings_1 : decode cX12_sayings 1 = .ok (.iload_n 1, 1) := by decide +kernel
theorem dX12_sayings_2 : decode cX12_sayings 2 = .ok (.iload_n 2, 1) := by decide +kernel
theorem dX12_sayings_3 : decode cX12_sayings 3 = .ok (.invokevirtual 140, 3) := by decide +kernel
theorem dX12_sayings_6 : decode cX12_sayings 6 = .ok (.ifCond .ne 5, 3) := by decide +kernel
theorem dX12_sayings_9 : decode cX12_sayings 9 = .ok (.iconst (-1), 1) := by decide +kernel
theorem dX12_sayings_10 : decode cX12_sayings 10 = .ok (.ireturn, 1) := by decide +kernel
theorem dX12_sayings_11 : decode cX12_sayings 11 = .ok (.aload_n 0, 1) := by decide +kernel
theorem dX12_sayings_12 : decode cX12_sayings 12 = .ok (.iload_n 3, 1) := by decide +kernel
theorem dX12_sayings_13 : decode cX12_sayings 13 = .ok (.invokevirtual 112, 3) := by decide +kernel
theorem dX12_sayings_16 : decode cX12_sayings 16 = .ok (.istore 4, 2) := by decide +kernel
theorem dX12_sayings_18 : decode cX12_sayings 18 = .ok (.iload 4, 2) := by decide +kernel
theorem dX12_sayings_20 : decode cX12_sayings 20 = .ok (.ifCond .ge 6, 3) := by decide +kernel
theorem dX12_sayings_23 : decode cX12_sayings 23 = .ok (.iload 4, 2) := by decide +kernel
theorem dX12_sayings_25 : decode cX12_sayings 25 = .ok (.ireturn, 1) := by decide +kernel
theorem dX12_sayings_26 : decode cX12_sayings 26 = .ok (.iconst 1, 1) := by decide +kernel
theorem dX12_sayings_27 : decode cX12_sayings 27 = .ok (.istore 5, 2) := by decide +kernel
theorem dX12_sayings_29 : decode cX12_sayings 29 = .ok (.iconst 0, 1) := by decide +kernel
theorem dX12_sayings_30 : decode cX12_sayings 30 = .ok (.istore 6, 2) := by decide +kernel
theorem dX12_sayings_32 : decode cX12_sayings 32 = .ok (.iload 6, 2) := by decide +kernel
theorem dX12_sayings_34 : decode cX12_sayings 34 = .ok (.aload_n 0, 1) := by decide +kernel
theorem dX12_sayings_35 : decode cX12_sayings 35 = .ok (.getfield 17, 3) := by decide +kernel
theorem dX12_sayings_38 : decode cX12_sayings 38 = .ok (.iload_n 3, 1) := by decide +kernel
theorem dX12_sayings_39 : decode cX12_sayings 39 = .ok (.iaload, 1) := by decide +kernel
theorem dX12_sayings_40 : decode cX12_sayings 40 = .ok (.if_icmp .ge 55, 3) := by decide +kernel
theorem dX12_sayings_43 : decode cX12_sayings 43 = .ok (.iload 5, 2) := by decide +kernel
theorem dX12_sayings_45 : decode cX12_sayings 45 = .ok (.ifCond .eq 41, 3) := by decide +kernel
theorem dX12_sayings_48 : decode cX12_sayings 48 = .ok (.aload_n 0, 1) := by decide +kernel
theorem dX12_sayings_49 : decode cX12_sayings 49 = .ok (.iload_n 3, 1) := by decide +kernel
theorem dX12_sayings_50 : decode cX12_sayings 50 = .ok (.iload 6, 2) := by decide +kernel
theorem dX12_sayings_52 : decode cX12_sayings 52 = .ok (.invokevirtual 115, 3) := by decide +kernel
theorem dX12_sayings_55 : decode cX12_sayings 55 = .ok (.bipush (-128), 2) := by decide +kernel
theorem dX12_sayings_57 : decode cX12_sayings 57 = .ok (.bipush 127, 2) := by decide +kernel
theorem dX12_sayings_59 : decode cX12_sayings 59 = .ok (.invokestatic 97, 3) := by decide +kernel
theorem dX12_sayings_62 : decode cX12_sayings 62 = .ok (.ifCond .eq 24, 3) := by decide +kernel
theorem dX12_sayings_65 : decode cX12_sayings 65 = .ok (.aload_n 0, 1) := by decide +kernel
theorem dX12_sayings_66 : decode cX12_sayings 66 = .ok (.aload_n 0, 1) := by decide +kernel
theorem dX12_sayings_67 : decode cX12_sayings 67 = .ok (.iload_n 3, 1) := by decide +kernel
theorem dX12_sayings_68 : decode cX12_sayings 68 = .ok (.iload 6, 2) := by decide +kernel
theorem dX12_sayings_70 : decode cX12_sayings 70 = .ok (.invokevirtual 115, 3) := by decide +kernel
theorem dX12_sayings_73 : decode cX12_sayings 73 = .ok (.bipush 15, 2) := by decide +kernel
theorem dX12_sayings_75 : decode cX12_sayings 75 = .ok (.iand, 1) := by decide +kernel
theorem dX12_sayings_76 : decode cX12_sayings 76 = .ok (.invokevirtual 144, 3) := by decide +kernel
theorem dX12_sayings_79 : decode cX12_sayings 79 = .ok (.ifCond .eq 7, 3) := by decide +kernel
theorem dX12_sayings_82 : decode cX12_sayings 82 = .ok (.iconst 1, 1) := by decide +kernel
theorem dX12_sayings_83 : decode cX12_sayings 83 = .ok (.goto 4, 3) := by decide +kernel
theorem dX12_sayings_86 : decode cX12_sayings 86 = .ok (.iconst 0, 1) := by decide +kernel
theorem dX12_sayings_87 : decode cX12_sayings 87 = .ok (.istore 5, 2) := by decide +kernel
theorem dX12_sayings_89 : decode cX12_sayings 89 = .ok (.iinc 6 1, 3) := by decide +kernel
theorem dX12_sayings_92 : decode cX12_sayings 92 = .ok (.goto (-60), 3) := by decide +kernel
theorem dX12_sayings_95 : decode cX12_sayings 95 = .ok (.iload 5, 2) := by decide +kernel
theorem dX12_sayings_97 : decode cX12_sayings 97 = .ok (.ifCond .ne 9, 3) := by decide +kernel
theorem dX12_sayings_100 : decode cX12_sayings 100 = .ok (.aload_n 0, 1) := by decide +kernel
theorem dX12_sayings_101 : decode cX12_sayings 101 = .ok (.iconst 3, 1) := by decide +kernel
theorem dX12_sayings_102 : decode cX12_sayings 102 = .ok (.invokevirtual 105, 3) := by decide +kernel
theorem dX12_sayings_105 : decode cX12_sayings 105 = .ok (.ireturn, 1) := by decide +kernel
theorem dX12_sayings_106 : decode cX12_sayings 106 = .ok (.aload_n 0, 1) := by decide +kernel
theorem dX12_sayings_107 : decode cX12_sayings 107 = .ok (.getfield 131, 3) := by decide +kernel
theorem dX12_sayings_110 : decode cX12_sayings 110 = .ok (.aload_n 0, 1) := by decide +kernel
theorem dX12_sayings_111 : decode cX12_sayings 111 = .ok (.getfield 17, 3) := by decide +kernel
theorem dX12_sayings_114 : decode cX12_sayings 114 = .ok (.iload_n 3, 1) := by decide +kernel
theorem dX12_sayings_115 : decode cX12_sayings 115 = .ok (.iaload, 1) := by decide +kernel
theorem dX12_sayings_116 : decode cX12_sayings 116 = .ok (.iadd, 1) := by decide +kernel
theorem dX12_sayings_117 : decode cX12_sayings 117 = .ok (.bipush 24, 2) := by decide +kernel
theorem dX12_sayings_119 : decode cX12_sayings 119 = .ok (.if_icmp .gt 20, 3) := by decide +kernel
theorem dX12_sayings_122 : decode cX12_sayings 122 = .ok (.aload_n 0, 1) := by decide +kernel
theorem dX12_sayings_123 : decode cX12_sayings 123 = .ok (.iload_n 1, 1) := by decide +kernel
theorem dX12_sayings_124 : decode cX12_sayings 124 = .ok (.invokevirtual 150, 3) := by decide +kernel
theorem dX12_sayings_127 : decode cX12_sayings 127 = .ok (.aload_n 0, 1) := by decide +kernel
theorem dX12_sayings_128 : decode cX12_sayings 128 = .ok (.getfield 17, 3) := by decide +kernel
theorem dX12_sayings_131 : decode cX12_sayings 131 = .ok (.iload_n 3, 1) := by decide +kernel
theorem dX12_sayings_132 : decode cX12_sayings 132 = .ok (.iaload, 1) := by decide +kernel
theorem dX12_sayings_133 : decode cX12_sayings 133 = .ok (.iadd, 1) := by decide +kernel
theorem dX12_sayings_134 : decode cX12_sayings 134 = .ok (.bipush 9, 2) := by decide +kernel
theorem dX12_sayings_136 : decode cX12_sayings 136 = .ok (.if_icmp .le 6, 3) := by decide +kernel
theorem dX12_sayings_139 : decode cX12_sayings 139 = .ok (.bipush (-2), 2) := by decide +kernel
theorem dX12_sayings_141 : decode cX12_sayings 141 = .ok (.ireturn, 1) := by decide +kernel
theorem dX12_sayings_142 : decode cX12_sayings 142 = .ok (.iconst 0, 1) := by decide +kernel
theorem dX12_sayings_143 : decode cX12_sayings 143 = .ok (.istore 6, 2) := by decide +kernel
theorem dX12_sayings_145 : decode cX12_sayings 145 = .ok (.iload 6, 2) := by decide +kernel
theorem dX12_sayings_147 : decode cX12_sayings 147 = .ok (.aload_n 0, 1) := by decide +kernel
theorem dX12_sayings_148 : decode cX12_sayings 148 = .ok (.getfield 17, 3) := by decide +kernel
theorem dX12_sayings_151 : decode cX12_sayings 151 = .ok (.iload_n 3, 1) := by decide +kernel
theorem dX12_sayings_152 : decode cX12_sayings 152 = .ok (.iaload, 1) := by decide +kernel
theorem dX12_sayings_153 : decode cX12_sayings 153 = .ok (.if_icmp .ge 39, 3) := by decide +kernel
theorem dX12_sayings_156 : decode cX12_sayings 156 = .ok (.aload_n 0, 1) := by decide +kernel
theorem dX12_sayings_157 : decode cX12_sayings 157 = .ok (.iload_n 1, 1) := by decide +kernel
theorem dX12_sayings_158 : decode cX12_sayings 158 = .ok (.aload_n 0, 1) := by decide +kernel
theorem dX12_sayings_159 : decode cX12_sayings 159 = .ok (.iload_n 3, 1) := by decide +kernel
theorem dX12_sayings_160 : decode cX12_sayings 160 = .ok (.iload 6, 2) := by decide +kernel
theorem dX12_sayings_162 : decode cX12_sayings 162 = .ok (.invokevirtual 115, 3) := by decide +kernel
theorem dX12_sayings_165 : decode cX12_sayings 165 = .ok (.bipush 15, 2) := by decide +kernel
theorem dX12_sayings_167 : decode cX12_sayings 167 = .ok (.iand, 1) := by decide +kernel
theorem dX12_sayings_168 : decode cX12_sayings 168 = .ok (.iload_n 2, 1) := by decide +kernel
theorem dX12_sayings_169 : decode cX12_sayings 169 = .ok (.aload_n 0, 1) := by decide +kernel
theorem dX12_sayings_170 : decode cX12_sayings 170 = .ok (.iload_n 3, 1) := by decide +kernel
theorem dX12_sayings_171 : decode cX12_sayings 171 = .ok (.iload 6, 2) := by decide +kernel
theorem dX12_sayings_173 : decode cX12_sayings 173 = .ok (.invokevirtual 115, 3) := by decide +kernel
theorem dX12_sayings_176 : decode cX12_sayings 176 = .ok (.iconst 4, 1) := by decide +kernel
theorem dX12_sayings_177 : decode cX12_sayings 177 = .ok (.ishr, 1) := by decide +kernel
theorem dX12_sayings_178 : decode cX12_sayings 178 = .ok (.iconst 1, 1) := by decide +kernel
theorem dX12_sayings_179 : decode cX12_sayings 179 = .ok (.iand, 1) := by decide +kernel
theorem dX12_sayings_180 : decode cX12_sayings 180 = .ok (.bipush (-9), 2) := by decide +kernel
theorem dX12_sayings_182 : decode cX12_sayings 182 = .ok (.invokevirtual 153, 3) := by decide +kernel
theorem dX12_sayings_185 : decode cX12_sayings 185 = .ok (.pop, 1) := by decide +kernel
theorem dX12_sayings_186 : decode cX12_sayings 186 = .ok (.iinc 6 1, 3) := by decide +kernel
theorem dX12_sayings_189 : decode cX12_sayings 189 = .ok (.goto (-44), 3) := by decide +kernel
theorem dX12_sayings_192 : decode cX12_sayings 192 = .ok (.aload_n 0, 1) := by decide +kernel
theorem dX12_sayings_193 : decode cX12_sayings 193 = .ok (.getfield 17, 3) := by decide +kernel
theorem dX12_sayings_196 : decode cX12_sayings 196 = .ok (.iload_n 3, 1) := by decide +kernel
theorem dX12_sayings_197 : decode cX12_sayings 197 = .ok (.iaload, 1) := by decide +kernel
theorem dX12_sayings_198 : decode cX12_sayings 198 = .ok (.ireturn, 1) := by decide +kernel
theorem dX12_sayingTells_0 : decode cX12_sayingTells 0 = .ok (.iload_n 2, 1) := by decide +kernel
theorem dX12_sayingTells_1 : decode cX12_sayingTells 1 = .ok (.ifCond .ne 12, 3) := by decide +kernel
theorem dX12_sayingTells_4 : decode cX12_sayingTells 4 = .ok (.aload_n 0, 1) := by decide +kernel
theorem dX12_sayingTells_5 : decode cX12_sayingTells 5 = .ok (.getfield 44, 3) := by decide +kernel
theorem dX12_sayingTells_8 : decode cX12_sayingTells 8 = .ok (.iload_n 1, 1) := by decide +kernel
theorem dX12_sayingTells_9 : decode cX12_sayingTells 9 = .ok (.iaload, 1) := by decide +kernel
theorem dX12_sayingTells_10 : decode cX12_sayingTells 10 = .ok (.goto 51, 3) := by decide +kernel
theorem dX12_sayingTells_13 : decode cX12_sayingTells 13 = .ok (.iload_n 2, 1) := by decide +kernel
theorem dX12_sayingTells_14 : decode cX12_sayingTells 14 = .ok (.iconst 1, 1) := by decide +kernel
theorem dX12_sayingTells_15 : decode cX12_sayingTells 15 = .ok (.if_icmp .ne 12, 3) := by decide +kernel
theorem dX12_sayingTells_18 : decode cX12_sayingTells 18 = .ok (.aload_n 0, 1) := by decide +kernel
theorem dX12_sayingTells_19 : decode cX12_sayingTells 19 = .ok (.getfield 47, 3) := by decide +kernel
theorem dX12_sayingTells_22 : decode cX12_sayingTells 22 = .ok (.iload_n 1, 1) := by decide +kernel
theorem dX12_sayingTells_23 : decode cX12_sayingTells 23 = .ok (.iaload, 1) := by decide +kernel
theorem dX12_sayingTells_24 : decode cX12_sayingTells 24 = .ok (.goto 37, 3) := by decide +kernel
theorem dX12_sayingTells_27 : decode cX12_sayingTells 27 = .ok (.iload_n 2, 1) := by decide +kernel
theorem dX12_sayingTells_28 : decode cX12_sayingTells 28 = .ok (.iconst 2, 1) := by decide +kernel
theorem dX12_sayingTells_29 : decode cX12_sayingTells 29 = .ok (.if_icmp .ne 12, 3) := by decide +kernel
theorem dX12_sayingTells_32 : decode cX12_sayingTells 32 = .ok (.aload_n 0, 1) := by decide +kernel
theorem dX12_sayingTells_33 : decode cX12_sayingTells 33 = .ok (.getfield 50, 3) := by decide +kernel
theorem dX12_sayingTells_36 : decode cX12_sayingTells 36 = .ok (.iload_n 1, 1) := by decide +kernel
theorem dX12_sayingTells_37 : decode cX12_sayingTells 37 = .ok (.iaload, 1) := by decide +kernel
theorem dX12_sayingTells_38 : decode cX12_sayingTells 38 = .ok (.goto 23, 3) := by decide +kernel
theorem dX12_sayingTells_41 : decode cX12_sayingTells 41 = .ok (.iload_n 2, 1) := by decide +kernel
theorem dX12_sayingTells_42 : decode cX12_sayingTells 42 = .ok (.iconst 3, 1) := by decide +kernel
theorem dX12_sayingTells_43 : decode cX12_sayingTells 43 = .ok (.if_icmp .ne 12, 3) := by decide +kernel
theorem dX12_sayingTells_46 : decode cX12_sayingTells 46 = .ok (.aload_n 0, 1) := by decide +kernel
theorem dX12_sayingTells_47 : decode cX12_sayingTells 47 = .ok (.getfield 53, 3) := by decide +kernel
theorem dX12_sayingTells_50 : decode cX12_sayingTells 50 = .ok (.iload_n 1, 1) := by decide +kernel
theorem dX12_sayingTells_51 : decode cX12_sayingTells 51 = .ok (.iaload, 1) := by decide +kernel
theorem dX12_sayingTells_52 : decode cX12_sayingTells 52 = .ok (.goto 9, 3) := by decide +kernel
theorem dX12_sayingTells_55 : decode cX12_sayingTells 55 = .ok (.aload_n 0, 1) := by decide +kernel
theorem dX12_sayingTells_56 : decode cX12_sayingTells 56 = .ok (.getfield 56, 3) := by decide +kernel
theorem dX12_sayingTells_59 : decode cX12_sayingTells 59 = .ok (.iload_n 1, 1) := by decide +kernel
theorem dX12_sayingTells_60 : decode cX12_sayingTells 60 = .ok (.iaload, 1) := by decide +kernel
theorem dX12_sayingTells_61 : decode cX12_sayingTells 61 = .ok (.ireturn, 1) := by decide +kernel
theorem dX12_told_0 : decode cX12_told 0 = .ok (.aload_n 0, 1) := by decide +kernel
theorem dX12_told_1 : decode cX12_told 1 = .ok (.iload_n 1, 1) := by decide +kernel
theorem dX12_told_2 : decode cX12_told 2 = .ok (.invokevirtual 157, 3) := by decide +kernel
theorem dX12_told_5 : decode cX12_told 5 = .ok (.ifCond .eq 26, 3) := by decide +kernel
theorem dX12_told_8 : decode cX12_told 8 = .ok (.iload_n 2, 1) := by decide +kernel
theorem dX12_told_9 : decode cX12_told 9 = .ok (.iconst 0, 1) := by decide +kernel
theorem dX12_told_10 : decode cX12_told 10 = .ok (.iconst 4, 1) := by decide +kernel
theorem dX12_told_11 : decode cX12_told 11 = .ok (.invokestatic 97, 3) := by decide +kernel
theorem dX12_told_14 : decode cX12_told 14 = .ok (.ifCond .eq 17, 3) := by decide +kernel
theorem dX12_told_17 : decode cX12_told 17 = .ok (.aload_n 0, 1) := by decide +kernel
theorem dX12_told_18 : decode cX12_told 18 = .ok (.aload_n 0, 1) := by decide +kernel
theorem dX12_told_19 : decode cX12_told 19 = .ok (.iload_n 1, 1) := by decide +kernel
theorem dX12_told_20 : decode cX12_told 20 = .ok (.iload_n 2, 1) := by decide +kernel
theorem dX12_told_21 : decode cX12_told 21 = .ok (.invokevirtual 160, 3) := by decide +kernel
theorem dX12_told_24 : decode cX12_told 24 = .ok (.iconst 1, 1) := by decide +kernel
theorem dX12_told_25 : decode cX12_told 25 = .ok (.invokevirtual 119, 3) := by decide +kernel
theorem dX12_told_28 : decode cX12_told 28 = .ok (.goto 4, 3) := by decide +kernel
theorem dX12_told_31 : decode cX12_told 31 = .ok (.iconst (-1), 1) := by decide +kernel
theorem dX12_told_32 : decode cX12_told 32 = .ok (.ireturn, 1) := by decide +kernel
theorem dX12_traits_0 : decode cX12_traits 0 = .ok (.aload_n 0, 1) := by decide +kernel
theorem dX12_traits_1 : decode cX12_traits 1 = .ok (.iload_n 1, 1) := by decide +kernel
theorem dX12_traits_2 : decode cX12_traits 2 = .ok (.invokevirtual 144, 3) := by decide +kernel
theorem dX12_traits_5 : decode cX12_traits 5 = .ok (.ifCond .eq 12, 3) := by decide +kernel
theorem dX12_traits_8 : decode cX12_traits 8 = .ok (.aload_n 0, 1) := by decide +kernel
theorem dX12_traits_9 : decode cX12_traits 9 = .ok (.getfield 32, 3) := by decide +kernel
theorem dX12_traits_12 : decode cX12_traits 12 = .ok (.iload_n 1, 1) := by decide +kernel
theorem dX12_traits_13 : decode cX12_traits 13 = .ok (.iaload, 1) := by decide +kernel
theorem dX12_traits_14 : decode cX12_traits 14 = .ok (.goto 4, 3) := by decide +kernel
theorem dX12_traits_17 : decode cX12_traits 17 = .ok (.iconst (-1), 1) := by decide +kernel
theorem dX12_traits_18 : decode cX12_traits 18 = .ok (.ireturn, 1) := by decide +kernel
theorem dX12_pupils_0 : decode cX12_pupils 0 = .ok (.iconst 0, 1) := by decide +kernel
theorem dX12_pupils_1 : decode cX12_pupils 1 = .ok (.istore_n 2, 1) := by decide +kernel
theorem dX12_pupils_2 : decode cX12_pupils 2 = .ok (.iconst 0, 1) := by decide +kernel
theorem dX12_pupils_3 : decode cX12_pupils 3 = .ok (.istore_n 3, 1) := by decide +kernel
theorem dX12_pupils_4 : decode cX12_pupils 4 = .ok (.iload_n 3, 1) := by decide +kernel
theorem dX12_pupils_5 : decode cX12_pupils 5 = .ok (.aload_n 0, 1) := by decide +kernel
theorem dX12_pupils_6 : decode cX12_pupils 6 = .ok (.getfield 128, 3) := by decide +kernel
theorem dX12_pupils_9 : decode cX12_pupils 9 = .ok (.if_icmp .ge 70, 3) := by decide +kernel
theorem dX12_pupils_12 : decode cX12_pupils 12 = .ok (.iconst 0, 1) := by decide +kernel
theorem dX12_pupils_13 : decode cX12_pupils 13 = .ok (.istore 4, 2) := by decide +kernel
theorem dX12_pupils_15 : decode cX12_pupils 15 = .ok (.aload_n 0, 1) := by decide +kernel
theorem dX12_pupils_16 : decode cX12_pupils 16 = .ok (.getfield 41, 3) := by decide +kernel
theorem dX12_pupils_19 : decode cX12_pupils 19 = .ok (.iload_n 3, 1) := by decide +kernel
theorem dX12_pupils_20 : decode cX12_pupils 20 = .ok (.iaload, 1) := by decide +kernel
theorem dX12_pupils_21 : decode cX12_pupils 21 = .ok (.istore 5, 2) := by decide +kernel
theorem dX12_pupils_23 : decode cX12_pupils 23 = .ok (.iload 5, 2) := by decide +kernel
theorem dX12_pupils_25 : decode cX12_pupils 25 = .ok (.bipush (-9), 2) := by decide +kernel
theorem dX12_pupils_27 : decode cX12_pupils 27 = .ok (.if_icmp .eq 33, 3) := by decide +kernel
theorem dX12_pupils_30 : decode cX12_pupils 30 = .ok (.iload 4, 2) := by decide +kernel
theorem dX12_pupils_32 : decode cX12_pupils 32 = .ok (.ifCond .ne 9, 3) := by decide +kernel
theorem dX12_pupils_35 : decode cX12_pupils 35 = .ok (.iload 5, 2) := by decide +kernel
theorem dX12_pupils_37 : decode cX12_pupils 37 = .ok (.iload_n 1, 1) := by decide +kernel
theorem dX12_pupils_38 : decode cX12_pupils 38 = .ok (.if_icmp .ne 7, 3) := by decide +kernel
theorem dX12_pupils_41 : decode cX12_pupils 41 = .ok (.iconst 1, 1) := by decide +kernel
theorem dX12_pupils_42 : decode cX12_pupils 42 = .ok (.goto 4, 3) := by decide +kernel
theorem dX12_pupils_45 : decode cX12_pupils 45 = .ok (.iconst 0, 1) := by decide +kernel
theorem dX12_pupils_46 : decode cX12_pupils 46 = .ok (.istore 4, 2) := by decide +kernel
theorem dX12_pupils_48 : decode cX12_pupils 48 = .ok (.aload_n 0, 1) := by decide +kernel
theorem dX12_pupils_49 : decode cX12_pupils 49 = .ok (.getfield 41, 3) := by decide +kernel
theorem dX12_pupils_52 : decode cX12_pupils 52 = .ok (.iload 5, 2) := by decide +kernel
theorem dX12_pupils_54 : decode cX12_pupils 54 = .ok (.iaload, 1) := by decide +kernel
theorem dX12_pupils_55 : decode cX12_pupils 55 = .ok (.istore 5, 2) := by decide +kernel
theorem dX12_pupils_57 : decode cX12_pupils 57 = .ok (.goto (-34), 3) := by decide +kernel
theorem dX12_pupils_60 : decode cX12_pupils 60 = .ok (.iload_n 2, 1) := by decide +kernel
theorem dX12_pupils_61 : decode cX12_pupils 61 = .ok (.iload 4, 2) := by decide +kernel
theorem dX12_pupils_63 : decode cX12_pupils 63 = .ok (.ifCond .eq 7, 3) := by decide +kernel
theorem dX12_pupils_66 : decode cX12_pupils 66 = .ok (.iconst 1, 1) := by decide +kernel
theorem dX12_pupils_67 : decode cX12_pupils 67 = .ok (.goto 4, 3) := by decide +kernel
theorem dX12_pupils_70 : decode cX12_pupils 70 = .ok (.iconst 0, 1) := by decide +kernel
theorem dX12_pupils_71 : decode cX12_pupils 71 = .ok (.iadd, 1) := by decide +kernel
theorem dX12_pupils_72 : decode cX12_pupils 72 = .ok (.istore_n 2, 1) := by decide +kernel
theorem dX12_pupils_73 : decode cX12_pupils 73 = .ok (.iinc 3 1, 3) := by decide +kernel
theorem dX12_pupils_76 : decode cX12_pupils 76 = .ok (.goto (-72), 3) := by decide +kernel
theorem dX12_pupils_79 : decode cX12_pupils 79 = .ok (.iload_n 2, 1) := by decide +kernel
theorem dX12_pupils_80 : decode cX12_pupils 80 = .ok (.ireturn, 1) := by decide +kernel
theorem dX12_lifeTells_0 : decode cX12_lifeTells 0 = .ok (.iload_n 2, 1) := by decide +kernel
theorem dX12_lifeTells_1 : decode cX12_lifeTells 1 = .ok (.ifCond .ne 12, 3) := by decide +kernel
theorem dX12_lifeTells_4 : decode cX12_lifeTells 4 = .ok (.aload_n 0, 1) := by decide +kernel
theorem dX12_lifeTells_5 : decode cX12_lifeTells 5 = .ok (.getfield 35, 3) := by decide +kernel
theorem dX12_lifeTells_8 : decode cX12_lifeTells 8 = .ok (.iload_n 1, 1) := by decide +kernel
theorem dX12_lifeTells_9 : decode cX12_lifeTells 9 = .ok (.iaload, 1) := by decide +kernel
theorem dX12_lifeTells_10 : decode cX12_lifeTells 10 = .ok (.goto 49, 3) := by decide +kernel
theorem dX12_lifeTells_13 : decode cX12_lifeTells 13 = .ok (.iload_n 2, 1) := by decide +kernel
theorem dX12_lifeTells_14 : decode cX12_lifeTells 14 = .ok (.iconst 1, 1) := by decide +kernel
theorem dX12_lifeTells_15 : decode cX12_lifeTells 15 = .ok (.if_icmp .ne 12, 3) := by decide +kernel
theorem dX12_lifeTells_18 : decode cX12_lifeTells 18 = .ok (.aload_n 0, 1) := by decide +kernel
theorem dX12_lifeTells_19 : decode cX12_lifeTells 19 = .ok (.getfield 38, 3) := by decide +kernel
theorem dX12_lifeTells_22 : decode cX12_lifeTells 22 = .ok (.iload_n 1, 1) := by decide +kernel
theorem dX12_lifeTells_23 : decode cX12_lifeTells 23 = .ok (.iaload, 1) := by decide +kernel
theorem dX12_lifeTells_24 : decode cX12_lifeTells 24 = .ok (.goto 35, 3) := by decide +kernel
theorem dX12_lifeTells_27 : decode cX12_lifeTells 27 = .ok (.iload_n 2, 1) := by decide +kernel
theorem dX12_lifeTells_28 : decode cX12_lifeTells 28 = .ok (.iconst 2, 1) := by decide +kernel
theorem dX12_lifeTells_29 : decode cX12_lifeTells 29 = .ok (.if_icmp .ne 12, 3) := by decide +kernel
theorem dX12_lifeTells_32 : decode cX12_lifeTells 32 = .ok (.aload_n 0, 1) := by decide +kernel
theorem dX12_lifeTells_33 : decode cX12_lifeTells 33 = .ok (.getfield 41, 3) := by decide +kernel
theorem dX12_lifeTells_36 : decode cX12_lifeTells 36 = .ok (.iload_n 1, 1) := by decide +kernel
theorem dX12_lifeTells_37 : decode cX12_lifeTells 37 = .ok (.iaload, 1) := by decide +kernel
theorem dX12_lifeTells_38 : decode cX12_lifeTells 38 = .ok (.goto 21, 3) := by decide +kernel
theorem dX12_lifeTells_41 : decode cX12_lifeTells 41 = .ok (.iload_n 2, 1) := by decide +kernel
theorem dX12_lifeTells_42 : decode cX12_lifeTells 42 = .ok (.iconst 3, 1) := by decide +kernel
theorem dX12_lifeTells_43 : decode cX12_lifeTells 43 = .ok (.if_icmp .ne 11, 3) := by decide +kernel
theorem dX12_lifeTells_46 : decode cX12_lifeTells 46 = .ok (.aload_n 0, 1) := by decide +kernel
theorem dX12_lifeTells_47 : decode cX12_lifeTells 47 = .ok (.iload_n 1, 1) := by decide +kernel
theorem dX12_lifeTells_48 : decode cX12_lifeTells 48 = .ok (.invokevirtual 150, 3) := by decide +kernel
theorem dX12_lifeTells_51 : decode cX12_lifeTells 51 = .ok (.goto 8, 3) := by decide +kernel
theorem dX12_lifeTells_54 : decode cX12_lifeTells 54 = .ok (.aload_n 0, 1) := by decide +kernel
theorem dX12_lifeTells_55 : decode cX12_lifeTells 55 = .ok (.iload_n 1, 1) := by decide +kernel
theorem dX12_lifeTells_56 : decode cX12_lifeTells 56 = .ok (.invokevirtual 163, 3) := by decide +kernel
theorem dX12_lifeTells_59 : decode cX12_lifeTells 59 = .ok (.ireturn, 1) := by decide +kernel
theorem dX12_life_0 : decode cX12_life 0 = .ok (.aload_n 0, 1) := by decide +kernel
theorem dX12_life_1 : decode cX12_life 1 = .ok (.iload_n 1, 1) := by decide +kernel
theorem dX12_life_2 : decode cX12_life 2 = .ok (.invokevirtual 137, 3) := by decide +kernel
theorem dX12_life_5 : decode cX12_life 5 = .ok (.ifCond .eq 26, 3) := by decide +kernel
theorem dX12_life_8 : decode cX12_life 8 = .ok (.iload_n 2, 1) := by decide +kernel
theorem dX12_life_9 : decode cX12_life 9 = .ok (.iconst 0, 1) := by decide +kernel
theorem dX12_life_10 : decode cX12_life 10 = .ok (.iconst 4, 1) := by decide +kernel
theorem dX12_life_11 : decode cX12_life 11 = .ok (.invokestatic 97, 3) := by decide +kernel
theorem dX12_life_14 : decode cX12_life 14 = .ok (.ifCond .eq 17, 3) := by decide +kernel
theorem dX12_life_17 : decode cX12_life 17 = .ok (.aload_n 0, 1) := by decide +kernel
theorem dX12_life_18 : decode cX12_life 18 = .ok (.aload_n 0, 1) := by decide +kernel
theorem dX12_life_19 : decode cX12_life 19 = .ok (.iload_n 1, 1) := by decide +kernel
theorem dX12_life_20 : decode cX12_life 20 = .ok (.iload_n 2, 1) := by decide +kernel
theorem dX12_life_21 : decode cX12_life 21 = .ok (.invokevirtual 166, 3) := by decide +kernel
theorem dX12_life_24 : decode cX12_life 24 = .ok (.iconst 1, 1) := by decide +kernel
theorem dX12_life_25 : decode cX12_life 25 = .ok (.invokevirtual 119, 3) := by decide +kernel
theorem dX12_life_28 : decode cX12_life 28 = .ok (.goto 4, 3) := by decide +kernel
theorem dX12_life_31 : decode cX12_life 31 = .ok (.iconst (-1), 1) := by decide +kernel
theorem dX12_life_32 : decode cX12_life 32 = .ok (.ireturn, 1) := by decide +kernel
theorem dX12_byteAt_0 : decode cX12_byteAt 0 = .ok (.iload_n 2, 1) := by decide +kernel
theorem dX12_byteAt_1 : decode cX12_byteAt 1 = .ok (.aload_n 0, 1) := by decide +kernel
theorem dX12_byteAt_2 : decode cX12_byteAt 2 = .ok (.getfield 26, 3) := by decide +kernel
theorem dX12_byteAt_5 : decode cX12_byteAt 5 = .ok (.iload_n 1, 1) := by decide +kernel
theorem dX12_byteAt_6 : decode cX12_byteAt 6 = .ok (.iaload, 1) := by decide +kernel
theorem dX12_byteAt_7 : decode cX12_byteAt 7 = .ok (.if_icmp .ge 17, 3) := by decide +kernel
theorem dX12_byteAt_10 : decode cX12_byteAt 10 = .ok (.aload_n 0, 1) := by decide +kernel
theorem dX12_byteAt_11 : decode cX12_byteAt 11 = .ok (.getfield 29, 3) := by decide +kernel
theorem dX12_byteAt_14 : decode cX12_byteAt 14 = .ok (.bipush 40, 2) := by decide +kernel
theorem dX12_byteAt_16 : decode cX12_byteAt 16 = .ok (.iload_n 1, 1) := by decide +kernel
theorem dX12_byteAt_17 : decode cX12_byteAt 17 = .ok (.imul, 1) := by decide +kernel
theorem dX12_byteAt_18 : decode cX12_byteAt 18 = .ok (.iload_n 2, 1) := by decide +kernel
theorem dX12_byteAt_19 : decode cX12_byteAt 19 = .ok (.iadd, 1) := by decide +kernel
theorem dX12_byteAt_20 : decode cX12_byteAt 20 = .ok (.iaload, 1) := by decide +kernel
theorem dX12_byteAt_21 : decode cX12_byteAt 21 = .ok (.goto 5, 3) := by decide +kernel
theorem dX12_byteAt_24 : decode cX12_byteAt 24 = .ok (.bipush (-9), 2) := by decide +kernel
theorem dX12_byteAt_26 : decode cX12_byteAt 26 = .ok (.ireturn, 1) := by decide +kernel
theorem dX12_power_0 : decode cX12_power 0 = .ok (.iconst 1, 1) := by decide +kernel
theorem dX12_power_1 : decode cX12_power 1 = .ok (.istore_n 1, 1) := by decide +kernel
theorem dX12_power_2 : decode cX12_power 2 = .ok (.iconst 0, 1) := by decide +kernel
theorem dX12_power_3 : decode cX12_power 3 = .ok (.istore_n 2, 1) := by decide +kernel
theorem dX12_power_4 : decode cX12_power 4 = .ok (.iload_n 2, 1) := by decide +kernel
theorem dX12_power_5 : decode cX12_power 5 = .ok (.iload_n 0, 1) := by decide +kernel
theorem dX12_power_6 : decode cX12_power 6 = .ok (.if_icmp .ge 13, 3) := by decide +kernel
theorem dX12_power_9 : decode cX12_power 9 = .ok (.iload_n 1, 1) := by decide +kernel
theorem dX12_power_10 : decode cX12_power 10 = .ok (.iconst 3, 1) := by decide +kernel
theorem dX12_power_11 : decode cX12_power 11 = .ok (.imul, 1) := by decide +kernel
theorem dX12_power_12 : decode cX12_power 12 = .ok (.istore_n 1, 1) := by decide +kernel
theorem dX12_power_13 : decode cX12_power 13 = .ok (.iinc 2 1, 3) := by decide +kernel
theorem dX12_power_16 : decode cX12_power 16 = .ok (.goto (-12), 3) := by decide +kernel
theorem dX12_power_19 : decode cX12_power 19 = .ok (.iload_n 1, 1) := by decide +kernel
theorem dX12_power_20 : decode cX12_power 20 = .ok (.ireturn, 1) := by decide +kernel
theorem dX12_goesOn_0 : decode cX12_goesOn 0 = .ok (.iconst 0, 1) := by decide +kernel
theorem dX12_goesOn_1 : decode cX12_goesOn 1 = .ok (.istore_n 2, 1) := by decide +kernel
theorem dX12_goesOn_2 : decode cX12_goesOn 2 = .ok (.aload_n 0, 1) := by decide +kernel
theorem dX12_goesOn_3 : decode cX12_goesOn 3 = .ok (.iload_n 1, 1) := by decide +kernel
theorem dX12_goesOn_4 : decode cX12_goesOn 4 = .ok (.iload_n 2, 1) := by decide +kernel
theorem dX12_goesOn_5 : decode cX12_goesOn 5 = .ok (.invokevirtual 169, 3) := by decide +kernel
theorem dX12_goesOn_8 : decode cX12_goesOn 8 = .ok (.bipush 32, 2) := by decide +kernel
theorem dX12_goesOn_10 : decode cX12_goesOn 10 = .ok (.if_icmp .ne 9, 3) := by decide +kernel
theorem dX12_goesOn_13 : decode cX12_goesOn 13 = .ok (.iinc 2 1, 3) := by decide +kernel
theorem dX12_goesOn_16 : decode cX12_goesOn 16 = .ok (.goto (-14), 3) := by decide +kernel
theorem dX12_goesOn_19 : decode cX12_goesOn 19 = .ok (.iload_n 2, 1) := by decide +kernel
theorem dX12_goesOn_20 : decode cX12_goesOn 20 = .ok (.istore_n 3, 1) := by decide +kernel
theorem dX12_goesOn_21 : decode cX12_goesOn 21 = .ok (.aload_n 0, 1) := by decide +kernel
theorem dX12_goesOn_22 : decode cX12_goesOn 22 = .ok (.iconst 0, 1) := by decide +kernel
theorem dX12_goesOn_23 : decode cX12_goesOn 23 = .ok (.putfield 172, 3) := by decide +kernel
theorem dX12_goesOn_26 : decode cX12_goesOn 26 = .ok (.aload_n 0, 1) := by decide +kernel
theorem dX12_goesOn_27 : decode cX12_goesOn 27 = .ok (.iload_n 1, 1) := by decide +kernel
theorem dX12_goesOn_28 : decode cX12_goesOn 28 = .ok (.iload_n 2, 1) := by decide +kernel
theorem dX12_goesOn_29 : decode cX12_goesOn 29 = .ok (.invokevirtual 169, 3) := by decide +kernel
theorem dX12_goesOn_32 : decode cX12_goesOn 32 = .ok (.bipush 48, 2) := by decide +kernel
theorem dX12_goesOn_34 : decode cX12_goesOn 34 = .ok (.if_icmp .eq 14, 3) := by decide +kernel
theorem dX12_goesOn_37 : decode cX12_goesOn 37 = .ok (.aload_n 0, 1) := by decide +kernel
theorem dX12_goesOn_38 : decode cX12_goesOn 38 = .ok (.iload_n 1, 1) := by decide +kernel
theorem dX12_goesOn_39 : decode cX12_goesOn 39 = .ok (.iload_n 2, 1) := by decide +kernel
theorem dX12_goesOn_40 : decode cX12_goesOn 40 = .ok (.invokevirtual 169, 3) := by decide +kernel
theorem dX12_goesOn_43 : decode cX12_goesOn 43 = .ok (.bipush 49, 2) := by decide +kernel
theorem dX12_goesOn_45 : decode cX12_goesOn 45 = .ok (.if_icmp .ne 31, 3) := by decide +kernel
theorem dX12_goesOn_48 : decode cX12_goesOn 48 = .ok (.aload_n 0, 1) := by decide +kernel
theorem dX12_goesOn_49 : decode cX12_goesOn 49 = .ok (.aload_n 0, 1) := by decide +kernel
theorem dX12_goesOn_50 : decode cX12_goesOn 50 = .ok (.iload_n 1, 1) := by decide +kernel
theorem dX12_goesOn_51 : decode cX12_goesOn 51 = .ok (.iload_n 2, 1) := by decide +kernel
theorem dX12_goesOn_52 : decode cX12_goesOn 52 = .ok (.invokevirtual 169, 3) := by decide +kernel
theorem dX12_goesOn_55 : decode cX12_goesOn 55 = .ok (.bipush 48, 2) := by decide +kernel
theorem dX12_goesOn_57 : decode cX12_goesOn 57 = .ok (.if_icmp .ne 9, 3) := by decide +kernel
theorem dX12_goesOn_60 : decode cX12_goesOn 60 = .ok (.sipush 243, 3) := by decide +kernel
theorem dX12_goesOn_63 : decode cX12_goesOn 63 = .ok (.goto 4, 3) := by decide +kernel
theorem dX12_goesOn_66 : decode cX12_goesOn 66 = .ok (.iconst 0, 1) := by decide +kernel
theorem dX12_goesOn_67 : decode cX12_goesOn 67 = .ok (.putfield 172, 3) := by decide +kernel
theorem dX12_goesOn_70 : decode cX12_goesOn 70 = .ok (.iinc 2 1, 3) := by decide +kernel
theorem dX12_goesOn_73 : decode cX12_goesOn 73 = .ok (.goto 128, 3) := by decide +kernel
theorem dX12_goesOn_76 : decode cX12_goesOn 76 = .ok (.iconst (-1), 1) := by decide +kernel
theorem dX12_goesOn_77 : decode cX12_goesOn 77 = .ok (.istore 4, 2) := by decide +kernel
theorem dX12_goesOn_79 : decode cX12_goesOn 79 = .ok (.iconst 1, 1) := by decide +kernel
theorem dX12_goesOn_80 : decode cX12_goesOn 80 = .ok (.istore 5, 2) := by decide +kernel
theorem dX12_goesOn_82 : decode cX12_goesOn 82 = .ok (.iload 5, 2) := by decide +kernel
theorem dX12_goesOn_84 : decode cX12_goesOn 84 = .ok (.ifCond .eq 117, 3) := by decide +kernel
theorem dX12_goesOn_87 : decode cX12_goesOn 87 = .ok (.aload_n 0, 1) := by decide +kernel
theorem dX12_goesOn_88 : decode cX12_goesOn 88 = .ok (.iload_n 1, 1) := by decide +kernel
theorem dX12_goesOn_89 : decode cX12_goesOn 89 = .ok (.iload_n 2, 1) := by decide +kernel
theorem dX12_goesOn_90 : decode cX12_goesOn 90 = .ok (.invokevirtual 169, 3) := by decide +kernel
theorem dX12_goesOn_93 : decode cX12_goesOn 93 = .ok (.bipush 33, 2) := by decide +kernel
theorem dX12_goesOn_95 : decode cX12_goesOn 95 = .ok (.if_icmp .ne 7, 3) := by decide +kernel
theorem dX12_goesOn_98 : decode cX12_goesOn 98 = .ok (.iconst 1, 1) := by decide +kernel
theorem dX12_goesOn_99 : decode cX12_goesOn 99 = .ok (.goto 4, 3) := by decide +kernel
theorem dX12_goesOn_102 : decode cX12_goesOn 102 = .ok (.iconst 0, 1) := by decide +kernel
theorem dX12_goesOn_103 : decode cX12_goesOn 103 = .ok (.istore 6, 2) := by decide +kernel
theorem dX12_goesOn_105 : decode cX12_goesOn 105 = .ok (.aload_n 0, 1) := by decide +kernel
theorem dX12_goesOn_106 : decode cX12_goesOn 106 = .ok (.iload_n 1, 1) := by decide +kernel
theorem dX12_goesOn_107 : decode cX12_goesOn 107 = .ok (.iload_n 2, 1) := by decide +kernel
theorem dX12_goesOn_108 : decode cX12_goesOn 108 = .ok (.iload 6, 2) := by decide +kernel
theorem dX12_goesOn_110 : decode cX12_goesOn 110 = .ok (.iadd, 1) := by decide +kernel
theorem dX12_goesOn_111 : decode cX12_goesOn 111 = .ok (.invokevirtual 169, 3) := by decide +kernel
theorem dX12_goesOn_114 : decode cX12_goesOn 114 = .ok (.bipush 97, 2) := by decide +kernel
theorem dX12_goesOn_116 : decode cX12_goesOn 116 = .ok (.isub, 1) := by decide +kernel
theorem dX12_goesOn_117 : decode cX12_goesOn 117 = .ok (.istore 7, 2) := by decide +kernel
theorem dX12_goesOn_119 : decode cX12_goesOn 119 = .ok (.iload 7, 2) := by decide +kernel
theorem dX12_goesOn_121 : decode cX12_goesOn 121 = .ok (.invokestatic 147, 3) := by decide +kernel
theorem dX12_goesOn_124 : decode cX12_goesOn 124 = .ok (.ifCond .eq 14, 3) := by decide +kernel
theorem dX12_goesOn_127 : decode cX12_goesOn 127 = .ok (.iload 7, 2) := by decide +kernel
theorem dX12_goesOn_129 : decode cX12_goesOn 129 = .ok (.iload 4, 2) := by decide +kernel
theorem dX12_goesOn_131 : decode cX12_goesOn 131 = .ok (.if_icmp .le 7, 3) := by decide +kernel
theorem dX12_goesOn_134 : decode cX12_goesOn 134 = .ok (.iconst 1, 1) := by decide +kernel
theorem dX12_goesOn_135 : decode cX12_goesOn 135 = .ok (.goto 4, 3) := by decide +kernel
theorem dX12_goesOn_138 : decode cX12_goesOn 138 = .ok (.iconst 0, 1) := by decide +kernel
theorem dX12_goesOn_139 : decode cX12_goesOn 139 = .ok (.istore 5, 2) := by decide +kernel
theorem dX12_goesOn_141 : decode cX12_goesOn 141 = .ok (.iload 5, 2) := by decide +kernel
theorem dX12_goesOn_143 : decode cX12_goesOn 143 = .ok (.ifCond .eq 36, 3) := by decide +kernel
theorem dX12_goesOn_146 : decode cX12_goesOn 146 = .ok (.aload_n 0, 1) := by decide +kernel
theorem dX12_goesOn_147 : decode cX12_goesOn 147 = .ok (.dup, 1) := by decide +kernel
theorem dX12_goesOn_148 : decode cX12_goesOn 148 = .ok (.getfield 172, 3) := by decide +kernel
theorem dX12_goesOn_151 : decode cX12_goesOn 151 = .ok (.iload 7, 2) := by decide +kernel
theorem dX12_goesOn_153 : decode cX12_goesOn 153 = .ok (.invokestatic 175, 3) := by decide +kernel
theorem dX12_goesOn_156 : decode cX12_goesOn 156 = .ok (.iconst 1, 1) := by decide +kernel
theorem dX12_goesOn_157 : decode cX12_goesOn 157 = .ok (.iload 6, 2) := by decide +kernel
theorem dX12_goesOn_159 : decode cX12_goesOn 159 = .ok (.iadd, 1) := by decide +kernel
theorem dX12_goesOn_160 : decode cX12_goesOn 160 = .ok (.imul, 1) := by decide +kernel
theorem dX12_goesOn_161 : decode cX12_goesOn 161 = .ok (.iadd, 1) := by decide +kernel
theorem dX12_goesOn_162 : decode cX12_goesOn 162 = .ok (.putfield 172, 3) := by decide +kernel
theorem dX12_goesOn_165 : decode cX12_goesOn 165 = .ok (.iload 7, 2) := by decide +kernel
theorem dX12_goesOn_167 : decode cX12_goesOn 167 = .ok (.istore 4, 2) := by decide +kernel
theorem dX12_goesOn_169 : decode cX12_goesOn 169 = .ok (.iload_n 2, 1) := by decide +kernel
theorem dX12_goesOn_170 : decode cX12_goesOn 170 = .ok (.iload 6, 2) := by decide +kernel
theorem dX12_goesOn_172 : decode cX12_goesOn 172 = .ok (.iconst 1, 1) := by decide +kernel
theorem dX12_goesOn_173 : decode cX12_goesOn 173 = .ok (.iadd, 1) := by decide +kernel
theorem dX12_goesOn_174 : decode cX12_goesOn 174 = .ok (.iadd, 1) := by decide +kernel
theorem dX12_goesOn_175 : decode cX12_goesOn 175 = .ok (.istore_n 2, 1) := by decide +kernel
theorem dX12_goesOn_176 : decode cX12_goesOn 176 = .ok (.goto 22, 3) := by decide +kernel
theorem dX12_goesOn_179 : decode cX12_goesOn 179 = .ok (.iload 6, 2) := by decide +kernel
theorem dX12_goesOn_181 : decode cX12_goesOn 181 = .ok (.iconst 1, 1) := by decide +kernel
theorem dX12_goesOn_182 : decode cX12_goesOn 182 = .ok (.if_icmp .eq 11, 3) := by decide +kernel
theorem dX12_goesOn_185 : decode cX12_goesOn 185 = .ok (.iload 7, 2) := by decide +kernel
theorem dX12_goesOn_187 : decode cX12_goesOn 187 = .ok (.invokestatic 147, 3) := by decide +kernel
theorem dX12_goesOn_190 : decode cX12_goesOn 190 = .ok (.ifCond .eq 8, 3) := by decide +kernel
theorem dX12_goesOn_193 : decode cX12_goesOn 193 = .ok (.iload_n 2, 1) := by decide +kernel
theorem dX12_goesOn_194 : decode cX12_goesOn 194 = .ok (.iload 6, 2) := by decide +kernel
theorem dX12_goesOn_196 : decode cX12_goesOn 196 = .ok (.iadd, 1) := by decide +kernel
theorem dX12_goesOn_197 : decode cX12_goesOn 197 = .ok (.ireturn, 1) := by decide +kernel
theorem dX12_goesOn_198 : decode cX12_goesOn 198 = .ok (.goto (-116), 3) := by decide +kernel
theorem dX12_goesOn_201 : decode cX12_goesOn 201 = .ok (.iload_n 2, 1) := by decide +kernel
theorem dX12_goesOn_202 : decode cX12_goesOn 202 = .ok (.iload_n 3, 1) := by decide +kernel
theorem dX12_goesOn_203 : decode cX12_goesOn 203 = .ok (.if_icmp .ne 5, 3) := by decide +kernel
theorem dX12_goesOn_206 : decode cX12_goesOn 206 = .ok (.iload_n 2, 1) := by decide +kernel
theorem dX12_goesOn_207 : decode cX12_goesOn 207 = .ok (.ireturn, 1) := by decide +kernel
theorem dX12_goesOn_208 : decode cX12_goesOn 208 = .ok (.aload_n 0, 1) := by decide +kernel
theorem dX12_goesOn_209 : decode cX12_goesOn 209 = .ok (.iload_n 1, 1) := by decide +kernel
theorem dX12_goesOn_210 : decode cX12_goesOn 210 = .ok (.iload_n 2, 1) := by decide +kernel
theorem dX12_goesOn_211 : decode cX12_goesOn 211 = .ok (.invokevirtual 169, 3) := by decide +kernel
theorem dX12_goesOn_214 : decode cX12_goesOn 214 = .ok (.bipush 32, 2) := by decide +kernel
theorem dX12_goesOn_216 : decode cX12_goesOn 216 = .ok (.if_icmp .ne 9, 3) := by decide +kernel
theorem dX12_goesOn_219 : decode cX12_goesOn 219 = .ok (.iinc 2 1, 3) := by decide +kernel
theorem dX12_goesOn_222 : decode cX12_goesOn 222 = .ok (.goto (-14), 3) := by decide +kernel
theorem dX12_goesOn_225 : decode cX12_goesOn 225 = .ok (.iload_n 2, 1) := by decide +kernel
theorem dX12_goesOn_226 : decode cX12_goesOn 226 = .ok (.aload_n 0, 1) := by decide +kernel
theorem dX12_goesOn_227 : decode cX12_goesOn 227 = .ok (.getfield 26, 3) := by decide +kernel
theorem dX12_goesOn_230 : decode cX12_goesOn 230 = .ok (.iload_n 1, 1) := by decide +kernel
theorem dX12_goesOn_231 : decode cX12_goesOn 231 = .ok (.iaload, 1) := by decide +kernel
theorem dX12_goesOn_232 : decode cX12_goesOn 232 = .ok (.if_icmp .ne 8, 3) := by decide +kernel
theorem dX12_goesOn_235 : decode cX12_goesOn 235 = .ok (.bipush (-9), 2) := by decide +kernel
theorem dX12_goesOn_237 : decode cX12_goesOn 237 = .ok (.goto 4, 3) := by decide +kernel
theorem dX12_goesOn_240 : decode cX12_goesOn 240 = .ok (.iload_n 2, 1) := by decide +kernel
theorem dX12_goesOn_241 : decode cX12_goesOn 241 = .ok (.ireturn, 1) := by decide +kernel
theorem dX12_fault_0 : decode cX12_fault 0 = .ok (.aload_n 0, 1) := by decide +kernel
theorem dX12_fault_1 : decode cX12_fault 1 = .ok (.iload_n 1, 1) := by decide +kernel
theorem dX12_fault_2 : decode cX12_fault 2 = .ok (.invokevirtual 122, 3) := by decide +kernel
theorem dX12_fault_5 : decode cX12_fault 5 = .ok (.istore_n 2, 1) := by decide +kernel
theorem dX12_fault_6 : decode cX12_fault 6 = .ok (.iload_n 2, 1) := by decide +kernel
theorem dX12_fault_7 : decode cX12_fault 7 = .ok (.ifCond .ge 7, 3) := by decide +kernel
theorem dX12_fault_10 : decode cX12_fault 10 = .ok (.iload_n 2, 1) := by decide +kernel
theorem dX12_fault_11 : decode cX12_fault 11 = .ok (.goto 8, 3) := by decide +kernel
theorem dX12_fault_14 : decode cX12_fault 14 = .ok (.aload_n 0, 1) := by decide +kernel
theorem dX12_fault_15 : decode cX12_fault 15 = .ok (.iload_n 1, 1) := by decide +kernel
theorem dX12_fault_16 : decode cX12_fault 16 = .ok (.invokevirtual 178, 3) := by decide +kernel
theorem dX12_fault_19 : decode cX12_fault 19 = .ok (.ireturn, 1) := by decide +kernel
theorem dX12_rule_0 : decode cX12_rule 0 = .ok (.aload_n 0, 1) := by decide +kernel
theorem dX12_rule_1 : decode cX12_rule 1 = .ok (.iload_n 1, 1) := by decide +kernel
theorem dX12_rule_2 : decode cX12_rule 2 = .ok (.invokevirtual 181, 3) := by decide +kernel
theorem dX12_rule_5 : decode cX12_rule 5 = .ok (.istore_n 2, 1) := by decide +kernel
theorem dX12_rule_6 : decode cX12_rule 6 = .ok (.iload_n 2, 1) := by decide +kernel
theorem dX12_rule_7 : decode cX12_rule 7 = .ok (.bipush (-9), 2) := by decide +kernel
theorem dX12_rule_9 : decode cX12_rule 9 = .ok (.if_icmp .ne 10, 3) := by decide +kernel
theorem dX12_rule_12 : decode cX12_rule 12 = .ok (.aload_n 0, 1) := by decide +kernel
theorem dX12_rule_13 : decode cX12_rule 13 = .ok (.getfield 172, 3) := by decide +kernel
theorem dX12_rule_16 : decode cX12_rule 16 = .ok (.goto 13, 3) := by decide +kernel
theorem dX12_rule_19 : decode cX12_rule 19 = .ok (.iload_n 2, 1) := by decide +kernel
theorem dX12_rule_20 : decode cX12_rule 20 = .ok (.ifCond .lt 8, 3) := by decide +kernel
theorem dX12_rule_23 : decode cX12_rule 23 = .ok (.bipush (-4), 2) := by decide +kernel
theorem dX12_rule_25 : decode cX12_rule 25 = .ok (.goto 4, 3) := by decide +kernel
theorem dX12_rule_28 : decode cX12_rule 28 = .ok (.iload_n 2, 1) := by decide +kernel
theorem dX12_rule_29 : decode cX12_rule 29 = .ok (.ireturn, 1) := by decide +kernel
theorem dX12_isRule_0 : decode cX12_isRule 0 = .ok (.iload_n 0, 1) := by decide +kernel
theorem dX12_isRule_1 : decode cX12_isRule 1 = .ok (.iconst 0, 1) := by decide +kernel
theorem dX12_isRule_2 : decode cX12_isRule 2 = .ok (.sipush 243, 3) := by decide +kernel
theorem dX12_isRule_5 : decode cX12_isRule 5 = .ok (.invokestatic 97, 3) := by decide +kernel
theorem dX12_isRule_8 : decode cX12_isRule 8 = .ok (.ireturn, 1) := by decide +kernel
theorem dX12_figure_0 : decode cX12_figure 0 = .ok (.iload_n 0, 1) := by decide +kernel
theorem dX12_figure_1 : decode cX12_figure 1 = .ok (.sipush 243, 3) := by decide +kernel
theorem dX12_figure_4 : decode cX12_figure 4 = .ok (.if_icmp .ne 7, 3) := by decide +kernel
theorem dX12_figure_7 : decode cX12_figure 7 = .ok (.iconst 0, 1) := by decide +kernel
theorem dX12_figure_8 : decode cX12_figure 8 = .ok (.goto 11, 3) := by decide +kernel
theorem dX12_figure_11 : decode cX12_figure 11 = .ok (.iload_n 0, 1) := by decide +kernel
theorem dX12_figure_12 : decode cX12_figure 12 = .ok (.iload_n 1, 1) := by decide +kernel
theorem dX12_figure_13 : decode cX12_figure 13 = .ok (.invokestatic 175, 3) := by decide +kernel
theorem dX12_figure_16 : decode cX12_figure 16 = .ok (.idiv, 1) := by decide +kernel
theorem dX12_figure_17 : decode cX12_figure 17 = .ok (.iconst 3, 1) := by decide +kernel
theorem dX12_figure_18 : decode cX12_figure 18 = .ok (.irem, 1) := by decide +kernel
theorem dX12_figure_19 : decode cX12_figure 19 = .ok (.ireturn, 1) := by decide +kernel
theorem dX12_answer_0 : decode cX12_answer 0 = .ok (.iload_n 0, 1) := by decide +kernel
theorem dX12_answer_1 : decode cX12_answer 1 = .ok (.sipush 243, 3) := by decide +kernel
theorem dX12_answer_4 : decode cX12_answer 4 = .ok (.if_icmp .eq 7, 3) := by decide +kernel
theorem dX12_answer_7 : decode cX12_answer 7 = .ok (.iconst 1, 1) := by decide +kernel
theorem dX12_answer_8 : decode cX12_answer 8 = .ok (.goto 4, 3) := by decide +kernel
theorem dX12_answer_11 : decode cX12_answer 11 = .ok (.iconst 0, 1) := by decide +kernel
theorem dX12_answer_12 : decode cX12_answer 12 = .ok (.istore_n 2, 1) := by decide +kernel
theorem dX12_answer_13 : decode cX12_answer 13 = .ok (.iconst 0, 1) := by decide +kernel
theorem dX12_answer_14 : decode cX12_answer 14 = .ok (.istore_n 3, 1) := by decide +kernel
theorem dX12_answer_15 : decode cX12_answer 15 = .ok (.iload_n 3, 1) := by decide +kernel
theorem dX12_answer_16 : decode cX12_answer 16 = .ok (.iconst 5, 1) := by decide +kernel
theorem dX12_answer_17 : decode cX12_answer 17 = .ok (.if_icmp .ge 50, 3) := by decide +kernel
theorem dX12_answer_20 : decode cX12_answer 20 = .ok (.iload_n 0, 1) := by decide +kernel
theorem dX12_answer_21 : decode cX12_answer 21 = .ok (.iload_n 3, 1) := by decide +kernel
theorem dX12_answer_22 : decode cX12_answer 22 = .ok (.invokestatic 184, 3) := by decide +kernel
theorem dX12_answer_25 : decode cX12_answer 25 = .ok (.istore 4, 2) := by decide +kernel
theorem dX12_answer_27 : decode cX12_answer 27 = .ok (.iload_n 2, 1) := by decide +kernel
theorem dX12_answer_28 : decode cX12_answer 28 = .ok (.ifCond .eq 31, 3) := by decide +kernel
theorem dX12_answer_31 : decode cX12_answer 31 = .ok (.iload 4, 2) := by decide +kernel
theorem dX12_answer_33 : decode cX12_answer 33 = .ok (.ifCond .eq 22, 3) := by decide +kernel
theorem dX12_answer_36 : decode cX12_answer 36 = .ok (.iload_n 1, 1) := by decide +kernel
theorem dX12_answer_37 : decode cX12_answer 37 = .ok (.iload_n 3, 1) := by decide +kernel
theorem dX12_answer_38 : decode cX12_answer 38 = .ok (.invokestatic 187, 3) := by decide +kernel
theorem dX12_answer_41 : decode cX12_answer 41 = .ok (.iload 4, 2) := by decide +kernel
theorem dX12_answer_43 : decode cX12_answer 43 = .ok (.iconst 1, 1) := by decide +kernel
theorem dX12_answer_44 : decode cX12_answer 44 = .ok (.if_icmp .ne 7, 3) := by decide +kernel
theorem dX12_answer_47 : decode cX12_answer 47 = .ok (.iconst 1, 1) := by decide +kernel
theorem dX12_answer_48 : decode cX12_answer 48 = .ok (.goto 4, 3) := by decide +kernel
theorem dX12_answer_51 : decode cX12_answer 51 = .ok (.iconst 0, 1) := by decide +kernel
theorem dX12_answer_52 : decode cX12_answer 52 = .ok (.if_icmp .ne 7, 3) := by decide +kernel
theorem dX12_answer_55 : decode cX12_answer 55 = .ok (.iconst 1, 1) := by decide +kernel
theorem dX12_answer_56 : decode cX12_answer 56 = .ok (.goto 4, 3) := by decide +kernel
theorem dX12_answer_59 : decode cX12_answer 59 = .ok (.iconst 0, 1) := by decide +kernel
theorem dX12_answer_60 : decode cX12_answer 60 = .ok (.istore_n 2, 1) := by decide +kernel
theorem dX12_answer_61 : decode cX12_answer 61 = .ok (.iinc 3 1, 3) := by decide +kernel
theorem dX12_answer_64 : decode cX12_answer 64 = .ok (.goto (-49), 3) := by decide +kernel
theorem dX12_answer_67 : decode cX12_answer 67 = .ok (.iload_n 2, 1) := by decide +kernel
theorem dX12_answer_68 : decode cX12_answer 68 = .ok (.ifCond .eq 7, 3) := by decide +kernel
theorem dX12_answer_71 : decode cX12_answer 71 = .ok (.iconst 1, 1) := by decide +kernel
theorem dX12_answer_72 : decode cX12_answer 72 = .ok (.goto 4, 3) := by decide +kernel
theorem dX12_answer_75 : decode cX12_answer 75 = .ok (.iconst 0, 1) := by decide +kernel
theorem dX12_answer_76 : decode cX12_answer 76 = .ok (.ireturn, 1) := by decide +kernel
theorem dX12_answers_0 : decode cX12_answers 0 = .ok (.iload_n 1, 1) := by decide +kernel
theorem dX12_answers_1 : decode cX12_answers 1 = .ok (.invokestatic 190, 3) := by decide +kernel
theorem dX12_answers_4 : decode cX12_answers 4 = .ok (.ifCond .eq 18, 3) := by decide +kernel
theorem dX12_answers_7 : decode cX12_answers 7 = .ok (.iload_n 2, 1) := by decide +kernel
theorem dX12_answers_8 : decode cX12_answers 8 = .ok (.invokestatic 134, 3) := by decide +kernel
theorem dX12_answers_11 : decode cX12_answers 11 = .ok (.ifCond .eq 11, 3) := by decide +kernel
theorem dX12_answers_14 : decode cX12_answers 14 = .ok (.iload_n 1, 1) := by decide +kernel
theorem dX12_answers_15 : decode cX12_answers 15 = .ok (.iload_n 2, 1) := by decide +kernel
theorem dX12_answers_16 : decode cX12_answers 16 = .ok (.invokestatic 193, 3) := by decide +kernel
theorem dX12_answers_19 : decode cX12_answers 19 = .ok (.goto 4, 3) := by decide +kernel
theorem dX12_answers_22 : decode cX12_answers 22 = .ok (.iconst (-1), 1) := by decide +kernel
theorem dX12_answers_23 : decode cX12_answers 23 = .ok (.ireturn, 1) := by decide +kernel
theorem dX12_doesFit_0 : decode cX12_doesFit 0 = .ok (.iload_n 3, 1) := by decide +kernel
theorem dX12_doesFit_1 : decode cX12_doesFit 1 = .ok (.iload_n 2, 1) := by decide +kernel
theorem dX12_doesFit_2 : decode cX12_doesFit 2 = .ok (.invokestatic 193, 3) := by decide +kernel
theorem dX12_doesFit_5 : decode cX12_doesFit 5 = .ok (.aload_n 0, 1) := by decide +kernel
theorem dX12_doesFit_6 : decode cX12_doesFit 6 = .ok (.getfield 53, 3) := by decide +kernel
theorem dX12_doesFit_9 : decode cX12_doesFit 9 = .ok (.iload_n 1, 1) := by decide +kernel
theorem dX12_doesFit_10 : decode cX12_doesFit 10 = .ok (.iaload, 1) := by decide +kernel
theorem dX12_doesFit_11 : decode cX12_doesFit 11 = .ok (.if_icmp .ne 31, 3) := by decide +kernel
theorem dX12_doesFit_14 : decode cX12_doesFit 14 = .ok (.aload_n 0, 1) := by decide +kernel
theorem dX12_doesFit_15 : decode cX12_doesFit 15 = .ok (.getfield 56, 3) := by decide +kernel
theorem dX12_doesFit_18 : decode cX12_doesFit 18 = .ok (.iload_n 1, 1) := by decide +kernel
theorem dX12_doesFit_19 : decode cX12_doesFit 19 = .ok (.iaload, 1) := by decide +kernel
theorem dX12_doesFit_20 : decode cX12_doesFit 20 = .ok (.bipush (-9), 2) := by decide +kernel
theorem dX12_doesFit_22 : decode cX12_doesFit 22 = .ok (.if_icmp .eq 16, 3) := by decide +kernel
theorem dX12_doesFit_25 : decode cX12_doesFit 25 = .ok (.iload_n 3, 1) := by decide +kernel
theorem dX12_doesFit_26 : decode cX12_doesFit 26 = .ok (.aload_n 0, 1) := by decide +kernel
theorem dX12_doesFit_27 : decode cX12_doesFit 27 = .ok (.getfield 56, 3) := by decide +kernel
theorem dX12_doesFit_30 : decode cX12_doesFit 30 = .ok (.iload_n 1, 1) := by decide +kernel
theorem dX12_doesFit_31 : decode cX12_doesFit 31 = .ok (.iaload, 1) := by decide +kernel
theorem dX12_doesFit_32 : decode cX12_doesFit 32 = .ok (.invokestatic 184, 3) := by decide +kernel
theorem dX12_doesFit_35 : decode cX12_doesFit 35 = .ok (.ifCond .le 7, 3) := by decide +kernel
theorem dX12_doesFit_38 : decode cX12_doesFit 38 = .ok (.iconst 1, 1) := by decide +kernel
theorem dX12_doesFit_39 : decode cX12_doesFit 39 = .ok (.goto 4, 3) := by decide +kernel
theorem dX12_doesFit_42 : decode cX12_doesFit 42 = .ok (.iconst 0, 1) := by decide +kernel
theorem dX12_doesFit_43 : decode cX12_doesFit 43 = .ok (.ireturn, 1) := by decide +kernel
theorem dX12_fits_0 : decode cX12_fits 0 = .ok (.aload_n 0, 1) := by decide +kernel
theorem dX12_fits_1 : decode cX12_fits 1 = .ok (.iload_n 1, 1) := by decide +kernel
theorem dX12_fits_2 : decode cX12_fits 2 = .ok (.invokevirtual 157, 3) := by decide +kernel
theorem dX12_fits_5 : decode cX12_fits 5 = .ok (.ifCond .eq 10, 3) := by decide +kernel
theorem dX12_fits_8 : decode cX12_fits 8 = .ok (.iload_n 2, 1) := by decide +kernel
theorem dX12_fits_9 : decode cX12_fits 9 = .ok (.invokestatic 190, 3) := by decide +kernel
theorem dX12_fits_12 : decode cX12_fits 12 = .ok (.ifCond .ne 7, 3) := by decide +kernel
theorem dX12_fits_15 : decode cX12_fits 15 = .ok (.iconst (-1), 1) := by decide +kernel
theorem dX12_fits_16 : decode cX12_fits 16 = .ok (.goto 28, 3) := by decide +kernel
theorem dX12_fits_19 : decode cX12_fits 19 = .ok (.aload_n 0, 1) := by decide +kernel
theorem dX12_fits_20 : decode cX12_fits 20 = .ok (.iload_n 1, 1) := by decide +kernel
theorem dX12_fits_21 : decode cX12_fits 21 = .ok (.aload_n 0, 1) := by decide +kernel
theorem dX12_fits_22 : decode cX12_fits 22 = .ok (.getfield 32, 3) := by decide +kernel
theorem dX12_fits_25 : decode cX12_fits 25 = .ok (.aload_n 0, 1) := by decide +kernel
theorem dX12_fits_26 : decode cX12_fits 26 = .ok (.getfield 47, 3) := by decide +kernel
theorem dX12_fits_29 : decode cX12_fits 29 = .ok (.iload_n 1, 1) := by decide +kernel
theorem dX12_fits_30 : decode cX12_fits 30 = .ok (.iaload, 1) := by decide +kernel
theorem dX12_fits_31 : decode cX12_fits 31 = .ok (.iaload, 1) := by decide +kernel
theorem dX12_fits_32 : decode cX12_fits 32 = .ok (.iload_n 2, 1) := by decide +kernel
theorem dX12_fits_33 : decode cX12_fits 33 = .ok (.invokevirtual 196, 3) := by decide +kernel
theorem dX12_fits_36 : decode cX12_fits 36 = .ok (.ifCond .eq 7, 3) := by decide +kernel
theorem dX12_fits_39 : decode cX12_fits 39 = .ok (.iconst 1, 1) := by decide +kernel
theorem dX12_fits_40 : decode cX12_fits 40 = .ok (.goto 4, 3) := by decide +kernel
theorem dX12_fits_43 : decode cX12_fits 43 = .ok (.iconst 0, 1) := by decide +kernel
theorem dX12_fits_44 : decode cX12_fits 44 = .ok (.ireturn, 1) := by decide +kernel
theorem dX12_isPrice_0 : decode cX12_isPrice 0 = .ok (.iload_n 0, 1) := by decide +kernel
theorem dX12_isPrice_1 : decode cX12_isPrice 1 = .ok (.iconst 0, 1) := by decide +kernel
theorem dX12_isPrice_2 : decode cX12_isPrice 2 = .ok (.bipush 99, 2) := by decide +kernel
theorem dX12_isPrice_4 : decode cX12_isPrice 4 = .ok (.invokestatic 97, 3) := by decide +kernel
theorem dX12_isPrice_7 : decode cX12_isPrice 7 = .ok (.ireturn, 1) := by decide +kernel
theorem dX12_prices_0 : decode cX12_prices 0 = .ok (.iload_n 1, 1) := by decide +kernel
theorem dX12_prices_1 : decode cX12_prices 1 = .ok (.invokestatic 199, 3) := by decide +kernel
theorem dX12_prices_4 : decode cX12_prices 4 = .ok (.ifCond .eq 17, 3) := by decide +kernel
theorem dX12_prices_7 : decode cX12_prices 7 = .ok (.iload_n 2, 1) := by decide +kernel
theorem dX12_prices_8 : decode cX12_prices 8 = .ok (.invokestatic 199, 3) := by decide +kernel
theorem dX12_prices_11 : decode cX12_prices 11 = .ok (.ifCond .eq 10, 3) := by decide +kernel
theorem dX12_prices_14 : decode cX12_prices 14 = .ok (.iload_n 3, 1) := by decide +kernel
theorem dX12_prices_15 : decode cX12_prices 15 = .ok (.invokestatic 199, 3) := by decide +kernel
theorem dX12_prices_18 : decode cX12_prices 18 = .ok (.ifCond .ne 5, 3) := by decide +kernel
theorem dX12_prices_21 : decode cX12_prices 21 = .ok (.iconst (-1), 1) := by decide +kernel
theorem dX12_prices_22 : decode cX12_prices 22 = .ok (.ireturn, 1) := by decide +kernel
theorem dX12_prices_23 : decode cX12_prices 23 = .ok (.aload_n 0, 1) := by decide +kernel
theorem dX12_prices_24 : decode cX12_prices 24 = .ok (.getfield 62, 3) := by decide +kernel
theorem dX12_prices_27 : decode cX12_prices 27 = .ok (.iconst 0, 1) := by decide +kernel
theorem dX12_prices_28 : decode cX12_prices 28 = .ok (.iload_n 1, 1) := by decide +kernel
theorem dX12_prices_29 : decode cX12_prices 29 = .ok (.iastore, 1) := by decide +kernel
theorem dX12_prices_30 : decode cX12_prices 30 = .ok (.aload_n 0, 1) := by decide +kernel
theorem dX12_prices_31 : decode cX12_prices 31 = .ok (.getfield 62, 3) := by decide +kernel
theorem dX12_prices_34 : decode cX12_prices 34 = .ok (.iconst 1, 1) := by decide +kernel
theorem dX12_prices_35 : decode cX12_prices 35 = .ok (.iload_n 2, 1) := by decide +kernel
theorem dX12_prices_36 : decode cX12_prices 36 = .ok (.iastore, 1) := by decide +kernel
theorem dX12_prices_37 : decode cX12_prices 37 = .ok (.aload_n 0, 1) := by decide +kernel
theorem dX12_prices_38 : decode cX12_prices 38 = .ok (.getfield 62, 3) := by decide +kernel
theorem dX12_prices_41 : decode cX12_prices 41 = .ok (.iconst 2, 1) := by decide +kernel
theorem dX12_prices_42 : decode cX12_prices 42 = .ok (.iload_n 3, 1) := by decide +kernel
theorem dX12_prices_43 : decode cX12_prices 43 = .ok (.iastore, 1) := by decide +kernel
theorem dX12_prices_44 : decode cX12_prices 44 = .ok (.iconst 1, 1) := by decide +kernel
theorem dX12_prices_45 : decode cX12_prices 45 = .ok (.ireturn, 1) := by decide +kernel
theorem dX12_costOf_0 : decode cX12_costOf 0 = .ok (.aload_n 0, 1) := by decide +kernel
theorem dX12_costOf_1 : decode cX12_costOf 1 = .ok (.getfield 32, 3) := by decide +kernel
theorem dX12_costOf_4 : decode cX12_costOf 4 = .ok (.aload_n 0, 1) := by decide +kernel
theorem dX12_costOf_5 : decode cX12_costOf 5 = .ok (.getfield 47, 3) := by decide +kernel
theorem dX12_costOf_8 : decode cX12_costOf 8 = .ok (.iload_n 1, 1) := by decide +kernel
theorem dX12_costOf_9 : decode cX12_costOf 9 = .ok (.iaload, 1) := by decide +kernel
theorem dX12_costOf_10 : decode cX12_costOf 10 = .ok (.iaload, 1) := by decide +kernel
theorem dX12_costOf_11 : decode cX12_costOf 11 = .ok (.istore_n 3, 1) := by decide +kernel
theorem dX12_costOf_12 : decode cX12_costOf 12 = .ok (.aload_n 0, 1) := by decide +kernel
theorem dX12_costOf_13 : decode cX12_costOf 13 = .ok (.iload_n 1, 1) := by decide +kernel
theorem dX12_costOf_14 : decode cX12_costOf 14 = .ok (.iload_n 3, 1) := by decide +kernel
theorem dX12_costOf_15 : decode cX12_costOf 15 = .ok (.iload_n 2, 1) := by decide +kernel
theorem dX12_costOf_16 : decode cX12_costOf 16 = .ok (.invokevirtual 196, 3) := by decide +kernel
theorem dX12_costOf_19 : decode cX12_costOf 19 = .ok (.ifCond .eq 5, 3) := by decide +kernel
theorem dX12_costOf_22 : decode cX12_costOf 22 = .ok (.iconst 0, 1) := by decide +kernel
theorem dX12_costOf_23 : decode cX12_costOf 23 = .ok (.ireturn, 1) := by decide +kernel
theorem dX12_costOf_24 : decode cX12_costOf 24 = .ok (.iconst 0, 1) := by decide +kernel
theorem dX12_costOf_25 : decode cX12_costOf 25 = .ok (.istore 4, 2) := by decide +kernel
theorem dX12_costOf_27 : decode cX12_costOf 27 = .ok (.iconst 0, 1) := by decide +kernel
theorem dX12_costOf_28 : decode cX12_costOf 28 = .ok (.istore 5, 2) := by decide +kernel
theorem dX12_costOf_30 : decode cX12_costOf 30 = .ok (.iload 5, 2) := by decide +kernel
theorem dX12_costOf_32 : decode cX12_costOf 32 = .ok (.iconst 5, 1) := by decide +kernel
theorem dX12_costOf_33 : decode cX12_costOf 33 = .ok (.if_icmp .ge 36, 3) := by decide +kernel
theorem dX12_costOf_36 : decode cX12_costOf 36 = .ok (.iload 4, 2) := by decide +kernel
theorem dX12_costOf_38 : decode cX12_costOf 38 = .ok (.ifCond .ne 18, 3) := by decide +kernel
theorem dX12_costOf_41 : decode cX12_costOf 41 = .ok (.aload_n 0, 1) := by decide +kernel
theorem dX12_costOf_42 : decode cX12_costOf 42 = .ok (.iload_n 1, 1) := by decide +kernel
theorem dX12_costOf_43 : decode cX12_costOf 43 = .ok (.iload_n 3, 1) := by decide +kernel
theorem dX12_costOf_44 : decode cX12_costOf 44 = .ok (.iconst 1, 1) := by decide +kernel
theorem dX12_costOf_45 : decode cX12_costOf 45 = .ok (.iload 5, 2) := by decide +kernel
theorem dX12_costOf_47 : decode cX12_costOf 47 = .ok (.ishl, 1) := by decide +kernel
theorem dX12_costOf_48 : decode cX12_costOf 48 = .ok (.ixor, 1) := by decide +kernel
theorem dX12_costOf_49 : decode cX12_costOf 49 = .ok (.iload_n 2, 1) := by decide +kernel
theorem dX12_costOf_50 : decode cX12_costOf 50 = .ok (.invokevirtual 196, 3) := by decide +kernel
theorem dX12_costOf_53 : decode cX12_costOf 53 = .ok (.ifCond .eq 7, 3) := by decide +kernel
theorem dX12_costOf_56 : decode cX12_costOf 56 = .ok (.iconst 1, 1) := by decide +kernel
theorem dX12_costOf_57 : decode cX12_costOf 57 = .ok (.goto 4, 3) := by decide +kernel
theorem dX12_costOf_60 : decode cX12_costOf 60 = .ok (.iconst 0, 1) := by decide +kernel
theorem dX12_costOf_61 : decode cX12_costOf 61 = .ok (.istore 4, 2) := by decide +kernel
theorem dX12_costOf_63 : decode cX12_costOf 63 = .ok (.iinc 5 1, 3) := by decide +kernel
theorem dX12_costOf_66 : decode cX12_costOf 66 = .ok (.goto (-36), 3) := by decide +kernel
theorem dX12_costOf_69 : decode cX12_costOf 69 = .ok (.iload 4, 2) := by decide +kernel
theorem dX12_costOf_71 : decode cX12_costOf 71 = .ok (.ifCond .eq 27, 3) := by decide +kernel
theorem dX12_costOf_74 : decode cX12_costOf 74 = .ok (.aload_n 0, 1) := by decide +kernel
theorem dX12_costOf_75 : decode cX12_costOf 75 = .ok (.getfield 62, 3) := by decide +kernel
theorem dX12_costOf_78 : decode cX12_costOf 78 = .ok (.iconst 0, 1) := by decide +kernel
theorem dX12_costOf_79 : decode cX12_costOf 79 = .ok (.iaload, 1) := by decide +kernel
theorem dX12_costOf_80 : decode cX12_costOf 80 = .ok (.aload_n 0, 1) := by decide +kernel
theorem dX12_costOf_81 : decode cX12_costOf 81 = .ok (.getfield 62, 3) := by decide +kernel
theorem dX12_costOf_84 : decode cX12_costOf 84 = .ok (.iconst 1, 1) := by decide +kernel
theorem dX12_costOf_85 : decode cX12_costOf 85 = .ok (.iaload, 1) := by decide +kernel
theorem dX12_costOf_86 : decode cX12_costOf 86 = .ok (.if_icmp .ge 12, 3) := by decide +kernel
theorem dX12_costOf_89 : decode cX12_costOf 89 = .ok (.aload_n 0, 1) := by decide +kernel
theorem dX12_costOf_90 : decode cX12_costOf 90 = .ok (.getfield 62, 3) := by decide +kernel
theorem dX12_costOf_93 : decode cX12_costOf 93 = .ok (.iconst 0, 1) := by decide +kernel
theorem dX12_costOf_94 : decode cX12_costOf 94 = .ok (.iaload, 1) := by decide +kernel
theorem dX12_costOf_95 : decode cX12_costOf 95 = .ok (.goto 9, 3) := by decide +kernel
theorem dX12_costOf_98 : decode cX12_costOf 98 = .ok (.aload_n 0, 1) := by decide +kernel
theorem dX12_costOf_99 : decode cX12_costOf 99 = .ok (.getfield 62, 3) := by decide +kernel
theorem dX12_costOf_102 : decode cX12_costOf 102 = .ok (.iconst 1, 1) := by decide +kernel
theorem dX12_costOf_103 : decode cX12_costOf 103 = .ok (.iaload, 1) := by decide +kernel
theorem dX12_costOf_104 : decode cX12_costOf 104 = .ok (.ireturn, 1) := by decide +kernel
theorem dX12_costs_0 : decode cX12_costs 0 = .ok (.aload_n 0, 1) := by decide +kernel
theorem dX12_costs_1 : decode cX12_costs 1 = .ok (.iload_n 1, 1) := by decide +kernel
theorem dX12_costs_2 : decode cX12_costs 2 = .ok (.invokevirtual 157, 3) := by decide +kernel
theorem dX12_costs_5 : decode cX12_costs 5 = .ok (.ifCond .eq 19, 3) := by decide +kernel
theorem dX12_costs_8 : decode cX12_costs 8 = .ok (.iload_n 2, 1) := by decide +kernel
theorem dX12_costs_9 : decode cX12_costs 9 = .ok (.invokestatic 190, 3) := by decide +kernel
theorem dX12_costs_12 : decode cX12_costs 12 = .ok (.ifCond .eq 12, 3) := by decide +kernel
theorem dX12_costs_15 : decode cX12_costs 15 = .ok (.aload_n 0, 1) := by decide +kernel
theorem dX12_costs_16 : decode cX12_costs 16 = .ok (.iload_n 1, 1) := by decide +kernel
theorem dX12_costs_17 : decode cX12_costs 17 = .ok (.iload_n 2, 1) := by decide +kernel
theorem dX12_costs_18 : decode cX12_costs 18 = .ok (.invokevirtual 202, 3) := by decide +kernel
theorem dX12_costs_21 : decode cX12_costs 21 = .ok (.goto 4, 3) := by decide +kernel
theorem dX12_costs_24 : decode cX12_costs 24 = .ok (.iconst (-1), 1) := by decide +kernel
theorem dX12_costs_25 : decode cX12_costs 25 = .ok (.ireturn, 1) := by decide +kernel
theorem dX12_setTable_0 : decode cX12_setTable 0 = .ok (.aload_n 0, 1) := by decide +kernel
theorem dX12_setTable_1 : decode cX12_setTable 1 = .ok (.iconst 0, 1) := by decide +kernel
theorem dX12_setTable_2 : decode cX12_setTable 2 = .ok (.putfield 205, 3) := by decide +kernel
theorem dX12_setTable_5 : decode cX12_setTable 5 = .ok (.iconst 0, 1) := by decide +kernel
theorem dX12_setTable_6 : decode cX12_setTable 6 = .ok (.istore_n 2, 1) := by decide +kernel
theorem dX12_setTable_7 : decode cX12_setTable 7 = .ok (.iload_n 2, 1) := by decide +kernel
theorem dX12_setTable_8 : decode cX12_setTable 8 = .ok (.aload_n 0, 1) := by decide +kernel
theorem dX12_setTable_9 : decode cX12_setTable 9 = .ok (.getfield 131, 3) := by decide +kernel
theorem dX12_setTable_12 : decode cX12_setTable 12 = .ok (.if_icmp .ge 65, 3) := by decide +kernel
theorem dX12_setTable_15 : decode cX12_setTable 15 = .ok (.aload_n 0, 1) := by decide +kernel
theorem dX12_setTable_16 : decode cX12_setTable 16 = .ok (.getfield 44, 3) := by decide +kernel
theorem dX12_setTable_19 : decode cX12_setTable 19 = .ok (.iload_n 2, 1) := by decide +kernel
theorem dX12_setTable_20 : decode cX12_setTable 20 = .ok (.iaload, 1) := by decide +kernel
theorem dX12_setTable_21 : decode cX12_setTable 21 = .ok (.iload_n 1, 1) := by decide +kernel
theorem dX12_setTable_22 : decode cX12_setTable 22 = .ok (.if_icmp .ne 49, 3) := by decide +kernel
theorem dX12_setTable_25 : decode cX12_setTable 25 = .ok (.iconst 0, 1) := by decide +kernel
theorem dX12_setTable_26 : decode cX12_setTable 26 = .ok (.istore_n 3, 1) := by decide +kernel
theorem dX12_setTable_27 : decode cX12_setTable 27 = .ok (.iload_n 3, 1) := by decide +kernel
theorem dX12_setTable_28 : decode cX12_setTable 28 = .ok (.sipush 244, 3) := by decide +kernel
theorem dX12_setTable_31 : decode cX12_setTable 31 = .ok (.if_icmp .ge 30, 3) := by decide +kernel
theorem dX12_setTable_34 : decode cX12_setTable 34 = .ok (.aload_n 0, 1) := by decide +kernel
theorem dX12_setTable_35 : decode cX12_setTable 35 = .ok (.getfield 65, 3) := by decide +kernel
theorem dX12_setTable_38 : decode cX12_setTable 38 = .ok (.sipush 244, 3) := by decide +kernel
theorem dX12_setTable_41 : decode cX12_setTable 41 = .ok (.aload_n 0, 1) := by decide +kernel
theorem dX12_setTable_42 : decode cX12_setTable 42 = .ok (.getfield 205, 3) := by decide +kernel
theorem dX12_setTable_45 : decode cX12_setTable 45 = .ok (.imul, 1) := by decide +kernel
theorem dX12_setTable_46 : decode cX12_setTable 46 = .ok (.iload_n 3, 1) := by decide +kernel
theorem dX12_setTable_47 : decode cX12_setTable 47 = .ok (.iadd, 1) := by decide +kernel
theorem dX12_setTable_48 : decode cX12_setTable 48 = .ok (.aload_n 0, 1) := by decide +kernel
theorem dX12_setTable_49 : decode cX12_setTable 49 = .ok (.iload_n 2, 1) := by decide +kernel
theorem dX12_setTable_50 : decode cX12_setTable 50 = .ok (.iload_n 3, 1) := by decide +kernel
theorem dX12_setTable_51 : decode cX12_setTable 51 = .ok (.invokevirtual 202, 3) := by decide +kernel
theorem dX12_setTable_54 : decode cX12_setTable 54 = .ok (.iastore, 1) := by decide +kernel
theorem dX12_setTable_55 : decode cX12_setTable 55 = .ok (.iinc 3 1, 3) := by decide +kernel
theorem dX12_setTable_58 : decode cX12_setTable 58 = .ok (.goto (-31), 3) := by decide +kernel
theorem dX12_setTable_61 : decode cX12_setTable 61 = .ok (.aload_n 0, 1) := by decide +kernel
theorem dX12_setTable_62 : decode cX12_setTable 62 = .ok (.dup, 1) := by decide +kernel
theorem dX12_setTable_63 : decode cX12_setTable 63 = .ok (.getfield 205, 3) := by decide +kernel
theorem dX12_setTable_66 : decode cX12_setTable 66 = .ok (.iconst 1, 1) := by decide +kernel
theorem dX12_setTable_67 : decode cX12_setTable 67 = .ok (.iadd, 1) := by decide +kernel
theorem dX12_setTable_68 : decode cX12_setTable 68 = .ok (.putfield 205, 3) := by decide +kernel
theorem dX12_setTable_71 : decode cX12_setTable 71 = .ok (.iinc 2 1, 3) := by decide +kernel
theorem dX12_setTable_74 : decode cX12_setTable 74 = .ok (.goto (-67), 3) := by decide +kernel
theorem dX12_setTable_77 : decode cX12_setTable 77 = .ok (.return_, 1) := by decide +kernel
theorem dX12_sumBy_0 : decode cX12_sumBy 0 = .ok (.iconst 0, 1) := by decide +kernel
theorem dX12_sumBy_1 : decode cX12_sumBy 1 = .ok (.istore_n 2, 1) := by decide +kernel
theorem dX12_sumBy_2 : decode cX12_sumBy 2 = .ok (.iconst 0, 1) := by decide +kernel
theorem dX12_sumBy_3 : decode cX12_sumBy 3 = .ok (.istore_n 3, 1) := by decide +kernel
theorem dX12_sumBy_4 : decode cX12_sumBy 4 = .ok (.iload_n 3, 1) := by decide +kernel
theorem dX12_sumBy_5 : decode cX12_sumBy 5 = .ok (.aload_n 0, 1) := by decide +kernel
theorem dX12_sumBy_6 : decode cX12_sumBy 6 = .ok (.getfield 205, 3) := by decide +kernel
theorem dX12_sumBy_9 : decode cX12_sumBy 9 = .ok (.if_icmp .ge 24, 3) := by decide +kernel
theorem dX12_sumBy_12 : decode cX12_sumBy 12 = .ok (.iload_n 2, 1) := by decide +kernel
theorem dX12_sumBy_13 : decode cX12_sumBy 13 = .ok (.aload_n 0, 1) := by decide +kernel
theorem dX12_sumBy_14 : decode cX12_sumBy 14 = .ok (.getfield 65, 3) := by decide +kernel
theorem dX12_sumBy_17 : decode cX12_sumBy 17 = .ok (.sipush 244, 3) := by decide +kernel
theorem dX12_sumBy_20 : decode cX12_sumBy 20 = .ok (.iload_n 3, 1) := by decide +kernel
theorem dX12_sumBy_21 : decode cX12_sumBy 21 = .ok (.imul, 1) := by decide +kernel
theorem dX12_sumBy_22 : decode cX12_sumBy 22 = .ok (.iload_n 1, 1) := by decide +kernel
theorem dX12_sumBy_23 : decode cX12_sumBy 23 = .ok (.iadd, 1) := by decide +kernel
theorem dX12_sumBy_24 : decode cX12_sumBy 24 = .ok (.iaload, 1) := by decide +kernel
theorem dX12_sumBy_25 : decode cX12_sumBy 25 = .ok (.iadd, 1) := by decide +kernel
theorem dX12_sumBy_26 : decode cX12_sumBy 26 = .ok (.istore_n 2, 1) := by decide +kernel
theorem dX12_sumBy_27 : decode cX12_sumBy 27 = .ok (.iinc 3 1, 3) := by decide +kernel
theorem dX12_sumBy_30 : decode cX12_sumBy 30 = .ok (.goto (-26), 3) := by decide +kernel
theorem dX12_sumBy_33 : decode cX12_sumBy 33 = .ok (.iload_n 2, 1) := by decide +kernel
theorem dX12_sumBy_34 : decode cX12_sumBy 34 = .ok (.ireturn, 1) := by decide +kernel
theorem dX12_sumByTwo_0 : decode cX12_sumByTwo 0 = .ok (.aload_n 0, 1) := by decide +kernel
theorem dX12_sumByTwo_1 : decode cX12_sumByTwo 1 = .ok (.getfield 62, 3) := by decide +kernel
theorem dX12_sumByTwo_4 : decode cX12_sumByTwo 4 = .ok (.iconst 2, 1) := by decide +kernel
theorem dX12_sumByTwo_5 : decode cX12_sumByTwo 5 = .ok (.iaload, 1) := by decide +kernel
theorem dX12_sumByTwo_6 : decode cX12_sumByTwo 6 = .ok (.istore_n 3, 1) := by decide +kernel
theorem dX12_sumByTwo_7 : decode cX12_sumByTwo 7 = .ok (.iconst 0, 1) := by decide +kernel
theorem dX12_sumByTwo_8 : decode cX12_sumByTwo 8 = .ok (.istore 4, 2) := by decide +kernel
theorem dX12_sumByTwo_10 : decode cX12_sumByTwo 10 = .ok (.iload 4, 2) := by decide +kernel
theorem dX12_sumByTwo_12 : decode cX12_sumByTwo 12 = .ok (.aload_n 0, 1) := by decide +kernel
theorem dX12_sumByTwo_13 : decode cX12_sumByTwo 13 = .ok (.getfield 205, 3) := by decide +kernel
theorem dX12_sumByTwo_16 : decode cX12_sumByTwo 16 = .ok (.if_icmp .ge 56, 3) := by decide +kernel
theorem dX12_sumByTwo_19 : decode cX12_sumByTwo 19 = .ok (.aload_n 0, 1) := by decide +kernel
theorem dX12_sumByTwo_20 : decode cX12_sumByTwo 20 = .ok (.getfield 65, 3) := by decide +kernel
theorem dX12_sumByTwo_23 : decode cX12_sumByTwo 23 = .ok (.sipush 244, 3) := by decide +kernel
theorem dX12_sumByTwo_26 : decode cX12_sumByTwo 26 = .ok (.iload 4, 2) := by decide +kernel
theorem dX12_sumByTwo_28 : decode cX12_sumByTwo 28 = .ok (.imul, 1) := by decide +kernel
theorem dX12_sumByTwo_29 : decode cX12_sumByTwo 29 = .ok (.iload_n 1, 1) := by decide +kernel
theorem dX12_sumByTwo_30 : decode cX12_sumByTwo 30 = .ok (.iadd, 1) := by decide +kernel
theorem dX12_sumByTwo_31 : decode cX12_sumByTwo 31 = .ok (.iaload, 1) := by decide +kernel
theorem dX12_sumByTwo_32 : decode cX12_sumByTwo 32 = .ok (.istore 5, 2) := by decide +kernel
theorem dX12_sumByTwo_34 : decode cX12_sumByTwo 34 = .ok (.aload_n 0, 1) := by decide +kernel
theorem dX12_sumByTwo_35 : decode cX12_sumByTwo 35 = .ok (.getfield 65, 3) := by decide +kernel
theorem dX12_sumByTwo_38 : decode cX12_sumByTwo 38 = .ok (.sipush 244, 3) := by decide +kernel
theorem dX12_sumByTwo_41 : decode cX12_sumByTwo 41 = .ok (.iload 4, 2) := by decide +kernel
theorem dX12_sumByTwo_43 : decode cX12_sumByTwo 43 = .ok (.imul, 1) := by decide +kernel
theorem dX12_sumByTwo_44 : decode cX12_sumByTwo 44 = .ok (.iload_n 2, 1) := by decide +kernel
theorem dX12_sumByTwo_45 : decode cX12_sumByTwo 45 = .ok (.iadd, 1) := by decide +kernel
theorem dX12_sumByTwo_46 : decode cX12_sumByTwo 46 = .ok (.iaload, 1) := by decide +kernel
theorem dX12_sumByTwo_47 : decode cX12_sumByTwo 47 = .ok (.istore 6, 2) := by decide +kernel
theorem dX12_sumByTwo_49 : decode cX12_sumByTwo 49 = .ok (.iload_n 3, 1) := by decide +kernel
theorem dX12_sumByTwo_50 : decode cX12_sumByTwo 50 = .ok (.iload 5, 2) := by decide +kernel
theorem dX12_sumByTwo_52 : decode cX12_sumByTwo 52 = .ok (.iload 6, 2) := by decide +kernel
theorem dX12_sumByTwo_54 : decode cX12_sumByTwo 54 = .ok (.if_icmp .ge 8, 3) := by decide +kernel
theorem dX12_sumByTwo_57 : decode cX12_sumByTwo 57 = .ok (.iload 5, 2) := by decide +kernel
theorem dX12_sumByTwo_59 : decode cX12_sumByTwo 59 = .ok (.goto 5, 3) := by decide +kernel
theorem dX12_sumByTwo_62 : decode cX12_sumByTwo 62 = .ok (.iload 6, 2) := by decide +kernel
theorem dX12_sumByTwo_64 : decode cX12_sumByTwo 64 = .ok (.iadd, 1) := by decide +kernel
theorem dX12_sumByTwo_65 : decode cX12_sumByTwo 65 = .ok (.istore_n 3, 1) := by decide +kernel
theorem dX12_sumByTwo_66 : decode cX12_sumByTwo 66 = .ok (.iinc 4 1, 3) := by decide +kernel
theorem dX12_sumByTwo_69 : decode cX12_sumByTwo 69 = .ok (.goto (-59), 3) := by decide +kernel
theorem dX12_sumByTwo_72 : decode cX12_sumByTwo 72 = .ok (.iload_n 3, 1) := by decide +kernel
theorem dX12_sumByTwo_73 : decode cX12_sumByTwo 73 = .ok (.ireturn, 1) := by decide +kernel
theorem dX12_settles_0 : decode cX12_settles 0 = .ok (.aload_n 0, 1) := by decide +kernel
theorem dX12_settles_1 : decode cX12_settles 1 = .ok (.iload_n 1, 1) := by decide +kernel
theorem dX12_settles_2 : decode cX12_settles 2 = .ok (.invokevirtual 208, 3) := by decide +kernel
theorem dX12_settles_5 : decode cX12_settles 5 = .ok (.aload_n 0, 1) := by decide +kernel
theorem dX12_settles_6 : decode cX12_settles 6 = .ok (.iconst 0, 1) := by decide +kernel
theorem dX12_settles_7 : decode cX12_settles 7 = .ok (.putfield 212, 3) := by decide +kernel
theorem dX12_settles_10 : decode cX12_settles 10 = .ok (.aload_n 0, 1) := by decide +kernel
theorem dX12_settles_11 : decode cX12_settles 11 = .ok (.bipush (-9), 2) := by decide +kernel
theorem dX12_settles_13 : decode cX12_settles 13 = .ok (.putfield 215, 3) := by decide +kernel
theorem dX12_settles_16 : decode cX12_settles 16 = .ok (.aload_n 0, 1) := by decide +kernel
theorem dX12_settles_17 : decode cX12_settles 17 = .ok (.ldc 218, 2) := by decide +kernel
theorem dX12_settles_19 : decode cX12_settles 19 = .ok (.putfield 219, 3) := by decide +kernel
theorem dX12_settles_22 : decode cX12_settles 22 = .ok (.iconst 0, 1) := by decide +kernel
theorem dX12_settles_23 : decode cX12_settles 23 = .ok (.istore_n 2, 1) := by decide +kernel
theorem dX12_settles_24 : decode cX12_settles 24 = .ok (.iload_n 2, 1) := by decide +kernel
theorem dX12_settles_25 : decode cX12_settles 25 = .ok (.sipush 244, 3) := by decide +kernel
theorem dX12_settles_28 : decode cX12_settles 28 = .ok (.if_icmp .ge 55, 3) := by decide +kernel
theorem dX12_settles_31 : decode cX12_settles 31 = .ok (.aload_n 0, 1) := by decide +kernel
theorem dX12_settles_32 : decode cX12_settles 32 = .ok (.iload_n 2, 1) := by decide +kernel
theorem dX12_settles_33 : decode cX12_settles 33 = .ok (.invokevirtual 222, 3) := by decide +kernel
theorem dX12_settles_36 : decode cX12_settles 36 = .ok (.istore_n 3, 1) := by decide +kernel
theorem dX12_settles_37 : decode cX12_settles 37 = .ok (.aload_n 0, 1) := by decide +kernel
theorem dX12_settles_38 : decode cX12_settles 38 = .ok (.iload_n 3, 1) := by decide +kernel
theorem dX12_settles_39 : decode cX12_settles 39 = .ok (.aload_n 0, 1) := by decide +kernel
theorem dX12_settles_40 : decode cX12_settles 40 = .ok (.getfield 219, 3) := by decide +kernel
theorem dX12_settles_43 : decode cX12_settles 43 = .ok (.if_icmp .ge 7, 3) := by decide +kernel
theorem dX12_settles_46 : decode cX12_settles 46 = .ok (.iload_n 2, 1) := by decide +kernel
theorem dX12_settles_47 : decode cX12_settles 47 = .ok (.goto 7, 3) := by decide +kernel
theorem dX12_settles_50 : decode cX12_settles 50 = .ok (.aload_n 0, 1) := by decide +kernel
theorem dX12_settles_51 : decode cX12_settles 51 = .ok (.getfield 212, 3) := by decide +kernel
theorem dX12_settles_54 : decode cX12_settles 54 = .ok (.putfield 212, 3) := by decide +kernel
theorem dX12_settles_57 : decode cX12_settles 57 = .ok (.aload_n 0, 1) := by decide +kernel
theorem dX12_settles_58 : decode cX12_settles 58 = .ok (.iload_n 3, 1) := by decide +kernel
theorem dX12_settles_59 : decode cX12_settles 59 = .ok (.aload_n 0, 1) := by decide +kernel
theorem dX12_settles_60 : decode cX12_settles 60 = .ok (.getfield 219, 3) := by decide +kernel
theorem dX12_settles_63 : decode cX12_settles 63 = .ok (.if_icmp .ge 7, 3) := by decide +kernel
theorem dX12_settles_66 : decode cX12_settles 66 = .ok (.iload_n 3, 1) := by decide +kernel
theorem dX12_settles_67 : decode cX12_settles 67 = .ok (.goto 7, 3) := by decide +kernel
theorem dX12_settles_70 : decode cX12_settles 70 = .ok (.aload_n 0, 1) := by decide +kernel
theorem dX12_settles_71 : decode cX12_settles 71 = .ok (.getfield 219, 3) := by decide +kernel
theorem dX12_settles_74 : decode cX12_settles 74 = .ok (.putfield 219, 3) := by decide +kernel
theorem dX12_settles_77 : decode cX12_settles 77 = .ok (.iinc 2 1, 3) := by decide +kernel
theorem dX12_settles_80 : decode cX12_settles 80 = .ok (.goto (-56), 3) := by decide +kernel
theorem dX12_settles_83 : decode cX12_settles 83 = .ok (.aload_n 0, 1) := by decide +kernel
theorem dX12_settles_84 : decode cX12_settles 84 = .ok (.aload_n 0, 1) := by decide +kernel
theorem dX12_settles_85 : decode cX12_settles 85 = .ok (.getfield 219, 3) := by decide +kernel
theorem dX12_settles_88 : decode cX12_settles 88 = .ok (.putfield 225, 3) := by decide +kernel
theorem dX12_settles_91 : decode cX12_settles 91 = .ok (.iconst 0, 1) := by decide +kernel
theorem dX12_settles_92 : decode cX12_settles 92 = .ok (.istore_n 2, 1) := by decide +kernel
theorem dX12_settles_93 : decode cX12_settles 93 = .ok (.iload_n 2, 1) := by decide +kernel
theorem dX12_settles_94 : decode cX12_settles 94 = .ok (.sipush 244, 3) := by decide +kernel
theorem dX12_settles_97 : decode cX12_settles 97 = .ok (.if_icmp .ge 72, 3) := by decide +kernel
theorem dX12_settles_100 : decode cX12_settles 100 = .ok (.aload_n 0, 1) := by decide +kernel
theorem dX12_settles_101 : decode cX12_settles 101 = .ok (.getfield 225, 3) := by decide +kernel
theorem dX12_settles_104 : decode cX12_settles 104 = .ok (.aload_n 0, 1) := by decide +kernel
theorem dX12_settles_105 : decode cX12_settles 105 = .ok (.getfield 62, 3) := by decide +kernel
theorem dX12_settles_108 : decode cX12_settles 108 = .ok (.iconst 2, 1) := by decide +kernel
theorem dX12_settles_109 : decode cX12_settles 109 = .ok (.iaload, 1) := by decide +kernel
theorem dX12_settles_110 : decode cX12_settles 110 = .ok (.if_icmp .le 59, 3) := by decide +kernel
theorem dX12_settles_113 : decode cX12_settles 113 = .ok (.iload_n 2, 1) := by decide +kernel
theorem dX12_settles_114 : decode cX12_settles 114 = .ok (.iconst 1, 1) := by decide +kernel
theorem dX12_settles_115 : decode cX12_settles 115 = .ok (.iadd, 1) := by decide +kernel
theorem dX12_settles_116 : decode cX12_settles 116 = .ok (.istore_n 3, 1) := by decide +kernel
theorem dX12_settles_117 : decode cX12_settles 117 = .ok (.iload_n 3, 1) := by decide +kernel
theorem dX12_settles_118 : decode cX12_settles 118 = .ok (.sipush 244, 3) := by decide +kernel
theorem dX12_settles_121 : decode cX12_settles 121 = .ok (.if_icmp .ge 42, 3) := by decide +kernel
theorem dX12_settles_124 : decode cX12_settles 124 = .ok (.aload_n 0, 1) := by decide +kernel
theorem dX12_settles_125 : decode cX12_settles 125 = .ok (.iload_n 2, 1) := by decide +kernel
theorem dX12_settles_126 : decode cX12_settles 126 = .ok (.iload_n 3, 1) := by decide +kernel
theorem dX12_settles_127 : decode cX12_settles 127 = .ok (.invokevirtual 228, 3) := by decide +kernel
theorem dX12_settles_130 : decode cX12_settles 130 = .ok (.istore 4, 2) := by decide +kernel
theorem dX12_settles_132 : decode cX12_settles 132 = .ok (.iload 4, 2) := by decide +kernel
theorem dX12_settles_134 : decode cX12_settles 134 = .ok (.aload_n 0, 1) := by decide +kernel
theorem dX12_settles_135 : decode cX12_settles 135 = .ok (.getfield 225, 3) := by decide +kernel
theorem dX12_settles_138 : decode cX12_settles 138 = .ok (.if_icmp .ge 19, 3) := by decide +kernel
theorem dX12_settles_141 : decode cX12_settles 141 = .ok (.aload_n 0, 1) := by decide +kernel
theorem dX12_settles_142 : decode cX12_settles 142 = .ok (.iload 4, 2) := by decide +kernel
theorem dX12_settles_144 : decode cX12_settles 144 = .ok (.putfield 225, 3) := by decide +kernel
theorem dX12_settles_147 : decode cX12_settles 147 = .ok (.aload_n 0, 1) := by decide +kernel
theorem dX12_settles_148 : decode cX12_settles 148 = .ok (.iload_n 2, 1) := by decide +kernel
theorem dX12_settles_149 : decode cX12_settles 149 = .ok (.putfield 212, 3) := by decide +kernel
theorem dX12_settles_152 : decode cX12_settles 152 = .ok (.aload_n 0, 1) := by decide +kernel
theorem dX12_settles_153 : decode cX12_settles 153 = .ok (.iload_n 3, 1) := by decide +kernel
theorem dX12_settles_154 : decode cX12_settles 154 = .ok (.putfield 215, 3) := by decide +kernel
theorem dX12_settles_157 : decode cX12_settles 157 = .ok (.iinc 3 1, 3) := by decide +kernel
theorem dX12_settles_160 : decode cX12_settles 160 = .ok (.goto (-43), 3) := by decide +kernel
theorem dX12_settles_163 : decode cX12_settles 163 = .ok (.iinc 2 1, 3) := by decide +kernel
theorem dX12_settles_166 : decode cX12_settles 166 = .ok (.goto (-73), 3) := by decide +kernel
theorem dX12_settles_169 : decode cX12_settles 169 = .ok (.return_, 1) := by decide +kernel
theorem dX12_settle_0 : decode cX12_settle 0 = .ok (.aload_n 0, 1) := by decide +kernel
theorem dX12_settle_1 : decode cX12_settle 1 = .ok (.iload_n 1, 1) := by decide +kernel
theorem dX12_settle_2 : decode cX12_settle 2 = .ok (.invokevirtual 137, 3) := by decide +kernel
theorem dX12_settle_5 : decode cX12_settle 5 = .ok (.ifCond .ne 5, 3) := by decide +kernel
theorem dX12_settle_8 : decode cX12_settle 8 = .ok (.iconst (-1), 1) := by decide +kernel
theorem dX12_settle_9 : decode cX12_settle 9 = .ok (.ireturn, 1) := by decide +kernel
theorem dX12_settle_10 : decode cX12_settle 10 = .ok (.aload_n 0, 1) := by decide +kernel
theorem dX12_settle_11 : decode cX12_settle 11 = .ok (.iload_n 1, 1) := by decide +kernel
theorem dX12_settle_12 : decode cX12_settle 12 = .ok (.invokevirtual 231, 3) := by decide +kernel
theorem dX12_settle_15 : decode cX12_settle 15 = .ok (.aload_n 0, 1) := by decide +kernel
theorem dX12_settle_16 : decode cX12_settle 16 = .ok (.aload_n 0, 1) := by decide +kernel
theorem dX12_settle_17 : decode cX12_settle 17 = .ok (.getfield 212, 3) := by decide +kernel
theorem dX12_settle_20 : decode cX12_settle 20 = .ok (.aload_n 0, 1) := by decide +kernel
theorem dX12_settle_21 : decode cX12_settle 21 = .ok (.getfield 225, 3) := by decide +kernel
theorem dX12_settle_24 : decode cX12_settle 24 = .ok (.invokevirtual 119, 3) := by decide +kernel
theorem dX12_settle_27 : decode cX12_settle 27 = .ok (.ireturn, 1) := by decide +kernel
theorem dX12_second_0 : decode cX12_second 0 = .ok (.aload_n 0, 1) := by decide +kernel
theorem dX12_second_1 : decode cX12_second 1 = .ok (.iload_n 1, 1) := by decide +kernel
theorem dX12_second_2 : decode cX12_second 2 = .ok (.invokevirtual 137, 3) := by decide +kernel
theorem dX12_second_5 : decode cX12_second 5 = .ok (.ifCond .ne 5, 3) := by decide +kernel
theorem dX12_second_8 : decode cX12_second 8 = .ok (.iconst (-1), 1) := by decide +kernel
theorem dX12_second_9 : decode cX12_second 9 = .ok (.ireturn, 1) := by decide +kernel
theorem dX12_second_10 : decode cX12_second 10 = .ok (.aload_n 0, 1) := by decide +kernel
theorem dX12_second_11 : decode cX12_second 11 = .ok (.iload_n 1, 1) := by decide +kernel
theorem dX12_second_12 : decode cX12_second 12 = .ok (.invokevirtual 231, 3) := by decide +kernel
theorem dX12_second_15 : decode cX12_second 15 = .ok (.aload_n 0, 1) := by decide +kernel
theorem dX12_second_16 : decode cX12_second 16 = .ok (.getfield 215, 3) := by decide +kernel
theorem dX12_second_19 : decode cX12_second 19 = .ok (.ireturn, 1) := by decide +kernel
theorem dX12_setCheap_0 : decode cX12_setCheap 0 = .ok (.aload_n 0, 1) := by decide +kernel
theorem dX12_setCheap_1 : decode cX12_setCheap 1 = .ok (.iload_n 1, 1) := by decide +kernel
theorem dX12_setCheap_2 : decode cX12_setCheap 2 = .ok (.invokevirtual 208, 3) := by decide +kernel
theorem dX12_setCheap_5 : decode cX12_setCheap 5 = .ok (.ldc 218, 2) := by decide +kernel
theorem dX12_setCheap_7 : decode cX12_setCheap 7 = .ok (.istore_n 2, 1) := by decide +kernel
theorem dX12_setCheap_8 : decode cX12_setCheap 8 = .ok (.iconst 0, 1) := by decide +kernel
theorem dX12_setCheap_9 : decode cX12_setCheap 9 = .ok (.istore_n 3, 1) := by decide +kernel
theorem dX12_setCheap_10 : decode cX12_setCheap 10 = .ok (.iload_n 3, 1) := by decide +kernel
theorem dX12_setCheap_11 : decode cX12_setCheap 11 = .ok (.sipush 244, 3) := by decide +kernel
theorem dX12_setCheap_14 : decode cX12_setCheap 14 = .ok (.if_icmp .ge 29, 3) := by decide +kernel
theorem dX12_setCheap_17 : decode cX12_setCheap 17 = .ok (.aload_n 0, 1) := by decide +kernel
theorem dX12_setCheap_18 : decode cX12_setCheap 18 = .ok (.iload_n 3, 1) := by decide +kernel
theorem dX12_setCheap_19 : decode cX12_setCheap 19 = .ok (.invokevirtual 222, 3) := by decide +kernel
theorem dX12_setCheap_22 : decode cX12_setCheap 22 = .ok (.istore 4, 2) := by decide +kernel
theorem dX12_setCheap_24 : decode cX12_setCheap 24 = .ok (.iload 4, 2) := by decide +kernel
theorem dX12_setCheap_26 : decode cX12_setCheap 26 = .ok (.iload_n 2, 1) := by decide +kernel
theorem dX12_setCheap_27 : decode cX12_setCheap 27 = .ok (.if_icmp .ge 8, 3) := by decide +kernel
theorem dX12_setCheap_30 : decode cX12_setCheap 30 = .ok (.iload 4, 2) := by decide +kernel
theorem dX12_setCheap_32 : decode cX12_setCheap 32 = .ok (.goto 4, 3) := by decide +kernel
theorem dX12_setCheap_35 : decode cX12_setCheap 35 = .ok (.iload_n 2, 1) := by decide +kernel
theorem dX12_setCheap_36 : decode cX12_setCheap 36 = .ok (.istore_n 2, 1) := by decide +kernel
theorem dX12_setCheap_37 : decode cX12_setCheap 37 = .ok (.iinc 3 1, 3) := by decide +kernel
theorem dX12_setCheap_40 : decode cX12_setCheap 40 = .ok (.goto (-30), 3) := by decide +kernel
theorem dX12_setCheap_43 : decode cX12_setCheap 43 = .ok (.iconst 0, 1) := by decide +kernel
theorem dX12_setCheap_44 : decode cX12_setCheap 44 = .ok (.istore_n 3, 1) := by decide +kernel
theorem dX12_setCheap_45 : decode cX12_setCheap 45 = .ok (.iload_n 3, 1) := by decide +kernel
theorem dX12_setCheap_46 : decode cX12_setCheap 46 = .ok (.sipush 244, 3) := by decide +kernel
theorem dX12_setCheap_49 : decode cX12_setCheap 49 = .ok (.if_icmp .ge 29, 3) := by decide +kernel
theorem dX12_setCheap_52 : decode cX12_setCheap 52 = .ok (.aload_n 0, 1) := by decide +kernel
theorem dX12_setCheap_53 : decode cX12_setCheap 53 = .ok (.getfield 68, 3) := by decide +kernel
theorem dX12_setCheap_56 : decode cX12_setCheap 56 = .ok (.iload_n 3, 1) := by decide +kernel
theorem dX12_setCheap_57 : decode cX12_setCheap 57 = .ok (.aload_n 0, 1) := by decide +kernel
theorem dX12_setCheap_58 : decode cX12_setCheap 58 = .ok (.iload_n 3, 1) := by decide +kernel
theorem dX12_setCheap_59 : decode cX12_setCheap 59 = .ok (.invokevirtual 222, 3) := by decide +kernel
theorem dX12_setCheap_62 : decode cX12_setCheap 62 = .ok (.iload_n 2, 1) := by decide +kernel
theorem dX12_setCheap_63 : decode cX12_setCheap 63 = .ok (.if_icmp .ne 7, 3) := by decide +kernel
theorem dX12_setCheap_66 : decode cX12_setCheap 66 = .ok (.iconst 1, 1) := by decide +kernel
theorem dX12_setCheap_67 : decode cX12_setCheap 67 = .ok (.goto 4, 3) := by decide +kernel
theorem dX12_setCheap_70 : decode cX12_setCheap 70 = .ok (.iconst 0, 1) := by decide +kernel
theorem dX12_setCheap_71 : decode cX12_setCheap 71 = .ok (.bastore, 1) := by decide +kernel
theorem dX12_setCheap_72 : decode cX12_setCheap 72 = .ok (.iinc 3 1, 3) := by decide +kernel
theorem dX12_setCheap_75 : decode cX12_setCheap 75 = .ok (.goto (-30), 3) := by decide +kernel
theorem dX12_setCheap_78 : decode cX12_setCheap 78 = .ok (.return_, 1) := by decide +kernel
theorem dX12_cheap_0 : decode cX12_cheap 0 = .ok (.aload_n 0, 1) := by decide +kernel
theorem dX12_cheap_1 : decode cX12_cheap 1 = .ok (.iload_n 1, 1) := by decide +kernel
theorem dX12_cheap_2 : decode cX12_cheap 2 = .ok (.invokevirtual 137, 3) := by decide +kernel
theorem dX12_cheap_5 : decode cX12_cheap 5 = .ok (.ifCond .ne 5, 3) := by decide +kernel
theorem dX12_cheap_8 : decode cX12_cheap 8 = .ok (.iconst (-1), 1) := by decide +kernel
theorem dX12_cheap_9 : decode cX12_cheap 9 = .ok (.ireturn, 1) := by decide +kernel
theorem dX12_cheap_10 : decode cX12_cheap 10 = .ok (.aload_n 0, 1) := by decide +kernel
theorem dX12_cheap_11 : decode cX12_cheap 11 = .ok (.iload_n 1, 1) := by decide +kernel
theorem dX12_cheap_12 : decode cX12_cheap 12 = .ok (.invokevirtual 234, 3) := by decide +kernel
theorem dX12_cheap_15 : decode cX12_cheap 15 = .ok (.iconst 0, 1) := by decide +kernel
theorem dX12_cheap_16 : decode cX12_cheap 16 = .ok (.istore_n 2, 1) := by decide +kernel
theorem dX12_cheap_17 : decode cX12_cheap 17 = .ok (.iconst 0, 1) := by decide +kernel
theorem dX12_cheap_18 : decode cX12_cheap 18 = .ok (.istore_n 3, 1) := by decide +kernel
theorem dX12_cheap_19 : decode cX12_cheap 19 = .ok (.iconst 0, 1) := by decide +kernel
theorem dX12_cheap_20 : decode cX12_cheap 20 = .ok (.istore 4, 2) := by decide +kernel
theorem dX12_cheap_22 : decode cX12_cheap 22 = .ok (.iload 4, 2) := by decide +kernel
theorem dX12_cheap_24 : decode cX12_cheap 24 = .ok (.sipush 244, 3) := by decide +kernel
theorem dX12_cheap_27 : decode cX12_cheap 27 = .ok (.if_icmp .ge 44, 3) := by decide +kernel
theorem dX12_cheap_30 : decode cX12_cheap 30 = .ok (.iload_n 2, 1) := by decide +kernel
theorem dX12_cheap_31 : decode cX12_cheap 31 = .ok (.aload_n 0, 1) := by decide +kernel
theorem dX12_cheap_32 : decode cX12_cheap 32 = .ok (.getfield 68, 3) := by decide +kernel
theorem dX12_cheap_35 : decode cX12_cheap 35 = .ok (.iload 4, 2) := by decide +kernel
theorem dX12_cheap_37 : decode cX12_cheap 37 = .ok (.baload, 1) := by decide +kernel
theorem dX12_cheap_38 : decode cX12_cheap 38 = .ok (.ifCond .eq 7, 3) := by decide +kernel
theorem dX12_cheap_41 : decode cX12_cheap 41 = .ok (.iconst 1, 1) := by decide +kernel
theorem dX12_cheap_42 : decode cX12_cheap 42 = .ok (.goto 4, 3) := by decide +kernel
theorem dX12_cheap_45 : decode cX12_cheap 45 = .ok (.iconst 0, 1) := by decide +kernel
theorem dX12_cheap_46 : decode cX12_cheap 46 = .ok (.iadd, 1) := by decide +kernel
theorem dX12_cheap_47 : decode cX12_cheap 47 = .ok (.istore_n 2, 1) := by decide +kernel
theorem dX12_cheap_48 : decode cX12_cheap 48 = .ok (.aload_n 0, 1) := by decide +kernel
theorem dX12_cheap_49 : decode cX12_cheap 49 = .ok (.getfield 68, 3) := by decide +kernel
theorem dX12_cheap_52 : decode cX12_cheap 52 = .ok (.iload 4, 2) := by decide +kernel
theorem dX12_cheap_54 : decode cX12_cheap 54 = .ok (.baload, 1) := by decide +kernel
theorem dX12_cheap_55 : decode cX12_cheap 55 = .ok (.ifCond .eq 8, 3) := by decide +kernel
theorem dX12_cheap_58 : decode cX12_cheap 58 = .ok (.iload 4, 2) := by decide +kernel
theorem dX12_cheap_60 : decode cX12_cheap 60 = .ok (.goto 4, 3) := by decide +kernel
theorem dX12_cheap_63 : decode cX12_cheap 63 = .ok (.iload_n 3, 1) := by decide +kernel
theorem dX12_cheap_64 : decode cX12_cheap 64 = .ok (.istore_n 3, 1) := by decide +kernel
theorem dX12_cheap_65 : decode cX12_cheap 65 = .ok (.iinc 4 1, 3) := by decide +kernel
theorem dX12_cheap_68 : decode cX12_cheap 68 = .ok (.goto (-46), 3) := by decide +kernel
theorem dX12_cheap_71 : decode cX12_cheap 71 = .ok (.aload_n 0, 1) := by decide +kernel
theorem dX12_cheap_72 : decode cX12_cheap 72 = .ok (.iload_n 3, 1) := by decide +kernel
theorem dX12_cheap_73 : decode cX12_cheap 73 = .ok (.iload_n 2, 1) := by decide +kernel
theorem dX12_cheap_74 : decode cX12_cheap 74 = .ok (.invokevirtual 119, 3) := by decide +kernel
theorem dX12_cheap_77 : decode cX12_cheap 77 = .ok (.ireturn, 1) := by decide +kernel
theorem dX12_cheapAt_0 : decode cX12_cheapAt 0 = .ok (.aload_n 0, 1) := by decide +kernel
theorem dX12_cheapAt_1 : decode cX12_cheapAt 1 = .ok (.iload_n 1, 1) := by decide +kernel
theorem dX12_cheapAt_2 : decode cX12_cheapAt 2 = .ok (.invokevirtual 137, 3) := by decide +kernel
theorem dX12_cheapAt_5 : decode cX12_cheapAt 5 = .ok (.ifCond .eq 7, 3) := by decide +kernel
theorem dX12_cheapAt_8 : decode cX12_cheapAt 8 = .ok (.iload_n 2, 1) := by decide +kernel
theorem dX12_cheapAt_9 : decode cX12_cheapAt 9 = .ok (.ifCond .ge 5, 3) := by decide +kernel
theorem dX12_cheapAt_12 : decode cX12_cheapAt 12 = .ok (.iconst (-1), 1) := by decide +kernel
theorem dX12_cheapAt_13 : decode cX12_cheapAt 13 = .ok (.ireturn, 1) := by decide +kernel
theorem dX12_cheapAt_14 : decode cX12_cheapAt 14 = .ok (.aload_n 0, 1) := by decide +kernel
theorem dX12_cheapAt_15 : decode cX12_cheapAt 15 = .ok (.iload_n 1, 1) := by decide +kernel
theorem dX12_cheapAt_16 : decode cX12_cheapAt 16 = .ok (.invokevirtual 234, 3) := by decide +kernel
theorem dX12_cheapAt_19 : decode cX12_cheapAt 19 = .ok (.iconst 0, 1) := by decide +kernel
theorem dX12_cheapAt_20 : decode cX12_cheapAt 20 = .ok (.istore_n 3, 1) := by decide +kernel
theorem dX12_cheapAt_21 : decode cX12_cheapAt 21 = .ok (.iconst 0, 1) := by decide +kernel
theorem dX12_cheapAt_22 : decode cX12_cheapAt 22 = .ok (.istore 4, 2) := by decide +kernel
theorem dX12_cheapAt_24 : decode cX12_cheapAt 24 = .ok (.iload 4, 2) := by decide +kernel
theorem dX12_cheapAt_26 : decode cX12_cheapAt 26 = .ok (.sipush 244, 3) := by decide +kernel
theorem dX12_cheapAt_29 : decode cX12_cheapAt 29 = .ok (.if_icmp .ge 30, 3) := by decide +kernel
theorem dX12_cheapAt_32 : decode cX12_cheapAt 32 = .ok (.aload_n 0, 1) := by decide +kernel
theorem dX12_cheapAt_33 : decode cX12_cheapAt 33 = .ok (.getfield 68, 3) := by decide +kernel
theorem dX12_cheapAt_36 : decode cX12_cheapAt 36 = .ok (.iload 4, 2) := by decide +kernel
theorem dX12_cheapAt_38 : decode cX12_cheapAt 38 = .ok (.baload, 1) := by decide +kernel
theorem dX12_cheapAt_39 : decode cX12_cheapAt 39 = .ok (.ifCond .eq 14, 3) := by decide +kernel
theorem dX12_cheapAt_42 : decode cX12_cheapAt 42 = .ok (.iload_n 3, 1) := by decide +kernel
theorem dX12_cheapAt_43 : decode cX12_cheapAt 43 = .ok (.iload_n 2, 1) := by decide +kernel
theorem dX12_cheapAt_44 : decode cX12_cheapAt 44 = .ok (.if_icmp .ne 6, 3) := by decide +kernel
theorem dX12_cheapAt_47 : decode cX12_cheapAt 47 = .ok (.iload 4, 2) := by decide +kernel
theorem dX12_cheapAt_49 : decode cX12_cheapAt 49 = .ok (.ireturn, 1) := by decide +kernel
theorem dX12_cheapAt_50 : decode cX12_cheapAt 50 = .ok (.iinc 3 1, 3) := by decide +kernel
theorem dX12_cheapAt_53 : decode cX12_cheapAt 53 = .ok (.iinc 4 1, 3) := by decide +kernel
theorem dX12_cheapAt_56 : decode cX12_cheapAt 56 = .ok (.goto (-32), 3) := by decide +kernel
theorem dX12_cheapAt_59 : decode cX12_cheapAt 59 = .ok (.bipush (-9), 2) := by decide +kernel
theorem dX12_cheapAt_61 : decode cX12_cheapAt 61 = .ok (.ireturn, 1) := by decide +kernel
theorem dX12_all_0 : decode cX12_all 0 = .ok (.iconst 0, 1) := by decide +kernel
theorem dX12_all_1 : decode cX12_all 1 = .ok (.istore_n 1, 1) := by decide +kernel
theorem dX12_all_2 : decode cX12_all 2 = .ok (.iconst 0, 1) := by decide +kernel
theorem dX12_all_3 : decode cX12_all 3 = .ok (.istore_n 2, 1) := by decide +kernel
theorem dX12_all_4 : decode cX12_all 4 = .ok (.iload_n 2, 1) := by decide +kernel
theorem dX12_all_5 : decode cX12_all 5 = .ok (.aload_n 0, 1) := by decide +kernel
theorem dX12_all_6 : decode cX12_all 6 = .ok (.getfield 128, 3) := by decide +kernel
theorem dX12_all_9 : decode cX12_all 9 = .ok (.if_icmp .ge 21, 3) := by decide +kernel
theorem dX12_all_12 : decode cX12_all 12 = .ok (.aload_n 0, 1) := by decide +kernel
theorem dX12_all_13 : decode cX12_all 13 = .ok (.iload_n 2, 1) := by decide +kernel
theorem dX12_all_14 : decode cX12_all 14 = .ok (.invokevirtual 231, 3) := by decide +kernel
theorem dX12_all_17 : decode cX12_all 17 = .ok (.iload_n 1, 1) := by decide +kernel
theorem dX12_all_18 : decode cX12_all 18 = .ok (.aload_n 0, 1) := by decide +kernel
theorem dX12_all_19 : decode cX12_all 19 = .ok (.getfield 225, 3) := by decide +kernel
theorem dX12_all_22 : decode cX12_all 22 = .ok (.iadd, 1) := by decide +kernel
theorem dX12_all_23 : decode cX12_all 23 = .ok (.istore_n 1, 1) := by decide +kernel
theorem dX12_all_24 : decode cX12_all 24 = .ok (.iinc 2 1, 3) := by decide +kernel
theorem dX12_all_27 : decode cX12_all 27 = .ok (.goto (-23), 3) := by decide +kernel
theorem dX12_all_30 : decode cX12_all 30 = .ok (.iload_n 1, 1) := by decide +kernel
theorem dX12_all_31 : decode cX12_all 31 = .ok (.ireturn, 1) := by decide +kernel
theorem dX12_setRules_0 : decode cX12_setRules 0 = .ok (.iconst 0, 1) := by decide +kernel
theorem dX12_setRules_1 : decode cX12_setRules 1 = .ok (.istore_n 1, 1) := by decide +kernel
theorem dX12_setRules_2 : decode cX12_setRules 2 = .ok (.iload_n 1, 1) := by decide +kernel
theorem dX12_setRules_3 : decode cX12_setRules 3 = .ok (.aload_n 0, 1) := by decide +kernel
theorem dX12_setRules_4 : decode cX12_setRules 4 = .ok (.getfield 128, 3) := by decide +kernel
theorem dX12_setRules_7 : decode cX12_setRules 7 = .ok (.if_icmp .ge 24, 3) := by decide +kernel
theorem dX12_setRules_10 : decode cX12_setRules 10 = .ok (.aload_n 0, 1) := by decide +kernel
theorem dX12_setRules_11 : decode cX12_setRules 11 = .ok (.iload_n 1, 1) := by decide +kernel
theorem dX12_setRules_12 : decode cX12_setRules 12 = .ok (.invokevirtual 231, 3) := by decide +kernel
theorem dX12_setRules_15 : decode cX12_setRules 15 = .ok (.aload_n 0, 1) := by decide +kernel
theorem dX12_setRules_16 : decode cX12_setRules 16 = .ok (.getfield 72, 3) := by decide +kernel
theorem dX12_setRules_19 : decode cX12_setRules 19 = .ok (.iload_n 1, 1) := by decide +kernel
theorem dX12_setRules_20 : decode cX12_setRules 20 = .ok (.aload_n 0, 1) := by decide +kernel
theorem dX12_setRules_21 : decode cX12_setRules 21 = .ok (.getfield 212, 3) := by decide +kernel
theorem dX12_setRules_24 : decode cX12_setRules 24 = .ok (.iastore, 1) := by decide +kernel
theorem dX12_setRules_25 : decode cX12_setRules 25 = .ok (.iinc 1 1, 3) := by decide +kernel
theorem dX12_setRules_28 : decode cX12_setRules 28 = .ok (.goto (-26), 3) := by decide +kernel
theorem dX12_setRules_31 : decode cX12_setRules 31 = .ok (.return_, 1) := by decide +kernel
theorem dX12_againstOf_0 : decode cX12_againstOf 0 = .ok (.iconst 0, 1) := by decide +kernel
theorem dX12_againstOf_1 : decode cX12_againstOf 1 = .ok (.istore_n 2, 1) := by decide +kernel
theorem dX12_againstOf_2 : decode cX12_againstOf 2 = .ok (.iconst 0, 1) := by decide +kernel
theorem dX12_againstOf_3 : decode cX12_againstOf 3 = .ok (.istore_n 3, 1) := by decide +kernel
theorem dX12_againstOf_4 : decode cX12_againstOf 4 = .ok (.iload_n 3, 1) := by decide +kernel
theorem dX12_againstOf_5 : decode cX12_againstOf 5 = .ok (.aload_n 0, 1) := by decide +kernel
theorem dX12_againstOf_6 : decode cX12_againstOf 6 = .ok (.getfield 128, 3) := by decide +kernel
theorem dX12_againstOf_9 : decode cX12_againstOf 9 = .ok (.if_icmp .ge 66, 3) := by decide +kernel
theorem dX12_againstOf_12 : decode cX12_againstOf 12 = .ok (.iload_n 2, 1) := by decide +kernel
theorem dX12_againstOf_13 : decode cX12_againstOf 13 = .ok (.iload_n 3, 1) := by decide +kernel
theorem dX12_againstOf_14 : decode cX12_againstOf 14 = .ok (.aload_n 0, 1) := by decide +kernel
theorem dX12_againstOf_15 : decode cX12_againstOf 15 = .ok (.getfield 44, 3) := by decide +kernel
theorem dX12_againstOf_18 : decode cX12_againstOf 18 = .ok (.iload_n 1, 1) := by decide +kernel
theorem dX12_againstOf_19 : decode cX12_againstOf 19 = .ok (.iaload, 1) := by decide +kernel
theorem dX12_againstOf_20 : decode cX12_againstOf 20 = .ok (.if_icmp .eq 46, 3) := by decide +kernel
theorem dX12_againstOf_23 : decode cX12_againstOf 23 = .ok (.aload_n 0, 1) := by decide +kernel
theorem dX12_againstOf_24 : decode cX12_againstOf 24 = .ok (.iload_n 3, 1) := by decide +kernel
theorem dX12_againstOf_25 : decode cX12_againstOf 25 = .ok (.invokevirtual 150, 3) := by decide +kernel
theorem dX12_againstOf_28 : decode cX12_againstOf 28 = .ok (.ifCond .le 38, 3) := by decide +kernel
theorem dX12_againstOf_31 : decode cX12_againstOf 31 = .ok (.aload_n 0, 1) := by decide +kernel
theorem dX12_againstOf_32 : decode cX12_againstOf 32 = .ok (.getfield 72, 3) := by decide +kernel
theorem dX12_againstOf_35 : decode cX12_againstOf 35 = .ok (.iload_n 3, 1) := by decide +kernel
theorem dX12_againstOf_36 : decode cX12_againstOf 36 = .ok (.iaload, 1) := by decide +kernel
theorem dX12_againstOf_37 : decode cX12_againstOf 37 = .ok (.aload_n 0, 1) := by decide +kernel
theorem dX12_againstOf_38 : decode cX12_againstOf 38 = .ok (.getfield 32, 3) := by decide +kernel
theorem dX12_againstOf_41 : decode cX12_againstOf 41 = .ok (.aload_n 0, 1) := by decide +kernel
theorem dX12_againstOf_42 : decode cX12_againstOf 42 = .ok (.getfield 47, 3) := by decide +kernel
theorem dX12_againstOf_45 : decode cX12_againstOf 45 = .ok (.iload_n 1, 1) := by decide +kernel
theorem dX12_againstOf_46 : decode cX12_againstOf 46 = .ok (.iaload, 1) := by decide +kernel
theorem dX12_againstOf_47 : decode cX12_againstOf 47 = .ok (.iaload, 1) := by decide +kernel
theorem dX12_againstOf_48 : decode cX12_againstOf 48 = .ok (.invokestatic 193, 3) := by decide +kernel
theorem dX12_againstOf_51 : decode cX12_againstOf 51 = .ok (.aload_n 0, 1) := by decide +kernel
theorem dX12_againstOf_52 : decode cX12_againstOf 52 = .ok (.getfield 53, 3) := by decide +kernel
theorem dX12_againstOf_55 : decode cX12_againstOf 55 = .ok (.iload_n 1, 1) := by decide +kernel
theorem dX12_againstOf_56 : decode cX12_againstOf 56 = .ok (.iaload, 1) := by decide +kernel
theorem dX12_againstOf_57 : decode cX12_againstOf 57 = .ok (.if_icmp .eq 9, 3) := by decide +kernel
theorem dX12_againstOf_60 : decode cX12_againstOf 60 = .ok (.iconst 1, 1) := by decide +kernel
theorem dX12_againstOf_61 : decode cX12_againstOf 61 = .ok (.iload_n 3, 1) := by decide +kernel
theorem dX12_againstOf_62 : decode cX12_againstOf 62 = .ok (.ishl, 1) := by decide +kernel
theorem dX12_againstOf_63 : decode cX12_againstOf 63 = .ok (.goto 4, 3) := by decide +kernel
theorem dX12_againstOf_66 : decode cX12_againstOf 66 = .ok (.iconst 0, 1) := by decide +kernel
theorem dX12_againstOf_67 : decode cX12_againstOf 67 = .ok (.ior, 1) := by decide +kernel
theorem dX12_againstOf_68 : decode cX12_againstOf 68 = .ok (.istore_n 2, 1) := by decide +kernel
theorem dX12_againstOf_69 : decode cX12_againstOf 69 = .ok (.iinc 3 1, 3) := by decide +kernel
theorem dX12_againstOf_72 : decode cX12_againstOf 72 = .ok (.goto (-68), 3) := by decide +kernel
theorem dX12_againstOf_75 : decode cX12_againstOf 75 = .ok (.iload_n 2, 1) := by decide +kernel
theorem dX12_againstOf_76 : decode cX12_againstOf 76 = .ok (.ireturn, 1) := by decide +kernel
theorem dX12_against_0 : decode cX12_against 0 = .ok (.aload_n 0, 1) := by decide +kernel
theorem dX12_against_1 : decode cX12_against 1 = .ok (.iload_n 1, 1) := by decide +kernel
theorem dX12_against_2 : decode cX12_against 2 = .ok (.invokevirtual 157, 3) := by decide +kernel
theorem dX12_against_5 : decode cX12_against 5 = .ok (.ifCond .ne 5, 3) := by decide +kernel
theorem dX12_against_8 : decode cX12_against 8 = .ok (.iconst (-1), 1) := by decide +kernel
theorem dX12_against_9 : decode cX12_against 9 = .ok (.ireturn, 1) := by decide +kernel
theorem dX12_against_10 : decode cX12_against 10 = .ok (.aload_n 0, 1) := by decide +kernel
theorem dX12_against_11 : decode cX12_against 11 = .ok (.invokevirtual 237, 3) := by decide +kernel
theorem dX12_against_14 : decode cX12_against 14 = .ok (.aload_n 0, 1) := by decide +kernel
theorem dX12_against_15 : decode cX12_against 15 = .ok (.iload_n 1, 1) := by decide +kernel
theorem dX12_against_16 : decode cX12_against 16 = .ok (.invokevirtual 240, 3) := by decide +kernel
theorem dX12_against_19 : decode cX12_against 19 = .ok (.ireturn, 1) := by decide +kernel
theorem dX12_nobody_0 : decode cX12_nobody 0 = .ok (.aload_n 0, 1) := by decide +kernel
theorem dX12_nobody_1 : decode cX12_nobody 1 = .ok (.invokevirtual 237, 3) := by decide +kernel
theorem dX12_nobody_4 : decode cX12_nobody 4 = .ok (.iconst 0, 1) := by decide +kernel
theorem dX12_nobody_5 : decode cX12_nobody 5 = .ok (.istore_n 1, 1) := by decide +kernel
theorem dX12_nobody_6 : decode cX12_nobody 6 = .ok (.bipush (-9), 2) := by decide +kernel
theorem dX12_nobody_8 : decode cX12_nobody 8 = .ok (.istore_n 2, 1) := by decide +kernel
theorem dX12_nobody_9 : decode cX12_nobody 9 = .ok (.aload_n 0, 1) := by decide +kernel
theorem dX12_nobody_10 : decode cX12_nobody 10 = .ok (.getfield 131, 3) := by decide +kernel
theorem dX12_nobody_13 : decode cX12_nobody 13 = .ok (.iconst 1, 1) := by decide +kernel
theorem dX12_nobody_14 : decode cX12_nobody 14 = .ok (.isub, 1) := by decide +kernel
theorem dX12_nobody_15 : decode cX12_nobody 15 = .ok (.istore_n 3, 1) := by decide +kernel
theorem dX12_nobody_16 : decode cX12_nobody 16 = .ok (.iload_n 3, 1) := by decide +kernel
theorem dX12_nobody_17 : decode cX12_nobody 17 = .ok (.ifCond .lt 48, 3) := by decide +kernel
theorem dX12_nobody_20 : decode cX12_nobody 20 = .ok (.aload_n 0, 1) := by decide +kernel
theorem dX12_nobody_21 : decode cX12_nobody 21 = .ok (.iload_n 3, 1) := by decide +kernel
theorem dX12_nobody_22 : decode cX12_nobody 22 = .ok (.invokevirtual 240, 3) := by decide +kernel
theorem dX12_nobody_25 : decode cX12_nobody 25 = .ok (.ifCond .ne 7, 3) := by decide +kernel
theorem dX12_nobody_28 : decode cX12_nobody 28 = .ok (.iconst 1, 1) := by decide +kernel
theorem dX12_nobody_29 : decode cX12_nobody 29 = .ok (.goto 4, 3) := by decide +kernel
theorem dX12_nobody_32 : decode cX12_nobody 32 = .ok (.iconst 0, 1) := by decide +kernel
theorem dX12_nobody_33 : decode cX12_nobody 33 = .ok (.istore 4, 2) := by decide +kernel
theorem dX12_nobody_35 : decode cX12_nobody 35 = .ok (.iload_n 1, 1) := by decide +kernel
theorem dX12_nobody_36 : decode cX12_nobody 36 = .ok (.iload 4, 2) := by decide +kernel
theorem dX12_nobody_38 : decode cX12_nobody 38 = .ok (.ifCond .eq 7, 3) := by decide +kernel
theorem dX12_nobody_41 : decode cX12_nobody 41 = .ok (.iconst 1, 1) := by decide +kernel
theorem dX12_nobody_42 : decode cX12_nobody 42 = .ok (.goto 4, 3) := by decide +kernel
theorem dX12_nobody_45 : decode cX12_nobody 45 = .ok (.iconst 0, 1) := by decide +kernel
theorem dX12_nobody_46 : decode cX12_nobody 46 = .ok (.iadd, 1) := by decide +kernel
theorem dX12_nobody_47 : decode cX12_nobody 47 = .ok (.istore_n 1, 1) := by decide +kernel
theorem dX12_nobody_48 : decode cX12_nobody 48 = .ok (.iload 4, 2) := by decide +kernel
theorem dX12_nobody_50 : decode cX12_nobody 50 = .ok (.ifCond .eq 7, 3) := by decide +kernel
theorem dX12_nobody_53 : decode cX12_nobody 53 = .ok (.iload_n 3, 1) := by decide +kernel
theorem dX12_nobody_54 : decode cX12_nobody 54 = .ok (.goto 4, 3) := by decide +kernel
theorem dX12_nobody_57 : decode cX12_nobody 57 = .ok (.iload_n 2, 1) := by decide +kernel
theorem dX12_nobody_58 : decode cX12_nobody 58 = .ok (.istore_n 2, 1) := by decide +kernel
theorem dX12_nobody_59 : decode cX12_nobody 59 = .ok (.iinc 3 (-1), 3) := by decide +kernel
theorem dX12_nobody_62 : decode cX12_nobody 62 = .ok (.goto (-46), 3) := by decide +kernel
theorem dX12_nobody_65 : decode cX12_nobody 65 = .ok (.aload_n 0, 1) := by decide +kernel
theorem dX12_nobody_66 : decode cX12_nobody 66 = .ok (.iload_n 2, 1) := by decide +kernel
theorem dX12_nobody_67 : decode cX12_nobody 67 = .ok (.iload_n 1, 1) := by decide +kernel
theorem dX12_nobody_68 : decode cX12_nobody 68 = .ok (.invokevirtual 119, 3) := by decide +kernel
theorem dX12_nobody_71 : decode cX12_nobody 71 = .ok (.ireturn, 1) := by decide +kernel
theorem dX12_freshOf_0 : decode cX12_freshOf 0 = .ok (.aload_n 0, 1) := by decide +kernel
theorem dX12_freshOf_1 : decode cX12_freshOf 1 = .ok (.iload_n 1, 1) := by decide +kernel
theorem dX12_freshOf_2 : decode cX12_freshOf 2 = .ok (.invokevirtual 234, 3) := by decide +kernel
theorem dX12_freshOf_5 : decode cX12_freshOf 5 = .ok (.aload_n 0, 1) := by decide +kernel
theorem dX12_freshOf_6 : decode cX12_freshOf 6 = .ok (.iload_n 2, 1) := by decide +kernel
theorem dX12_freshOf_7 : decode cX12_freshOf 7 = .ok (.invokevirtual 243, 3) := by decide +kernel
theorem dX12_freshOf_10 : decode cX12_freshOf 10 = .ok (.ireturn, 1) := by decide +kernel
theorem dX12_freshNow_0 : decode cX12_freshNow 0 = .ok (.iconst 0, 1) := by decide +kernel
theorem dX12_freshNow_1 : decode cX12_freshNow 1 = .ok (.istore_n 2, 1) := by decide +kernel
theorem dX12_freshNow_2 : decode cX12_freshNow 2 = .ok (.iconst 0, 1) := by decide +kernel
theorem dX12_freshNow_3 : decode cX12_freshNow 3 = .ok (.istore_n 3, 1) := by decide +kernel
theorem dX12_freshNow_4 : decode cX12_freshNow 4 = .ok (.iconst 0, 1) := by decide +kernel
theorem dX12_freshNow_5 : decode cX12_freshNow 5 = .ok (.istore 4, 2) := by decide +kernel
theorem dX12_freshNow_7 : decode cX12_freshNow 7 = .ok (.iload 4, 2) := by decide +kernel
theorem dX12_freshNow_9 : decode cX12_freshNow 9 = .ok (.sipush 244, 3) := by decide +kernel
theorem dX12_freshNow_12 : decode cX12_freshNow 12 = .ok (.if_icmp .ge 50, 3) := by decide +kernel
theorem dX12_freshNow_15 : decode cX12_freshNow 15 = .ok (.iload_n 2, 1) := by decide +kernel
theorem dX12_freshNow_16 : decode cX12_freshNow 16 = .ok (.aload_n 0, 1) := by decide +kernel
theorem dX12_freshNow_17 : decode cX12_freshNow 17 = .ok (.getfield 68, 3) := by decide +kernel
theorem dX12_freshNow_20 : decode cX12_freshNow 20 = .ok (.iload 4, 2) := by decide +kernel
theorem dX12_freshNow_22 : decode cX12_freshNow 22 = .ok (.baload, 1) := by decide +kernel
theorem dX12_freshNow_23 : decode cX12_freshNow 23 = .ok (.ifCond .eq 7, 3) := by decide +kernel
theorem dX12_freshNow_26 : decode cX12_freshNow 26 = .ok (.iconst 1, 1) := by decide +kernel
theorem dX12_freshNow_27 : decode cX12_freshNow 27 = .ok (.goto 4, 3) := by decide +kernel
theorem dX12_freshNow_30 : decode cX12_freshNow 30 = .ok (.iconst 0, 1) := by decide +kernel
theorem dX12_freshNow_31 : decode cX12_freshNow 31 = .ok (.iadd, 1) := by decide +kernel
theorem dX12_freshNow_32 : decode cX12_freshNow 32 = .ok (.istore_n 2, 1) := by decide +kernel
theorem dX12_freshNow_33 : decode cX12_freshNow 33 = .ok (.iload_n 3, 1) := by decide +kernel
theorem dX12_freshNow_34 : decode cX12_freshNow 34 = .ok (.aload_n 0, 1) := by decide +kernel
theorem dX12_freshNow_35 : decode cX12_freshNow 35 = .ok (.getfield 68, 3) := by decide +kernel
theorem dX12_freshNow_38 : decode cX12_freshNow 38 = .ok (.iload 4, 2) := by decide +kernel
theorem dX12_freshNow_40 : decode cX12_freshNow 40 = .ok (.baload, 1) := by decide +kernel
theorem dX12_freshNow_41 : decode cX12_freshNow 41 = .ok (.ifCond .eq 12, 3) := by decide +kernel
theorem dX12_freshNow_44 : decode cX12_freshNow 44 = .ok (.iload 4, 2) := by decide +kernel
theorem dX12_freshNow_46 : decode cX12_freshNow 46 = .ok (.iload_n 1, 1) := by decide +kernel
theorem dX12_freshNow_47 : decode cX12_freshNow 47 = .ok (.invokestatic 193, 3) := by decide +kernel
theorem dX12_freshNow_50 : decode cX12_freshNow 50 = .ok (.goto 4, 3) := by decide +kernel
theorem dX12_freshNow_53 : decode cX12_freshNow 53 = .ok (.iconst 0, 1) := by decide +kernel
theorem dX12_freshNow_54 : decode cX12_freshNow 54 = .ok (.iadd, 1) := by decide +kernel
theorem dX12_freshNow_55 : decode cX12_freshNow 55 = .ok (.istore_n 3, 1) := by decide +kernel
theorem dX12_freshNow_56 : decode cX12_freshNow 56 = .ok (.iinc 4 1, 3) := by decide +kernel
theorem dX12_freshNow_59 : decode cX12_freshNow 59 = .ok (.goto (-52), 3) := by decide +kernel
theorem dX12_freshNow_62 : decode cX12_freshNow 62 = .ok (.iload_n 3, 1) := by decide +kernel
theorem dX12_freshNow_63 : decode cX12_freshNow 63 = .ok (.ifCond .ne 7, 3) := by decide +kernel
theorem dX12_freshNow_66 : decode cX12_freshNow 66 = .ok (.iconst 0, 1) := by decide +kernel
theorem dX12_freshNow_67 : decode cX12_freshNow 67 = .ok (.goto 13, 3) := by decide +kernel
theorem dX12_freshNow_70 : decode cX12_freshNow 70 = .ok (.iload_n 3, 1) := by decide +kernel
theorem dX12_freshNow_71 : decode cX12_freshNow 71 = .ok (.iload_n 2, 1) := by decide +kernel
theorem dX12_freshNow_72 : decode cX12_freshNow 72 = .ok (.if_icmp .ne 7, 3) := by decide +kernel
theorem dX12_freshNow_75 : decode cX12_freshNow 75 = .ok (.iconst 1, 1) := by decide +kernel
theorem dX12_freshNow_76 : decode cX12_freshNow 76 = .ok (.goto 4, 3) := by decide +kernel
theorem dX12_freshNow_79 : decode cX12_freshNow 79 = .ok (.iconst 2, 1) := by decide +kernel
theorem dX12_freshNow_80 : decode cX12_freshNow 80 = .ok (.ireturn, 1) := by decide +kernel
theorem dX12_plain_0 : decode cX12_plain 0 = .ok (.aload_n 0, 1) := by decide +kernel
theorem dX12_plain_1 : decode cX12_plain 1 = .ok (.iload_n 1, 1) := by decide +kernel
end
section
theorem dX12_plain_2 : decode cX12_plain 2 = .ok (.invokevirtual 157, 3) := by decide +kernel
theorem dX12_plain_5 : decode cX12_plain 5 = .ok (.ifCond .ne 5, 3) := by decide +kernel
theorem dX12_plain_8 : decode cX12_plain 8 = .ok (.iconst (-1), 1) := by decide +kernel
theorem dX12_plain_9 : decode cX12_plain 9 = .ok (.ireturn, 1) := by decide +kernel
theorem dX12_plain_10 : decode cX12_plain 10 = .ok (.iconst 0, 1) := by decide +kernel
theorem dX12_plain_11 : decode cX12_plain 11 = .ok (.istore_n 2, 1) := by decide +kernel
theorem dX12_plain_12 : decode cX12_plain 12 = .ok (.iconst 0, 1) := by decide +kernel
theorem dX12_plain_13 : decode cX12_plain 13 = .ok (.istore_n 3, 1) := by decide +kernel
theorem dX12_plain_14 : decode cX12_plain 14 = .ok (.iload_n 3, 1) := by decide +kernel
theorem dX12_plain_15 : decode cX12_plain 15 = .ok (.aload_n 0, 1) := by decide +kernel
theorem dX12_plain_16 : decode cX12_plain 16 = .ok (.getfield 128, 3) := by decide +kernel
theorem dX12_plain_19 : decode cX12_plain 19 = .ok (.if_icmp .ge 42, 3) := by decide +kernel
theorem dX12_plain_22 : decode cX12_plain 22 = .ok (.iload_n 2, 1) := by decide +kernel
theorem dX12_plain_23 : decode cX12_plain 23 = .ok (.aload_n 0, 1) := by decide +kernel
theorem dX12_plain_24 : decode cX12_plain 24 = .ok (.iload_n 3, 1) := by decide +kernel
theorem dX12_plain_25 : decode cX12_plain 25 = .ok (.invokevirtual 150, 3) := by decide +kernel
theorem dX12_plain_28 : decode cX12_plain 28 = .ok (.ifCond .le 24, 3) := by decide +kernel
theorem dX12_plain_31 : decode cX12_plain 31 = .ok (.iconst 1, 1) := by decide +kernel
theorem dX12_plain_32 : decode cX12_plain 32 = .ok (.aload_n 0, 1) := by decide +kernel
theorem dX12_plain_33 : decode cX12_plain 33 = .ok (.iload_n 3, 1) := by decide +kernel
theorem dX12_plain_34 : decode cX12_plain 34 = .ok (.aload_n 0, 1) := by decide +kernel
theorem dX12_plain_35 : decode cX12_plain 35 = .ok (.getfield 32, 3) := by decide +kernel
theorem dX12_plain_38 : decode cX12_plain 38 = .ok (.aload_n 0, 1) := by decide +kernel
theorem dX12_plain_39 : decode cX12_plain 39 = .ok (.getfield 47, 3) := by decide +kernel
theorem dX12_plain_42 : decode cX12_plain 42 = .ok (.iload_n 1, 1) := by decide +kernel
theorem dX12_plain_43 : decode cX12_plain 43 = .ok (.iaload, 1) := by decide +kernel
theorem dX12_plain_44 : decode cX12_plain 44 = .ok (.iaload, 1) := by decide +kernel
theorem dX12_plain_45 : decode cX12_plain 45 = .ok (.invokevirtual 246, 3) := by decide +kernel
theorem dX12_plain_48 : decode cX12_plain 48 = .ok (.ishl, 1) := by decide +kernel
theorem dX12_plain_49 : decode cX12_plain 49 = .ok (.goto 4, 3) := by decide +kernel
theorem dX12_plain_52 : decode cX12_plain 52 = .ok (.iconst 0, 1) := by decide +kernel
theorem dX12_plain_53 : decode cX12_plain 53 = .ok (.ior, 1) := by decide +kernel
theorem dX12_plain_54 : decode cX12_plain 54 = .ok (.istore_n 2, 1) := by decide +kernel
theorem dX12_plain_55 : decode cX12_plain 55 = .ok (.iinc 3 1, 3) := by decide +kernel
theorem dX12_plain_58 : decode cX12_plain 58 = .ok (.goto (-44), 3) := by decide +kernel
theorem dX12_plain_61 : decode cX12_plain 61 = .ok (.iload_n 2, 1) := by decide +kernel
theorem dX12_plain_62 : decode cX12_plain 62 = .ok (.iconst 1, 1) := by decide +kernel
theorem dX12_plain_63 : decode cX12_plain 63 = .ok (.if_icmp .eq 8, 3) := by decide +kernel
theorem dX12_plain_66 : decode cX12_plain 66 = .ok (.iload_n 2, 1) := by decide +kernel
theorem dX12_plain_67 : decode cX12_plain 67 = .ok (.iconst 2, 1) := by decide +kernel
theorem dX12_plain_68 : decode cX12_plain 68 = .ok (.if_icmp .ne 7, 3) := by decide +kernel
theorem dX12_plain_71 : decode cX12_plain 71 = .ok (.iconst 1, 1) := by decide +kernel
theorem dX12_plain_72 : decode cX12_plain 72 = .ok (.goto 4, 3) := by decide +kernel
theorem dX12_plain_75 : decode cX12_plain 75 = .ok (.iconst 0, 1) := by decide +kernel
theorem dX12_plain_76 : decode cX12_plain 76 = .ok (.ireturn, 1) := by decide +kernel
theorem dX12_leastIn_0 : decode cX12_leastIn 0 = .ok (.ldc 218, 2) := by decide +kernel
theorem dX12_leastIn_2 : decode cX12_leastIn 2 = .ok (.istore 4, 2) := by decide +kernel
theorem dX12_leastIn_4 : decode cX12_leastIn 4 = .ok (.iconst 0, 1) := by decide +kernel
theorem dX12_leastIn_5 : decode cX12_leastIn 5 = .ok (.istore 5, 2) := by decide +kernel
theorem dX12_leastIn_7 : decode cX12_leastIn 7 = .ok (.iload 5, 2) := by decide +kernel
theorem dX12_leastIn_9 : decode cX12_leastIn 9 = .ok (.sipush 244, 3) := by decide +kernel
theorem dX12_leastIn_12 : decode cX12_leastIn 12 = .ok (.if_icmp .ge 101, 3) := by decide +kernel
theorem dX12_leastIn_15 : decode cX12_leastIn 15 = .ok (.iconst 0, 1) := by decide +kernel
theorem dX12_leastIn_16 : decode cX12_leastIn 16 = .ok (.istore 6, 2) := by decide +kernel
theorem dX12_leastIn_18 : decode cX12_leastIn 18 = .ok (.iconst 0, 1) := by decide +kernel
theorem dX12_leastIn_19 : decode cX12_leastIn 19 = .ok (.istore 7, 2) := by decide +kernel
theorem dX12_leastIn_21 : decode cX12_leastIn 21 = .ok (.iconst 0, 1) := by decide +kernel
theorem dX12_leastIn_22 : decode cX12_leastIn 22 = .ok (.istore 8, 2) := by decide +kernel
theorem dX12_leastIn_24 : decode cX12_leastIn 24 = .ok (.iload 8, 2) := by decide +kernel
theorem dX12_leastIn_26 : decode cX12_leastIn 26 = .ok (.aload_n 0, 1) := by decide +kernel
theorem dX12_leastIn_27 : decode cX12_leastIn 27 = .ok (.getfield 131, 3) := by decide +kernel
theorem dX12_leastIn_30 : decode cX12_leastIn 30 = .ok (.if_icmp .ge 61, 3) := by decide +kernel
theorem dX12_leastIn_33 : decode cX12_leastIn 33 = .ok (.aload_n 0, 1) := by decide +kernel
theorem dX12_leastIn_34 : decode cX12_leastIn 34 = .ok (.getfield 44, 3) := by decide +kernel
theorem dX12_leastIn_37 : decode cX12_leastIn 37 = .ok (.iload 8, 2) := by decide +kernel
theorem dX12_leastIn_39 : decode cX12_leastIn 39 = .ok (.iaload, 1) := by decide +kernel
theorem dX12_leastIn_40 : decode cX12_leastIn 40 = .ok (.iload_n 1, 1) := by decide +kernel
theorem dX12_leastIn_41 : decode cX12_leastIn 41 = .ok (.if_icmp .ne 44, 3) := by decide +kernel
theorem dX12_leastIn_44 : decode cX12_leastIn 44 = .ok (.iload 6, 2) := by decide +kernel
theorem dX12_leastIn_46 : decode cX12_leastIn 46 = .ok (.aload_n 0, 1) := by decide +kernel
theorem dX12_leastIn_47 : decode cX12_leastIn 47 = .ok (.getfield 50, 3) := by decide +kernel
theorem dX12_leastIn_50 : decode cX12_leastIn 50 = .ok (.iload 8, 2) := by decide +kernel
theorem dX12_leastIn_52 : decode cX12_leastIn 52 = .ok (.iaload, 1) := by decide +kernel
theorem dX12_leastIn_53 : decode cX12_leastIn 53 = .ok (.iload_n 2, 1) := by decide +kernel
theorem dX12_leastIn_54 : decode cX12_leastIn 54 = .ok (.iload_n 3, 1) := by decide +kernel
theorem dX12_leastIn_55 : decode cX12_leastIn 55 = .ok (.invokestatic 97, 3) := by decide +kernel
theorem dX12_leastIn_58 : decode cX12_leastIn 58 = .ok (.ifCond .eq 20, 3) := by decide +kernel
theorem dX12_leastIn_61 : decode cX12_leastIn 61 = .ok (.aload_n 0, 1) := by decide +kernel
theorem dX12_leastIn_62 : decode cX12_leastIn 62 = .ok (.getfield 65, 3) := by decide +kernel
theorem dX12_leastIn_65 : decode cX12_leastIn 65 = .ok (.sipush 244, 3) := by decide +kernel
theorem dX12_leastIn_68 : decode cX12_leastIn 68 = .ok (.iload 7, 2) := by decide +kernel
theorem dX12_leastIn_70 : decode cX12_leastIn 70 = .ok (.imul, 1) := by decide +kernel
theorem dX12_leastIn_71 : decode cX12_leastIn 71 = .ok (.iload 5, 2) := by decide +kernel
theorem dX12_leastIn_73 : decode cX12_leastIn 73 = .ok (.iadd, 1) := by decide +kernel
theorem dX12_leastIn_74 : decode cX12_leastIn 74 = .ok (.iaload, 1) := by decide +kernel
theorem dX12_leastIn_75 : decode cX12_leastIn 75 = .ok (.goto 4, 3) := by decide +kernel
theorem dX12_leastIn_78 : decode cX12_leastIn 78 = .ok (.iconst 0, 1) := by decide +kernel
theorem dX12_leastIn_79 : decode cX12_leastIn 79 = .ok (.iadd, 1) := by decide +kernel
theorem dX12_leastIn_80 : decode cX12_leastIn 80 = .ok (.istore 6, 2) := by decide +kernel
theorem dX12_leastIn_82 : decode cX12_leastIn 82 = .ok (.iinc 7 1, 3) := by decide +kernel
theorem dX12_leastIn_85 : decode cX12_leastIn 85 = .ok (.iinc 8 1, 3) := by decide +kernel
theorem dX12_leastIn_88 : decode cX12_leastIn 88 = .ok (.goto (-64), 3) := by decide +kernel
theorem dX12_leastIn_91 : decode cX12_leastIn 91 = .ok (.iload 6, 2) := by decide +kernel
theorem dX12_leastIn_93 : decode cX12_leastIn 93 = .ok (.iload 4, 2) := by decide +kernel
theorem dX12_leastIn_95 : decode cX12_leastIn 95 = .ok (.if_icmp .ge 8, 3) := by decide +kernel
theorem dX12_leastIn_98 : decode cX12_leastIn 98 = .ok (.iload 6, 2) := by decide +kernel
theorem dX12_leastIn_100 : decode cX12_leastIn 100 = .ok (.goto 5, 3) := by decide +kernel
theorem dX12_leastIn_103 : decode cX12_leastIn 103 = .ok (.iload 4, 2) := by decide +kernel
theorem dX12_leastIn_105 : decode cX12_leastIn 105 = .ok (.istore 4, 2) := by decide +kernel
theorem dX12_leastIn_107 : decode cX12_leastIn 107 = .ok (.iinc 5 1, 3) := by decide +kernel
theorem dX12_leastIn_110 : decode cX12_leastIn 110 = .ok (.goto (-103), 3) := by decide +kernel
theorem dX12_leastIn_113 : decode cX12_leastIn 113 = .ok (.iload 4, 2) := by decide +kernel
theorem dX12_leastIn_115 : decode cX12_leastIn 115 = .ok (.ireturn, 1) := by decide +kernel
theorem dX12_isSaid_0 : decode cX12_isSaid 0 = .ok (.iconst 0, 1) := by decide +kernel
theorem dX12_isSaid_1 : decode cX12_isSaid 1 = .ok (.istore_n 3, 1) := by decide +kernel
theorem dX12_isSaid_2 : decode cX12_isSaid 2 = .ok (.iconst 0, 1) := by decide +kernel
theorem dX12_isSaid_3 : decode cX12_isSaid 3 = .ok (.istore 4, 2) := by decide +kernel
theorem dX12_isSaid_5 : decode cX12_isSaid 5 = .ok (.iload 4, 2) := by decide +kernel
theorem dX12_isSaid_7 : decode cX12_isSaid 7 = .ok (.aload_n 0, 1) := by decide +kernel
theorem dX12_isSaid_8 : decode cX12_isSaid 8 = .ok (.getfield 131, 3) := by decide +kernel
theorem dX12_isSaid_11 : decode cX12_isSaid 11 = .ok (.if_icmp .ge 41, 3) := by decide +kernel
theorem dX12_isSaid_14 : decode cX12_isSaid 14 = .ok (.iload_n 3, 1) := by decide +kernel
theorem dX12_isSaid_15 : decode cX12_isSaid 15 = .ok (.ifCond .ne 25, 3) := by decide +kernel
theorem dX12_isSaid_18 : decode cX12_isSaid 18 = .ok (.aload_n 0, 1) := by decide +kernel
theorem dX12_isSaid_19 : decode cX12_isSaid 19 = .ok (.getfield 44, 3) := by decide +kernel
theorem dX12_isSaid_22 : decode cX12_isSaid 22 = .ok (.iload 4, 2) := by decide +kernel
theorem dX12_isSaid_24 : decode cX12_isSaid 24 = .ok (.iaload, 1) := by decide +kernel
theorem dX12_isSaid_25 : decode cX12_isSaid 25 = .ok (.iload_n 1, 1) := by decide +kernel
theorem dX12_isSaid_26 : decode cX12_isSaid 26 = .ok (.if_icmp .ne 18, 3) := by decide +kernel
theorem dX12_isSaid_29 : decode cX12_isSaid 29 = .ok (.aload_n 0, 1) := by decide +kernel
theorem dX12_isSaid_30 : decode cX12_isSaid 30 = .ok (.getfield 50, 3) := by decide +kernel
theorem dX12_isSaid_33 : decode cX12_isSaid 33 = .ok (.iload 4, 2) := by decide +kernel
theorem dX12_isSaid_35 : decode cX12_isSaid 35 = .ok (.iaload, 1) := by decide +kernel
theorem dX12_isSaid_36 : decode cX12_isSaid 36 = .ok (.iload_n 2, 1) := by decide +kernel
theorem dX12_isSaid_37 : decode cX12_isSaid 37 = .ok (.if_icmp .ne 7, 3) := by decide +kernel
theorem dX12_isSaid_40 : decode cX12_isSaid 40 = .ok (.iconst 1, 1) := by decide +kernel
theorem dX12_isSaid_41 : decode cX12_isSaid 41 = .ok (.goto 4, 3) := by decide +kernel
theorem dX12_isSaid_44 : decode cX12_isSaid 44 = .ok (.iconst 0, 1) := by decide +kernel
theorem dX12_isSaid_45 : decode cX12_isSaid 45 = .ok (.istore_n 3, 1) := by decide +kernel
theorem dX12_isSaid_46 : decode cX12_isSaid 46 = .ok (.iinc 4 1, 3) := by decide +kernel
theorem dX12_isSaid_49 : decode cX12_isSaid 49 = .ok (.goto (-44), 3) := by decide +kernel
theorem dX12_isSaid_52 : decode cX12_isSaid 52 = .ok (.iload_n 3, 1) := by decide +kernel
theorem dX12_isSaid_53 : decode cX12_isSaid 53 = .ok (.ireturn, 1) := by decide +kernel
theorem dX12_changed_0 : decode cX12_changed 0 = .ok (.aload_n 0, 1) := by decide +kernel
theorem dX12_changed_1 : decode cX12_changed 1 = .ok (.iload_n 1, 1) := by decide +kernel
theorem dX12_changed_2 : decode cX12_changed 2 = .ok (.invokevirtual 137, 3) := by decide +kernel
theorem dX12_changed_5 : decode cX12_changed 5 = .ok (.ifCond .ne 5, 3) := by decide +kernel
theorem dX12_changed_8 : decode cX12_changed 8 = .ok (.iconst (-1), 1) := by decide +kernel
theorem dX12_changed_9 : decode cX12_changed 9 = .ok (.ireturn, 1) := by decide +kernel
theorem dX12_changed_10 : decode cX12_changed 10 = .ok (.aload_n 0, 1) := by decide +kernel
theorem dX12_changed_11 : decode cX12_changed 11 = .ok (.iload_n 1, 1) := by decide +kernel
theorem dX12_changed_12 : decode cX12_changed 12 = .ok (.invokevirtual 208, 3) := by decide +kernel
theorem dX12_changed_15 : decode cX12_changed 15 = .ok (.aload_n 0, 1) := by decide +kernel
theorem dX12_changed_16 : decode cX12_changed 16 = .ok (.iload_n 1, 1) := by decide +kernel
theorem dX12_changed_17 : decode cX12_changed 17 = .ok (.iconst 0, 1) := by decide +kernel
theorem dX12_changed_18 : decode cX12_changed 18 = .ok (.sipush 999, 3) := by decide +kernel
theorem dX12_changed_21 : decode cX12_changed 21 = .ok (.invokevirtual 249, 3) := by decide +kernel
theorem dX12_changed_24 : decode cX12_changed 24 = .ok (.istore_n 2, 1) := by decide +kernel
theorem dX12_changed_25 : decode cX12_changed 25 = .ok (.aload_n 0, 1) := by decide +kernel
theorem dX12_changed_26 : decode cX12_changed 26 = .ok (.getfield 35, 3) := by decide +kernel
theorem dX12_changed_29 : decode cX12_changed 29 = .ok (.iload_n 1, 1) := by decide +kernel
theorem dX12_changed_30 : decode cX12_changed 30 = .ok (.iaload, 1) := by decide +kernel
theorem dX12_changed_31 : decode cX12_changed 31 = .ok (.istore_n 3, 1) := by decide +kernel
theorem dX12_changed_32 : decode cX12_changed 32 = .ok (.iload_n 2, 1) := by decide +kernel
theorem dX12_changed_33 : decode cX12_changed 33 = .ok (.istore 4, 2) := by decide +kernel
theorem dX12_changed_35 : decode cX12_changed 35 = .ok (.aload_n 0, 1) := by decide +kernel
theorem dX12_changed_36 : decode cX12_changed 36 = .ok (.getfield 35, 3) := by decide +kernel
theorem dX12_changed_39 : decode cX12_changed 39 = .ok (.iload_n 1, 1) := by decide +kernel
theorem dX12_changed_40 : decode cX12_changed 40 = .ok (.iaload, 1) := by decide +kernel
theorem dX12_changed_41 : decode cX12_changed 41 = .ok (.iconst 1, 1) := by decide +kernel
theorem dX12_changed_42 : decode cX12_changed 42 = .ok (.iadd, 1) := by decide +kernel
theorem dX12_changed_43 : decode cX12_changed 43 = .ok (.istore 5, 2) := by decide +kernel
theorem dX12_changed_45 : decode cX12_changed 45 = .ok (.iload 5, 2) := by decide +kernel
theorem dX12_changed_47 : decode cX12_changed 47 = .ok (.aload_n 0, 1) := by decide +kernel
theorem dX12_changed_48 : decode cX12_changed 48 = .ok (.getfield 38, 3) := by decide +kernel
theorem dX12_changed_51 : decode cX12_changed 51 = .ok (.iload_n 1, 1) := by decide +kernel
theorem dX12_changed_52 : decode cX12_changed 52 = .ok (.iaload, 1) := by decide +kernel
theorem dX12_changed_53 : decode cX12_changed 53 = .ok (.if_icmp .gt 74, 3) := by decide +kernel
theorem dX12_changed_56 : decode cX12_changed 56 = .ok (.aload_n 0, 1) := by decide +kernel
theorem dX12_changed_57 : decode cX12_changed 57 = .ok (.iload_n 1, 1) := by decide +kernel
theorem dX12_changed_58 : decode cX12_changed 58 = .ok (.iload 5, 2) := by decide +kernel
theorem dX12_changed_60 : decode cX12_changed 60 = .ok (.iconst 1, 1) := by decide +kernel
theorem dX12_changed_61 : decode cX12_changed 61 = .ok (.isub, 1) := by decide +kernel
theorem dX12_changed_62 : decode cX12_changed 62 = .ok (.invokevirtual 253, 3) := by decide +kernel
theorem dX12_changed_65 : decode cX12_changed 65 = .ok (.ifCond .eq 56, 3) := by decide +kernel
theorem dX12_changed_68 : decode cX12_changed 68 = .ok (.aload_n 0, 1) := by decide +kernel
theorem dX12_changed_69 : decode cX12_changed 69 = .ok (.iload_n 1, 1) := by decide +kernel
theorem dX12_changed_70 : decode cX12_changed 70 = .ok (.iconst 0, 1) := by decide +kernel
theorem dX12_changed_71 : decode cX12_changed 71 = .ok (.iload 5, 2) := by decide +kernel
theorem dX12_changed_73 : decode cX12_changed 73 = .ok (.iconst 1, 1) := by decide +kernel
theorem dX12_changed_74 : decode cX12_changed 74 = .ok (.isub, 1) := by decide +kernel
theorem dX12_changed_75 : decode cX12_changed 75 = .ok (.invokevirtual 249, 3) := by decide +kernel
theorem dX12_changed_78 : decode cX12_changed 78 = .ok (.aload_n 0, 1) := by decide +kernel
theorem dX12_changed_79 : decode cX12_changed 79 = .ok (.iload_n 1, 1) := by decide +kernel
theorem dX12_changed_80 : decode cX12_changed 80 = .ok (.iload 5, 2) := by decide +kernel
theorem dX12_changed_82 : decode cX12_changed 82 = .ok (.sipush 999, 3) := by decide +kernel
theorem dX12_changed_85 : decode cX12_changed 85 = .ok (.invokevirtual 249, 3) := by decide +kernel
theorem dX12_changed_88 : decode cX12_changed 88 = .ok (.iadd, 1) := by decide +kernel
theorem dX12_changed_89 : decode cX12_changed 89 = .ok (.istore 6, 2) := by decide +kernel
theorem dX12_changed_91 : decode cX12_changed 91 = .ok (.iload 6, 2) := by decide +kernel
theorem dX12_changed_93 : decode cX12_changed 93 = .ok (.iload 4, 2) := by decide +kernel
theorem dX12_changed_95 : decode cX12_changed 95 = .ok (.if_icmp .ge 8, 3) := by decide +kernel
theorem dX12_changed_98 : decode cX12_changed 98 = .ok (.iload 5, 2) := by decide +kernel
theorem dX12_changed_100 : decode cX12_changed 100 = .ok (.goto 4, 3) := by decide +kernel
theorem dX12_changed_103 : decode cX12_changed 103 = .ok (.iload_n 3, 1) := by decide +kernel
theorem dX12_changed_104 : decode cX12_changed 104 = .ok (.istore_n 3, 1) := by decide +kernel
theorem dX12_changed_105 : decode cX12_changed 105 = .ok (.iload 6, 2) := by decide +kernel
theorem dX12_changed_107 : decode cX12_changed 107 = .ok (.iload 4, 2) := by decide +kernel
theorem dX12_changed_109 : decode cX12_changed 109 = .ok (.if_icmp .ge 8, 3) := by decide +kernel
theorem dX12_changed_112 : decode cX12_changed 112 = .ok (.iload 6, 2) := by decide +kernel
theorem dX12_changed_114 : decode cX12_changed 114 = .ok (.goto 5, 3) := by decide +kernel
theorem dX12_changed_117 : decode cX12_changed 117 = .ok (.iload 4, 2) := by decide +kernel
theorem dX12_changed_119 : decode cX12_changed 119 = .ok (.istore 4, 2) := by decide +kernel
theorem dX12_changed_121 : decode cX12_changed 121 = .ok (.iinc 5 1, 3) := by decide +kernel
theorem dX12_changed_124 : decode cX12_changed 124 = .ok (.goto (-79), 3) := by decide +kernel
theorem dX12_changed_127 : decode cX12_changed 127 = .ok (.aload_n 0, 1) := by decide +kernel
theorem dX12_changed_128 : decode cX12_changed 128 = .ok (.iload_n 2, 1) := by decide +kernel
theorem dX12_changed_129 : decode cX12_changed 129 = .ok (.iload 4, 2) := by decide +kernel
theorem dX12_changed_131 : decode cX12_changed 131 = .ok (.isub, 1) := by decide +kernel
theorem dX12_changed_132 : decode cX12_changed 132 = .ok (.iload_n 3, 1) := by decide +kernel
theorem dX12_changed_133 : decode cX12_changed 133 = .ok (.invokevirtual 119, 3) := by decide +kernel
theorem dX12_changed_136 : decode cX12_changed 136 = .ok (.ireturn, 1) := by decide +kernel
theorem dX12_parts_0 : decode cX12_parts 0 = .ok (.aload_n 0, 1) := by decide +kernel
theorem dX12_parts_1 : decode cX12_parts 1 = .ok (.iload_n 1, 1) := by decide +kernel
theorem dX12_parts_2 : decode cX12_parts 2 = .ok (.invokevirtual 144, 3) := by decide +kernel
theorem dX12_parts_5 : decode cX12_parts 5 = .ok (.ifCond .eq 11, 3) := by decide +kernel
theorem dX12_parts_8 : decode cX12_parts 8 = .ok (.aload_n 0, 1) := by decide +kernel
theorem dX12_parts_9 : decode cX12_parts 9 = .ok (.iload_n 2, 1) := by decide +kernel
theorem dX12_parts_10 : decode cX12_parts 10 = .ok (.invokevirtual 144, 3) := by decide +kernel
theorem dX12_parts_13 : decode cX12_parts 13 = .ok (.ifCond .ne 5, 3) := by decide +kernel
theorem dX12_parts_16 : decode cX12_parts 16 = .ok (.iconst (-1), 1) := by decide +kernel
theorem dX12_parts_17 : decode cX12_parts 17 = .ok (.ireturn, 1) := by decide +kernel
theorem dX12_parts_18 : decode cX12_parts 18 = .ok (.aload_n 0, 1) := by decide +kernel
theorem dX12_parts_19 : decode cX12_parts 19 = .ok (.getfield 32, 3) := by decide +kernel
theorem dX12_parts_22 : decode cX12_parts 22 = .ok (.iload_n 1, 1) := by decide +kernel
theorem dX12_parts_23 : decode cX12_parts 23 = .ok (.iaload, 1) := by decide +kernel
theorem dX12_parts_24 : decode cX12_parts 24 = .ok (.aload_n 0, 1) := by decide +kernel
theorem dX12_parts_25 : decode cX12_parts 25 = .ok (.getfield 32, 3) := by decide +kernel
theorem dX12_parts_28 : decode cX12_parts 28 = .ok (.iload_n 2, 1) := by decide +kernel
theorem dX12_parts_29 : decode cX12_parts 29 = .ok (.iaload, 1) := by decide +kernel
theorem dX12_parts_30 : decode cX12_parts 30 = .ok (.ixor, 1) := by decide +kernel
theorem dX12_parts_31 : decode cX12_parts 31 = .ok (.istore_n 3, 1) := by decide +kernel
theorem dX12_parts_32 : decode cX12_parts 32 = .ok (.bipush (-9), 2) := by decide +kernel
theorem dX12_parts_34 : decode cX12_parts 34 = .ok (.istore 4, 2) := by decide +kernel
theorem dX12_parts_36 : decode cX12_parts 36 = .ok (.iconst 4, 1) := by decide +kernel
theorem dX12_parts_37 : decode cX12_parts 37 = .ok (.istore 5, 2) := by decide +kernel
theorem dX12_parts_39 : decode cX12_parts 39 = .ok (.iload 5, 2) := by decide +kernel
theorem dX12_parts_41 : decode cX12_parts 41 = .ok (.ifCond .lt 27, 3) := by decide +kernel
theorem dX12_parts_44 : decode cX12_parts 44 = .ok (.iload_n 3, 1) := by decide +kernel
theorem dX12_parts_45 : decode cX12_parts 45 = .ok (.iload 5, 2) := by decide +kernel
theorem dX12_parts_47 : decode cX12_parts 47 = .ok (.invokestatic 187, 3) := by decide +kernel
theorem dX12_parts_50 : decode cX12_parts 50 = .ok (.ifCond .eq 8, 3) := by decide +kernel
theorem dX12_parts_53 : decode cX12_parts 53 = .ok (.iload 5, 2) := by decide +kernel
theorem dX12_parts_55 : decode cX12_parts 55 = .ok (.goto 5, 3) := by decide +kernel
theorem dX12_parts_58 : decode cX12_parts 58 = .ok (.iload 4, 2) := by decide +kernel
theorem dX12_parts_60 : decode cX12_parts 60 = .ok (.istore 4, 2) := by decide +kernel
theorem dX12_parts_62 : decode cX12_parts 62 = .ok (.iinc 5 (-1), 3) := by decide +kernel
theorem dX12_parts_65 : decode cX12_parts 65 = .ok (.goto (-26), 3) := by decide +kernel
theorem dX12_parts_68 : decode cX12_parts 68 = .ok (.aload_n 0, 1) := by decide +kernel
theorem dX12_parts_69 : decode cX12_parts 69 = .ok (.iload 4, 2) := by decide +kernel
theorem dX12_parts_71 : decode cX12_parts 71 = .ok (.iload_n 3, 1) := by decide +kernel
theorem dX12_parts_72 : decode cX12_parts 72 = .ok (.invokestatic 256, 3) := by decide +kernel
theorem dX12_parts_75 : decode cX12_parts 75 = .ok (.invokevirtual 119, 3) := by decide +kernel
theorem dX12_parts_78 : decode cX12_parts 78 = .ok (.ireturn, 1) := by decide +kernel
theorem dX12_bits_0 : decode cX12_bits 0 = .ok (.iconst 0, 1) := by decide +kernel
theorem dX12_bits_1 : decode cX12_bits 1 = .ok (.istore_n 1, 1) := by decide +kernel
theorem dX12_bits_2 : decode cX12_bits 2 = .ok (.iconst 0, 1) := by decide +kernel
theorem dX12_bits_3 : decode cX12_bits 3 = .ok (.istore_n 2, 1) := by decide +kernel
theorem dX12_bits_4 : decode cX12_bits 4 = .ok (.iload_n 2, 1) := by decide +kernel
theorem dX12_bits_5 : decode cX12_bits 5 = .ok (.bipush 8, 2) := by decide +kernel
theorem dX12_bits_7 : decode cX12_bits 7 = .ok (.if_icmp .ge 17, 3) := by decide +kernel
theorem dX12_bits_10 : decode cX12_bits 10 = .ok (.iload_n 1, 1) := by decide +kernel
theorem dX12_bits_11 : decode cX12_bits 11 = .ok (.iload_n 0, 1) := by decide +kernel
theorem dX12_bits_12 : decode cX12_bits 12 = .ok (.iload_n 2, 1) := by decide +kernel
theorem dX12_bits_13 : decode cX12_bits 13 = .ok (.ishr, 1) := by decide +kernel
theorem dX12_bits_14 : decode cX12_bits 14 = .ok (.iconst 1, 1) := by decide +kernel
theorem dX12_bits_15 : decode cX12_bits 15 = .ok (.iand, 1) := by decide +kernel
theorem dX12_bits_16 : decode cX12_bits 16 = .ok (.iadd, 1) := by decide +kernel
theorem dX12_bits_17 : decode cX12_bits 17 = .ok (.istore_n 1, 1) := by decide +kernel
theorem dX12_bits_18 : decode cX12_bits 18 = .ok (.iinc 2 1, 3) := by decide +kernel
theorem dX12_bits_21 : decode cX12_bits 21 = .ok (.goto (-17), 3) := by decide +kernel
theorem dX12_bits_24 : decode cX12_bits 24 = .ok (.iload_n 1, 1) := by decide +kernel
theorem dX12_bits_25 : decode cX12_bits 25 = .ok (.ireturn, 1) := by decide +kernel
theorem dX12_met_0 : decode cX12_met 0 = .ok (.aload_n 0, 1) := by decide +kernel
theorem dX12_met_1 : decode cX12_met 1 = .ok (.iload_n 1, 1) := by decide +kernel
theorem dX12_met_2 : decode cX12_met 2 = .ok (.invokevirtual 137, 3) := by decide +kernel
theorem dX12_met_5 : decode cX12_met 5 = .ok (.ifCond .eq 11, 3) := by decide +kernel
theorem dX12_met_8 : decode cX12_met 8 = .ok (.aload_n 0, 1) := by decide +kernel
theorem dX12_met_9 : decode cX12_met 9 = .ok (.iload_n 2, 1) := by decide +kernel
theorem dX12_met_10 : decode cX12_met 10 = .ok (.invokevirtual 137, 3) := by decide +kernel
theorem dX12_met_13 : decode cX12_met 13 = .ok (.ifCond .ne 5, 3) := by decide +kernel
theorem dX12_met_16 : decode cX12_met 16 = .ok (.iconst (-1), 1) := by decide +kernel
theorem dX12_met_17 : decode cX12_met 17 = .ok (.ireturn, 1) := by decide +kernel
theorem dX12_met_18 : decode cX12_met 18 = .ok (.aload_n 0, 1) := by decide +kernel
theorem dX12_met_19 : decode cX12_met 19 = .ok (.getfield 35, 3) := by decide +kernel
theorem dX12_met_22 : decode cX12_met 22 = .ok (.iload_n 1, 1) := by decide +kernel
theorem dX12_met_23 : decode cX12_met 23 = .ok (.iaload, 1) := by decide +kernel
theorem dX12_met_24 : decode cX12_met 24 = .ok (.aload_n 0, 1) := by decide +kernel
theorem dX12_met_25 : decode cX12_met 25 = .ok (.getfield 35, 3) := by decide +kernel
theorem dX12_met_28 : decode cX12_met 28 = .ok (.iload_n 2, 1) := by decide +kernel
theorem dX12_met_29 : decode cX12_met 29 = .ok (.iaload, 1) := by decide +kernel
theorem dX12_met_30 : decode cX12_met 30 = .ok (.if_icmp .le 12, 3) := by decide +kernel
theorem dX12_met_33 : decode cX12_met 33 = .ok (.aload_n 0, 1) := by decide +kernel
theorem dX12_met_34 : decode cX12_met 34 = .ok (.getfield 35, 3) := by decide +kernel
theorem dX12_met_37 : decode cX12_met 37 = .ok (.iload_n 1, 1) := by decide +kernel
theorem dX12_met_38 : decode cX12_met 38 = .ok (.iaload, 1) := by decide +kernel
theorem dX12_met_39 : decode cX12_met 39 = .ok (.goto 9, 3) := by decide +kernel
theorem dX12_met_42 : decode cX12_met 42 = .ok (.aload_n 0, 1) := by decide +kernel
theorem dX12_met_43 : decode cX12_met 43 = .ok (.getfield 35, 3) := by decide +kernel
theorem dX12_met_46 : decode cX12_met 46 = .ok (.iload_n 2, 1) := by decide +kernel
theorem dX12_met_47 : decode cX12_met 47 = .ok (.iaload, 1) := by decide +kernel
theorem dX12_met_48 : decode cX12_met 48 = .ok (.bipush 15, 2) := by decide +kernel
theorem dX12_met_50 : decode cX12_met 50 = .ok (.iadd, 1) := by decide +kernel
theorem dX12_met_51 : decode cX12_met 51 = .ok (.istore_n 3, 1) := by decide +kernel
theorem dX12_met_52 : decode cX12_met 52 = .ok (.aload_n 0, 1) := by decide +kernel
theorem dX12_met_53 : decode cX12_met 53 = .ok (.getfield 38, 3) := by decide +kernel
theorem dX12_met_56 : decode cX12_met 56 = .ok (.iload_n 1, 1) := by decide +kernel
theorem dX12_met_57 : decode cX12_met 57 = .ok (.iaload, 1) := by decide +kernel
theorem dX12_met_58 : decode cX12_met 58 = .ok (.aload_n 0, 1) := by decide +kernel
theorem dX12_met_59 : decode cX12_met 59 = .ok (.getfield 38, 3) := by decide +kernel
theorem dX12_met_62 : decode cX12_met 62 = .ok (.iload_n 2, 1) := by decide +kernel
theorem dX12_met_63 : decode cX12_met 63 = .ok (.iaload, 1) := by decide +kernel
theorem dX12_met_64 : decode cX12_met 64 = .ok (.if_icmp .ge 12, 3) := by decide +kernel
theorem dX12_met_67 : decode cX12_met 67 = .ok (.aload_n 0, 1) := by decide +kernel
theorem dX12_met_68 : decode cX12_met 68 = .ok (.getfield 38, 3) := by decide +kernel
theorem dX12_met_71 : decode cX12_met 71 = .ok (.iload_n 1, 1) := by decide +kernel
theorem dX12_met_72 : decode cX12_met 72 = .ok (.iaload, 1) := by decide +kernel
theorem dX12_met_73 : decode cX12_met 73 = .ok (.goto 9, 3) := by decide +kernel
theorem dX12_met_76 : decode cX12_met 76 = .ok (.aload_n 0, 1) := by decide +kernel
theorem dX12_met_77 : decode cX12_met 77 = .ok (.getfield 38, 3) := by decide +kernel
theorem dX12_met_80 : decode cX12_met 80 = .ok (.iload_n 2, 1) := by decide +kernel
theorem dX12_met_81 : decode cX12_met 81 = .ok (.iaload, 1) := by decide +kernel
theorem dX12_met_82 : decode cX12_met 82 = .ok (.istore 4, 2) := by decide +kernel
theorem dX12_met_84 : decode cX12_met 84 = .ok (.iload 4, 2) := by decide +kernel
theorem dX12_met_86 : decode cX12_met 86 = .ok (.iload_n 3, 1) := by decide +kernel
theorem dX12_met_87 : decode cX12_met 87 = .ok (.if_icmp .ge 7, 3) := by decide +kernel
theorem dX12_met_90 : decode cX12_met 90 = .ok (.iconst 0, 1) := by decide +kernel
theorem dX12_met_91 : decode cX12_met 91 = .ok (.goto 9, 3) := by decide +kernel
theorem dX12_met_94 : decode cX12_met 94 = .ok (.iload 4, 2) := by decide +kernel
theorem dX12_met_96 : decode cX12_met 96 = .ok (.iload_n 3, 1) := by decide +kernel
theorem dX12_met_97 : decode cX12_met 97 = .ok (.isub, 1) := by decide +kernel
theorem dX12_met_98 : decode cX12_met 98 = .ok (.iconst 1, 1) := by decide +kernel
theorem dX12_met_99 : decode cX12_met 99 = .ok (.iadd, 1) := by decide +kernel
theorem dX12_met_100 : decode cX12_met 100 = .ok (.ireturn, 1) := by decide +kernel
theorem dX12_can_0 : decode cX12_can 0 = .ok (.iload_n 1, 1) := by decide +kernel
theorem dX12_can_1 : decode cX12_can 1 = .ok (.iconst 1, 1) := by decide +kernel
theorem dX12_can_2 : decode cX12_can 2 = .ok (.if_icmp .lt 13, 3) := by decide +kernel
theorem dX12_can_5 : decode cX12_can 5 = .ok (.iload_n 1, 1) := by decide +kernel
theorem dX12_can_6 : decode cX12_can 6 = .ok (.iconst 1, 1) := by decide +kernel
theorem dX12_can_7 : decode cX12_can 7 = .ok (.aload_n 0, 1) := by decide +kernel
theorem dX12_can_8 : decode cX12_can 8 = .ok (.getfield 128, 3) := by decide +kernel
theorem dX12_can_11 : decode cX12_can 11 = .ok (.ishl, 1) := by decide +kernel
theorem dX12_can_12 : decode cX12_can 12 = .ok (.if_icmp .lt 5, 3) := by decide +kernel
theorem dX12_can_15 : decode cX12_can 15 = .ok (.iconst (-1), 1) := by decide +kernel
theorem dX12_can_16 : decode cX12_can 16 = .ok (.ireturn, 1) := by decide +kernel
theorem dX12_can_17 : decode cX12_can 17 = .ok (.ldc 218, 2) := by decide +kernel
theorem dX12_can_19 : decode cX12_can 19 = .ok (.istore_n 2, 1) := by decide +kernel
theorem dX12_can_20 : decode cX12_can 20 = .ok (.bipush (-9), 2) := by decide +kernel
theorem dX12_can_22 : decode cX12_can 22 = .ok (.istore_n 3, 1) := by decide +kernel
theorem dX12_can_23 : decode cX12_can 23 = .ok (.iconst 0, 1) := by decide +kernel
theorem dX12_can_24 : decode cX12_can 24 = .ok (.istore 4, 2) := by decide +kernel
theorem dX12_can_26 : decode cX12_can 26 = .ok (.iload 4, 2) := by decide +kernel
theorem dX12_can_28 : decode cX12_can 28 = .ok (.aload_n 0, 1) := by decide +kernel
theorem dX12_can_29 : decode cX12_can 29 = .ok (.getfield 131, 3) := by decide +kernel
theorem dX12_can_32 : decode cX12_can 32 = .ok (.if_icmp .ge 69, 3) := by decide +kernel
theorem dX12_can_35 : decode cX12_can 35 = .ok (.iload_n 1, 1) := by decide +kernel
theorem dX12_can_36 : decode cX12_can 36 = .ok (.aload_n 0, 1) := by decide +kernel
theorem dX12_can_37 : decode cX12_can 37 = .ok (.getfield 44, 3) := by decide +kernel
theorem dX12_can_40 : decode cX12_can 40 = .ok (.iload 4, 2) := by decide +kernel
theorem dX12_can_42 : decode cX12_can 42 = .ok (.iaload, 1) := by decide +kernel
theorem dX12_can_43 : decode cX12_can 43 = .ok (.invokestatic 187, 3) := by decide +kernel
theorem dX12_can_46 : decode cX12_can 46 = .ok (.ifCond .eq 49, 3) := by decide +kernel
theorem dX12_can_49 : decode cX12_can 49 = .ok (.aload_n 0, 1) := by decide +kernel
theorem dX12_can_50 : decode cX12_can 50 = .ok (.getfield 50, 3) := by decide +kernel
theorem dX12_can_53 : decode cX12_can 53 = .ok (.iload 4, 2) := by decide +kernel
theorem dX12_can_55 : decode cX12_can 55 = .ok (.iaload, 1) := by decide +kernel
theorem dX12_can_56 : decode cX12_can 56 = .ok (.iload_n 2, 1) := by decide +kernel
theorem dX12_can_57 : decode cX12_can 57 = .ok (.if_icmp .ge 13, 3) := by decide +kernel
theorem dX12_can_60 : decode cX12_can 60 = .ok (.aload_n 0, 1) := by decide +kernel
theorem dX12_can_61 : decode cX12_can 61 = .ok (.getfield 50, 3) := by decide +kernel
theorem dX12_can_64 : decode cX12_can 64 = .ok (.iload 4, 2) := by decide +kernel
theorem dX12_can_66 : decode cX12_can 66 = .ok (.iaload, 1) := by decide +kernel
theorem dX12_can_67 : decode cX12_can 67 = .ok (.goto 4, 3) := by decide +kernel
theorem dX12_can_70 : decode cX12_can 70 = .ok (.iload_n 2, 1) := by decide +kernel
theorem dX12_can_71 : decode cX12_can 71 = .ok (.istore_n 2, 1) := by decide +kernel
theorem dX12_can_72 : decode cX12_can 72 = .ok (.aload_n 0, 1) := by decide +kernel
theorem dX12_can_73 : decode cX12_can 73 = .ok (.getfield 50, 3) := by decide +kernel
theorem dX12_can_76 : decode cX12_can 76 = .ok (.iload 4, 2) := by decide +kernel
theorem dX12_can_78 : decode cX12_can 78 = .ok (.iaload, 1) := by decide +kernel
theorem dX12_can_79 : decode cX12_can 79 = .ok (.iload_n 3, 1) := by decide +kernel
theorem dX12_can_80 : decode cX12_can 80 = .ok (.if_icmp .le 13, 3) := by decide +kernel
theorem dX12_can_83 : decode cX12_can 83 = .ok (.aload_n 0, 1) := by decide +kernel
theorem dX12_can_84 : decode cX12_can 84 = .ok (.getfield 50, 3) := by decide +kernel
theorem dX12_can_87 : decode cX12_can 87 = .ok (.iload 4, 2) := by decide +kernel
theorem dX12_can_89 : decode cX12_can 89 = .ok (.iaload, 1) := by decide +kernel
theorem dX12_can_90 : decode cX12_can 90 = .ok (.goto 4, 3) := by decide +kernel
theorem dX12_can_93 : decode cX12_can 93 = .ok (.iload_n 3, 1) := by decide +kernel
theorem dX12_can_94 : decode cX12_can 94 = .ok (.istore_n 3, 1) := by decide +kernel
theorem dX12_can_95 : decode cX12_can 95 = .ok (.iinc 4 1, 3) := by decide +kernel
theorem dX12_can_98 : decode cX12_can 98 = .ok (.goto (-72), 3) := by decide +kernel
theorem dX12_can_101 : decode cX12_can 101 = .ok (.iload_n 3, 1) := by decide +kernel
theorem dX12_can_102 : decode cX12_can 102 = .ok (.ifCond .ge 7, 3) := by decide +kernel
theorem dX12_can_105 : decode cX12_can 105 = .ok (.iconst 0, 1) := by decide +kernel
theorem dX12_can_106 : decode cX12_can 106 = .ok (.goto 6, 3) := by decide +kernel
theorem dX12_can_109 : decode cX12_can 109 = .ok (.iload_n 3, 1) := by decide +kernel
theorem dX12_can_110 : decode cX12_can 110 = .ok (.iload_n 2, 1) := by decide +kernel
theorem dX12_can_111 : decode cX12_can 111 = .ok (.isub, 1) := by decide +kernel
theorem dX12_can_112 : decode cX12_can 112 = .ok (.istore 4, 2) := by decide +kernel
theorem dX12_can_114 : decode cX12_can 114 = .ok (.aload_n 0, 1) := by decide +kernel
theorem dX12_can_115 : decode cX12_can 115 = .ok (.iload 4, 2) := by decide +kernel
theorem dX12_can_117 : decode cX12_can 117 = .ok (.iload 4, 2) := by decide +kernel
theorem dX12_can_119 : decode cX12_can 119 = .ok (.bipush 70, 2) := by decide +kernel
theorem dX12_can_121 : decode cX12_can 121 = .ok (.if_icmp .gt 7, 3) := by decide +kernel
theorem dX12_can_124 : decode cX12_can 124 = .ok (.iconst 1, 1) := by decide +kernel
theorem dX12_can_125 : decode cX12_can 125 = .ok (.goto 4, 3) := by decide +kernel
theorem dX12_can_128 : decode cX12_can 128 = .ok (.iconst 0, 1) := by decide +kernel
theorem dX12_can_129 : decode cX12_can 129 = .ok (.invokevirtual 119, 3) := by decide +kernel
theorem dX12_can_132 : decode cX12_can 132 = .ok (.ireturn, 1) := by decide +kernel
theorem dX12_reads_0 : decode cX12_reads 0 = .ok (.iload_n 1, 1) := by decide +kernel
theorem dX12_reads_1 : decode cX12_reads 1 = .ok (.iconst 0, 1) := by decide +kernel
theorem dX12_reads_2 : decode cX12_reads 2 = .ok (.iconst 4, 1) := by decide +kernel
theorem dX12_reads_3 : decode cX12_reads 3 = .ok (.invokestatic 97, 3) := by decide +kernel
theorem dX12_reads_6 : decode cX12_reads 6 = .ok (.ifCond .eq 26, 3) := by decide +kernel
theorem dX12_reads_9 : decode cX12_reads 9 = .ok (.aload_n 0, 1) := by decide +kernel
theorem dX12_reads_10 : decode cX12_reads 10 = .ok (.iload_n 2, 1) := by decide +kernel
theorem dX12_reads_11 : decode cX12_reads 11 = .ok (.invokevirtual 157, 3) := by decide +kernel
theorem dX12_reads_14 : decode cX12_reads 14 = .ok (.ifCond .eq 18, 3) := by decide +kernel
theorem dX12_reads_17 : decode cX12_reads 17 = .ok (.iload_n 3, 1) := by decide +kernel
theorem dX12_reads_18 : decode cX12_reads 18 = .ok (.bipush (-9), 2) := by decide +kernel
theorem dX12_reads_20 : decode cX12_reads 20 = .ok (.if_icmp .eq 14, 3) := by decide +kernel
theorem dX12_reads_23 : decode cX12_reads 23 = .ok (.iload_n 3, 1) := by decide +kernel
theorem dX12_reads_24 : decode cX12_reads 24 = .ok (.iconst 0, 1) := by decide +kernel
theorem dX12_reads_25 : decode cX12_reads 25 = .ok (.iconst 1, 1) := by decide +kernel
theorem dX12_reads_26 : decode cX12_reads 26 = .ok (.invokestatic 97, 3) := by decide +kernel
theorem dX12_reads_29 : decode cX12_reads 29 = .ok (.ifCond .ne 5, 3) := by decide +kernel
theorem dX12_reads_32 : decode cX12_reads 32 = .ok (.iconst (-1), 1) := by decide +kernel
theorem dX12_reads_33 : decode cX12_reads 33 = .ok (.ireturn, 1) := by decide +kernel
theorem dX12_reads_34 : decode cX12_reads 34 = .ok (.aload_n 0, 1) := by decide +kernel
theorem dX12_reads_35 : decode cX12_reads 35 = .ok (.getfield 59, 3) := by decide +kernel
theorem dX12_reads_38 : decode cX12_reads 38 = .ok (.iconst 5, 1) := by decide +kernel
theorem dX12_reads_39 : decode cX12_reads 39 = .ok (.iload_n 2, 1) := by decide +kernel
theorem dX12_reads_40 : decode cX12_reads 40 = .ok (.imul, 1) := by decide +kernel
theorem dX12_reads_41 : decode cX12_reads 41 = .ok (.iload_n 1, 1) := by decide +kernel
theorem dX12_reads_42 : decode cX12_reads 42 = .ok (.iadd, 1) := by decide +kernel
theorem dX12_reads_43 : decode cX12_reads 43 = .ok (.iaload, 1) := by decide +kernel
theorem dX12_reads_44 : decode cX12_reads 44 = .ok (.istore 4, 2) := by decide +kernel
theorem dX12_reads_46 : decode cX12_reads 46 = .ok (.aload_n 0, 1) := by decide +kernel
theorem dX12_reads_47 : decode cX12_reads 47 = .ok (.getfield 59, 3) := by decide +kernel
theorem dX12_reads_50 : decode cX12_reads 50 = .ok (.iconst 5, 1) := by decide +kernel
theorem dX12_reads_51 : decode cX12_reads 51 = .ok (.iload_n 2, 1) := by decide +kernel
theorem dX12_reads_52 : decode cX12_reads 52 = .ok (.imul, 1) := by decide +kernel
theorem dX12_reads_53 : decode cX12_reads 53 = .ok (.iload_n 1, 1) := by decide +kernel
theorem dX12_reads_54 : decode cX12_reads 54 = .ok (.iadd, 1) := by decide +kernel
theorem dX12_reads_55 : decode cX12_reads 55 = .ok (.iload_n 3, 1) := by decide +kernel
theorem dX12_reads_56 : decode cX12_reads 56 = .ok (.iastore, 1) := by decide +kernel
theorem dX12_reads_57 : decode cX12_reads 57 = .ok (.iload 4, 2) := by decide +kernel
theorem dX12_reads_59 : decode cX12_reads 59 = .ok (.ireturn, 1) := by decide +kernel
theorem dX12_reading_0 : decode cX12_reading 0 = .ok (.aload_n 0, 1) := by decide +kernel
theorem dX12_reading_1 : decode cX12_reading 1 = .ok (.iload_n 1, 1) := by decide +kernel
theorem dX12_reading_2 : decode cX12_reading 2 = .ok (.invokevirtual 157, 3) := by decide +kernel
theorem dX12_reading_5 : decode cX12_reading 5 = .ok (.ifCond .ne 5, 3) := by decide +kernel
theorem dX12_reading_8 : decode cX12_reading 8 = .ok (.iconst (-1), 1) := by decide +kernel
theorem dX12_reading_9 : decode cX12_reading 9 = .ok (.ireturn, 1) := by decide +kernel
theorem dX12_reading_10 : decode cX12_reading 10 = .ok (.iconst 0, 1) := by decide +kernel
theorem dX12_reading_11 : decode cX12_reading 11 = .ok (.istore_n 2, 1) := by decide +kernel
theorem dX12_reading_12 : decode cX12_reading 12 = .ok (.iconst 0, 1) := by decide +kernel
theorem dX12_reading_13 : decode cX12_reading 13 = .ok (.istore_n 3, 1) := by decide +kernel
theorem dX12_reading_14 : decode cX12_reading 14 = .ok (.iconst 0, 1) := by decide +kernel
theorem dX12_reading_15 : decode cX12_reading 15 = .ok (.istore 4, 2) := by decide +kernel
theorem dX12_reading_17 : decode cX12_reading 17 = .ok (.iload 4, 2) := by decide +kernel
theorem dX12_reading_19 : decode cX12_reading 19 = .ok (.iconst 5, 1) := by decide +kernel
theorem dX12_reading_20 : decode cX12_reading 20 = .ok (.if_icmp .ge 54, 3) := by decide +kernel
theorem dX12_reading_23 : decode cX12_reading 23 = .ok (.iload_n 2, 1) := by decide +kernel
theorem dX12_reading_24 : decode cX12_reading 24 = .ok (.aload_n 0, 1) := by decide +kernel
theorem dX12_reading_25 : decode cX12_reading 25 = .ok (.getfield 59, 3) := by decide +kernel
theorem dX12_reading_28 : decode cX12_reading 28 = .ok (.iconst 5, 1) := by decide +kernel
theorem dX12_reading_29 : decode cX12_reading 29 = .ok (.iload_n 1, 1) := by decide +kernel
theorem dX12_reading_30 : decode cX12_reading 30 = .ok (.imul, 1) := by decide +kernel
theorem dX12_reading_31 : decode cX12_reading 31 = .ok (.iload 4, 2) := by decide +kernel
theorem dX12_reading_33 : decode cX12_reading 33 = .ok (.iadd, 1) := by decide +kernel
theorem dX12_reading_34 : decode cX12_reading 34 = .ok (.iaload, 1) := by decide +kernel
theorem dX12_reading_35 : decode cX12_reading 35 = .ok (.ifCond .lt 7, 3) := by decide +kernel
theorem dX12_reading_38 : decode cX12_reading 38 = .ok (.iconst 1, 1) := by decide +kernel
theorem dX12_reading_39 : decode cX12_reading 39 = .ok (.goto 4, 3) := by decide +kernel
theorem dX12_reading_42 : decode cX12_reading 42 = .ok (.iconst 0, 1) := by decide +kernel
theorem dX12_reading_43 : decode cX12_reading 43 = .ok (.iadd, 1) := by decide +kernel
theorem dX12_reading_44 : decode cX12_reading 44 = .ok (.istore_n 2, 1) := by decide +kernel
theorem dX12_reading_45 : decode cX12_reading 45 = .ok (.iload_n 3, 1) := by decide +kernel
theorem dX12_reading_46 : decode cX12_reading 46 = .ok (.aload_n 0, 1) := by decide +kernel
theorem dX12_reading_47 : decode cX12_reading 47 = .ok (.getfield 59, 3) := by decide +kernel
theorem dX12_reading_50 : decode cX12_reading 50 = .ok (.iconst 5, 1) := by decide +kernel
theorem dX12_reading_51 : decode cX12_reading 51 = .ok (.iload_n 1, 1) := by decide +kernel
theorem dX12_reading_52 : decode cX12_reading 52 = .ok (.imul, 1) := by decide +kernel
theorem dX12_reading_53 : decode cX12_reading 53 = .ok (.iload 4, 2) := by decide +kernel
theorem dX12_reading_55 : decode cX12_reading 55 = .ok (.iadd, 1) := by decide +kernel
theorem dX12_reading_56 : decode cX12_reading 56 = .ok (.iaload, 1) := by decide +kernel
theorem dX12_reading_57 : decode cX12_reading 57 = .ok (.iconst 1, 1) := by decide +kernel
theorem dX12_reading_58 : decode cX12_reading 58 = .ok (.if_icmp .ne 7, 3) := by decide +kernel
theorem dX12_reading_61 : decode cX12_reading 61 = .ok (.iconst 1, 1) := by decide +kernel
theorem dX12_reading_62 : decode cX12_reading 62 = .ok (.goto 4, 3) := by decide +kernel
theorem dX12_reading_65 : decode cX12_reading 65 = .ok (.iconst 0, 1) := by decide +kernel
theorem dX12_reading_66 : decode cX12_reading 66 = .ok (.iadd, 1) := by decide +kernel
theorem dX12_reading_67 : decode cX12_reading 67 = .ok (.istore_n 3, 1) := by decide +kernel
theorem dX12_reading_68 : decode cX12_reading 68 = .ok (.iinc 4 1, 3) := by decide +kernel
theorem dX12_reading_71 : decode cX12_reading 71 = .ok (.goto (-54), 3) := by decide +kernel
theorem dX12_reading_74 : decode cX12_reading 74 = .ok (.aload_n 0, 1) := by decide +kernel
theorem dX12_reading_75 : decode cX12_reading 75 = .ok (.iload_n 2, 1) := by decide +kernel
theorem dX12_reading_76 : decode cX12_reading 76 = .ok (.iconst 2, 1) := by decide +kernel
theorem dX12_reading_77 : decode cX12_reading 77 = .ok (.iload_n 3, 1) := by decide +kernel
theorem dX12_reading_78 : decode cX12_reading 78 = .ok (.imul, 1) := by decide +kernel
theorem dX12_reading_79 : decode cX12_reading 79 = .ok (.iload_n 2, 1) := by decide +kernel
theorem dX12_reading_80 : decode cX12_reading 80 = .ok (.if_icmp .ne 12, 3) := by decide +kernel
theorem dX12_reading_83 : decode cX12_reading 83 = .ok (.aload_n 0, 1) := by decide +kernel
theorem dX12_reading_84 : decode cX12_reading 84 = .ok (.getfield 53, 3) := by decide +kernel
theorem dX12_reading_87 : decode cX12_reading 87 = .ok (.iload_n 1, 1) := by decide +kernel
theorem dX12_reading_88 : decode cX12_reading 88 = .ok (.iaload, 1) := by decide +kernel
theorem dX12_reading_89 : decode cX12_reading 89 = .ok (.goto 15, 3) := by decide +kernel
theorem dX12_reading_92 : decode cX12_reading 92 = .ok (.iconst 2, 1) := by decide +kernel
theorem dX12_reading_93 : decode cX12_reading 93 = .ok (.iload_n 3, 1) := by decide +kernel
theorem dX12_reading_94 : decode cX12_reading 94 = .ok (.imul, 1) := by decide +kernel
theorem dX12_reading_95 : decode cX12_reading 95 = .ok (.iload_n 2, 1) := by decide +kernel
theorem dX12_reading_96 : decode cX12_reading 96 = .ok (.if_icmp .le 7, 3) := by decide +kernel
theorem dX12_reading_99 : decode cX12_reading 99 = .ok (.iconst 1, 1) := by decide +kernel
theorem dX12_reading_100 : decode cX12_reading 100 = .ok (.goto 4, 3) := by decide +kernel
theorem dX12_reading_103 : decode cX12_reading 103 = .ok (.iconst 0, 1) := by decide +kernel
theorem dX12_reading_104 : decode cX12_reading 104 = .ok (.invokevirtual 119, 3) := by decide +kernel
theorem dX12_reading_107 : decode cX12_reading 107 = .ok (.ireturn, 1) := by decide +kernel
theorem dX12_slip_0 : decode cX12_slip 0 = .ok (.iload_n 1, 1) := by decide +kernel
theorem dX12_slip_1 : decode cX12_slip 1 = .ok (.iconst 1, 1) := by decide +kernel
theorem dX12_slip_2 : decode cX12_slip 2 = .ok (.bipush 12, 2) := by decide +kernel
theorem dX12_slip_4 : decode cX12_slip 4 = .ok (.invokestatic 97, 3) := by decide +kernel
theorem dX12_slip_7 : decode cX12_slip 7 = .ok (.ifCond .eq 22, 3) := by decide +kernel
theorem dX12_slip_10 : decode cX12_slip 10 = .ok (.iload_n 2, 1) := by decide +kernel
theorem dX12_slip_11 : decode cX12_slip 11 = .ok (.iconst 2, 1) := by decide +kernel
theorem dX12_slip_12 : decode cX12_slip 12 = .ok (.bipush 9, 2) := by decide +kernel
theorem dX12_slip_14 : decode cX12_slip 14 = .ok (.invokestatic 97, 3) := by decide +kernel
theorem dX12_slip_17 : decode cX12_slip 17 = .ok (.ifCond .eq 12, 3) := by decide +kernel
theorem dX12_slip_20 : decode cX12_slip 20 = .ok (.iload_n 3, 1) := by decide +kernel
theorem dX12_slip_21 : decode cX12_slip 21 = .ok (.iconst 0, 1) := by decide +kernel
theorem dX12_slip_22 : decode cX12_slip 22 = .ok (.iload_n 1, 1) := by decide +kernel
theorem dX12_slip_23 : decode cX12_slip 23 = .ok (.invokestatic 97, 3) := by decide +kernel
theorem dX12_slip_26 : decode cX12_slip 26 = .ok (.ifCond .ne 5, 3) := by decide +kernel
theorem dX12_slip_29 : decode cX12_slip 29 = .ok (.iconst (-1), 1) := by decide +kernel
theorem dX12_slip_30 : decode cX12_slip 30 = .ok (.ireturn, 1) := by decide +kernel
theorem dX12_slip_31 : decode cX12_slip 31 = .ok (.lconst 1, 1) := by decide +kernel
theorem dX12_slip_32 : decode cX12_slip 32 = .ok (.lstore 4, 2) := by decide +kernel
theorem dX12_slip_34 : decode cX12_slip 34 = .ok (.lconst 0, 1) := by decide +kernel
theorem dX12_slip_35 : decode cX12_slip 35 = .ok (.lstore 6, 2) := by decide +kernel
theorem dX12_slip_37 : decode cX12_slip 37 = .ok (.iconst 0, 1) := by decide +kernel
theorem dX12_slip_38 : decode cX12_slip 38 = .ok (.istore 8, 2) := by decide +kernel
theorem dX12_slip_40 : decode cX12_slip 40 = .ok (.iload 8, 2) := by decide +kernel
theorem dX12_slip_42 : decode cX12_slip 42 = .ok (.iload_n 1, 1) := by decide +kernel
theorem dX12_slip_43 : decode cX12_slip 43 = .ok (.if_icmp .ge 16, 3) := by decide +kernel
theorem dX12_slip_46 : decode cX12_slip 46 = .ok (.lload 4, 2) := by decide +kernel
theorem dX12_slip_48 : decode cX12_slip 48 = .ok (.iload_n 2, 1) := by decide +kernel
theorem dX12_slip_49 : decode cX12_slip 49 = .ok (.i2l, 1) := by decide +kernel
theorem dX12_slip_50 : decode cX12_slip 50 = .ok (.lmul, 1) := by decide +kernel
theorem dX12_slip_51 : decode cX12_slip 51 = .ok (.lstore 4, 2) := by decide +kernel
theorem dX12_slip_53 : decode cX12_slip 53 = .ok (.iinc 8 1, 3) := by decide +kernel
theorem dX12_slip_56 : decode cX12_slip 56 = .ok (.goto (-16), 3) := by decide +kernel
theorem dX12_slip_59 : decode cX12_slip 59 = .ok (.lconst 1, 1) := by decide +kernel
theorem dX12_slip_60 : decode cX12_slip 60 = .ok (.lstore 8, 2) := by decide +kernel
theorem dX12_slip_62 : decode cX12_slip 62 = .ok (.iconst 0, 1) := by decide +kernel
theorem dX12_slip_63 : decode cX12_slip 63 = .ok (.istore 10, 2) := by decide +kernel
theorem dX12_slip_65 : decode cX12_slip 65 = .ok (.iload 10, 2) := by decide +kernel
theorem dX12_slip_67 : decode cX12_slip 67 = .ok (.iload_n 1, 1) := by decide +kernel
theorem dX12_slip_68 : decode cX12_slip 68 = .ok (.if_icmp .gt 73, 3) := by decide +kernel
theorem dX12_slip_71 : decode cX12_slip 71 = .ok (.lload 8, 2) := by decide +kernel
theorem dX12_slip_73 : decode cX12_slip 73 = .ok (.lstore 11, 2) := by decide +kernel
theorem dX12_slip_75 : decode cX12_slip 75 = .ok (.iconst 0, 1) := by decide +kernel
theorem dX12_slip_76 : decode cX12_slip 76 = .ok (.istore 13, 2) := by decide +kernel
theorem dX12_slip_78 : decode cX12_slip 78 = .ok (.iload 13, 2) := by decide +kernel
theorem dX12_slip_80 : decode cX12_slip 80 = .ok (.iload_n 1, 1) := by decide +kernel
theorem dX12_slip_81 : decode cX12_slip 81 = .ok (.iload 10, 2) := by decide +kernel
theorem dX12_slip_83 : decode cX12_slip 83 = .ok (.isub, 1) := by decide +kernel
theorem dX12_slip_84 : decode cX12_slip 84 = .ok (.if_icmp .ge 18, 3) := by decide +kernel
theorem dX12_slip_87 : decode cX12_slip 87 = .ok (.lload 11, 2) := by decide +kernel
theorem dX12_slip_89 : decode cX12_slip 89 = .ok (.iload_n 2, 1) := by decide +kernel
theorem dX12_slip_90 : decode cX12_slip 90 = .ok (.iconst 1, 1) := by decide +kernel
theorem dX12_slip_91 : decode cX12_slip 91 = .ok (.isub, 1) := by decide +kernel
theorem dX12_slip_92 : decode cX12_slip 92 = .ok (.i2l, 1) := by decide +kernel
theorem dX12_slip_93 : decode cX12_slip 93 = .ok (.lmul, 1) := by decide +kernel
theorem dX12_slip_94 : decode cX12_slip 94 = .ok (.lstore 11, 2) := by decide +kernel
theorem dX12_slip_96 : decode cX12_slip 96 = .ok (.iinc 13 1, 3) := by decide +kernel
theorem dX12_slip_99 : decode cX12_slip 99 = .ok (.goto (-21), 3) := by decide +kernel
theorem dX12_slip_102 : decode cX12_slip 102 = .ok (.lload 6, 2) := by decide +kernel
theorem dX12_slip_104 : decode cX12_slip 104 = .ok (.iload 10, 2) := by decide +kernel
theorem dX12_slip_106 : decode cX12_slip 106 = .ok (.iload_n 3, 1) := by decide +kernel
theorem dX12_slip_107 : decode cX12_slip 107 = .ok (.if_icmp .lt 8, 3) := by decide +kernel
theorem dX12_slip_110 : decode cX12_slip 110 = .ok (.lload 11, 2) := by decide +kernel
theorem dX12_slip_112 : decode cX12_slip 112 = .ok (.goto 4, 3) := by decide +kernel
theorem dX12_slip_115 : decode cX12_slip 115 = .ok (.lconst 0, 1) := by decide +kernel
theorem dX12_slip_116 : decode cX12_slip 116 = .ok (.ladd, 1) := by decide +kernel
theorem dX12_slip_117 : decode cX12_slip 117 = .ok (.lstore 6, 2) := by decide +kernel
theorem dX12_slip_119 : decode cX12_slip 119 = .ok (.lload 8, 2) := by decide +kernel
theorem dX12_slip_121 : decode cX12_slip 121 = .ok (.iload_n 1, 1) := by decide +kernel
theorem dX12_slip_122 : decode cX12_slip 122 = .ok (.iload 10, 2) := by decide +kernel
theorem dX12_slip_124 : decode cX12_slip 124 = .ok (.isub, 1) := by decide +kernel
theorem dX12_slip_125 : decode cX12_slip 125 = .ok (.i2l, 1) := by decide +kernel
theorem dX12_slip_126 : decode cX12_slip 126 = .ok (.lmul, 1) := by decide +kernel
theorem dX12_slip_127 : decode cX12_slip 127 = .ok (.iload 10, 2) := by decide +kernel
theorem dX12_slip_129 : decode cX12_slip 129 = .ok (.iconst 1, 1) := by decide +kernel
theorem dX12_slip_130 : decode cX12_slip 130 = .ok (.iadd, 1) := by decide +kernel
theorem dX12_slip_131 : decode cX12_slip 131 = .ok (.i2l, 1) := by decide +kernel
theorem dX12_slip_132 : decode cX12_slip 132 = .ok (.ldiv, 1) := by decide +kernel
theorem dX12_slip_133 : decode cX12_slip 133 = .ok (.lstore 8, 2) := by decide +kernel
theorem dX12_slip_135 : decode cX12_slip 135 = .ok (.iinc 10 1, 3) := by decide +kernel
theorem dX12_slip_138 : decode cX12_slip 138 = .ok (.goto (-73), 3) := by decide +kernel
theorem dX12_slip_141 : decode cX12_slip 141 = .ok (.lload 6, 2) := by decide +kernel
theorem dX12_slip_143 : decode cX12_slip 143 = .ok (.lstore 10, 2) := by decide +kernel
theorem dX12_slip_145 : decode cX12_slip 145 = .ok (.lload 4, 2) := by decide +kernel
theorem dX12_slip_147 : decode cX12_slip 147 = .ok (.lstore 12, 2) := by decide +kernel
theorem dX12_slip_149 : decode cX12_slip 149 = .ok (.lload 12, 2) := by decide +kernel
theorem dX12_slip_151 : decode cX12_slip 151 = .ok (.lconst 0, 1) := by decide +kernel
theorem dX12_slip_152 : decode cX12_slip 152 = .ok (.lcmp, 1) := by decide +kernel
theorem dX12_slip_153 : decode cX12_slip 153 = .ok (.ifCond .eq 21, 3) := by decide +kernel
theorem dX12_slip_156 : decode cX12_slip 156 = .ok (.lload 10, 2) := by decide +kernel
theorem dX12_slip_158 : decode cX12_slip 158 = .ok (.lload 12, 2) := by decide +kernel
theorem dX12_slip_160 : decode cX12_slip 160 = .ok (.lrem, 1) := by decide +kernel
theorem dX12_slip_161 : decode cX12_slip 161 = .ok (.lstore 14, 2) := by decide +kernel
theorem dX12_slip_163 : decode cX12_slip 163 = .ok (.lload 12, 2) := by decide +kernel
theorem dX12_slip_165 : decode cX12_slip 165 = .ok (.lstore 10, 2) := by decide +kernel
theorem dX12_slip_167 : decode cX12_slip 167 = .ok (.lload 14, 2) := by decide +kernel
theorem dX12_slip_169 : decode cX12_slip 169 = .ok (.lstore 12, 2) := by decide +kernel
theorem dX12_slip_171 : decode cX12_slip 171 = .ok (.goto (-22), 3) := by decide +kernel
theorem dX12_slip_174 : decode cX12_slip 174 = .ok (.aload_n 0, 1) := by decide +kernel
theorem dX12_slip_175 : decode cX12_slip 175 = .ok (.lload 6, 2) := by decide +kernel
theorem dX12_slip_177 : decode cX12_slip 177 = .ok (.lload 10, 2) := by decide +kernel
theorem dX12_slip_179 : decode cX12_slip 179 = .ok (.ldiv, 1) := by decide +kernel
theorem dX12_slip_180 : decode cX12_slip 180 = .ok (.putfield 259, 3) := by decide +kernel
theorem dX12_slip_183 : decode cX12_slip 183 = .ok (.aload_n 0, 1) := by decide +kernel
theorem dX12_slip_184 : decode cX12_slip 184 = .ok (.lload 4, 2) := by decide +kernel
theorem dX12_slip_186 : decode cX12_slip 186 = .ok (.lload 10, 2) := by decide +kernel
theorem dX12_slip_188 : decode cX12_slip 188 = .ok (.ldiv, 1) := by decide +kernel
theorem dX12_slip_189 : decode cX12_slip 189 = .ok (.putfield 13, 3) := by decide +kernel
theorem dX12_slip_192 : decode cX12_slip 192 = .ok (.iconst 1, 1) := by decide +kernel
theorem dX12_slip_193 : decode cX12_slip 193 = .ok (.ireturn, 1) := by decide +kernel
theorem dX12_runs_0 : decode cX12_runs 0 = .ok (.aload_n 0, 1) := by decide +kernel
theorem dX12_runs_1 : decode cX12_runs 1 = .ok (.iload_n 1, 1) := by decide +kernel
theorem dX12_runs_2 : decode cX12_runs 2 = .ok (.invokevirtual 157, 3) := by decide +kernel
theorem dX12_runs_5 : decode cX12_runs 5 = .ok (.ifCond .ne 5, 3) := by decide +kernel
theorem dX12_runs_8 : decode cX12_runs 8 = .ok (.iconst (-1), 1) := by decide +kernel
theorem dX12_runs_9 : decode cX12_runs 9 = .ok (.ireturn, 1) := by decide +kernel
theorem dX12_runs_10 : decode cX12_runs 10 = .ok (.aload_n 0, 1) := by decide +kernel
theorem dX12_runs_11 : decode cX12_runs 11 = .ok (.getfield 53, 3) := by decide +kernel
theorem dX12_runs_14 : decode cX12_runs 14 = .ok (.iload_n 1, 1) := by decide +kernel
theorem dX12_runs_15 : decode cX12_runs 15 = .ok (.iaload, 1) := by decide +kernel
theorem dX12_runs_16 : decode cX12_runs 16 = .ok (.istore_n 2, 1) := by decide +kernel
theorem dX12_runs_17 : decode cX12_runs 17 = .ok (.aload_n 0, 1) := by decide +kernel
theorem dX12_runs_18 : decode cX12_runs 18 = .ok (.getfield 53, 3) := by decide +kernel
theorem dX12_runs_21 : decode cX12_runs 21 = .ok (.iload_n 1, 1) := by decide +kernel
theorem dX12_runs_22 : decode cX12_runs 22 = .ok (.iconst 0, 1) := by decide +kernel
theorem dX12_runs_23 : decode cX12_runs 23 = .ok (.iastore, 1) := by decide +kernel
theorem dX12_runs_24 : decode cX12_runs 24 = .ok (.aload_n 0, 1) := by decide +kernel
theorem dX12_runs_25 : decode cX12_runs 25 = .ok (.aload_n 0, 1) := by decide +kernel
theorem dX12_runs_26 : decode cX12_runs 26 = .ok (.getfield 44, 3) := by decide +kernel
theorem dX12_runs_29 : decode cX12_runs 29 = .ok (.iload_n 1, 1) := by decide +kernel
theorem dX12_runs_30 : decode cX12_runs 30 = .ok (.iaload, 1) := by decide +kernel
theorem dX12_runs_31 : decode cX12_runs 31 = .ok (.invokevirtual 231, 3) := by decide +kernel
theorem dX12_runs_34 : decode cX12_runs 34 = .ok (.aload_n 0, 1) := by decide +kernel
theorem dX12_runs_35 : decode cX12_runs 35 = .ok (.getfield 225, 3) := by decide +kernel
theorem dX12_runs_38 : decode cX12_runs 38 = .ok (.istore_n 3, 1) := by decide +kernel
theorem dX12_runs_39 : decode cX12_runs 39 = .ok (.aload_n 0, 1) := by decide +kernel
theorem dX12_runs_40 : decode cX12_runs 40 = .ok (.getfield 53, 3) := by decide +kernel
theorem dX12_runs_43 : decode cX12_runs 43 = .ok (.iload_n 1, 1) := by decide +kernel
theorem dX12_runs_44 : decode cX12_runs 44 = .ok (.iconst 1, 1) := by decide +kernel
theorem dX12_runs_45 : decode cX12_runs 45 = .ok (.iastore, 1) := by decide +kernel
theorem dX12_runs_46 : decode cX12_runs 46 = .ok (.aload_n 0, 1) := by decide +kernel
theorem dX12_runs_47 : decode cX12_runs 47 = .ok (.aload_n 0, 1) := by decide +kernel
theorem dX12_runs_48 : decode cX12_runs 48 = .ok (.getfield 44, 3) := by decide +kernel
theorem dX12_runs_51 : decode cX12_runs 51 = .ok (.iload_n 1, 1) := by decide +kernel
theorem dX12_runs_52 : decode cX12_runs 52 = .ok (.iaload, 1) := by decide +kernel
theorem dX12_runs_53 : decode cX12_runs 53 = .ok (.invokevirtual 231, 3) := by decide +kernel
theorem dX12_runs_56 : decode cX12_runs 56 = .ok (.aload_n 0, 1) := by decide +kernel
theorem dX12_runs_57 : decode cX12_runs 57 = .ok (.getfield 225, 3) := by decide +kernel
theorem dX12_runs_60 : decode cX12_runs 60 = .ok (.istore 4, 2) := by decide +kernel
theorem dX12_runs_62 : decode cX12_runs 62 = .ok (.aload_n 0, 1) := by decide +kernel
theorem dX12_runs_63 : decode cX12_runs 63 = .ok (.getfield 53, 3) := by decide +kernel
theorem dX12_runs_66 : decode cX12_runs 66 = .ok (.iload_n 1, 1) := by decide +kernel
theorem dX12_runs_67 : decode cX12_runs 67 = .ok (.iload_n 2, 1) := by decide +kernel
theorem dX12_runs_68 : decode cX12_runs 68 = .ok (.iastore, 1) := by decide +kernel
theorem dX12_runs_69 : decode cX12_runs 69 = .ok (.aload_n 0, 1) := by decide +kernel
theorem dX12_runs_70 : decode cX12_runs 70 = .ok (.iload_n 3, 1) := by decide +kernel
theorem dX12_runs_71 : decode cX12_runs 71 = .ok (.iload 4, 2) := by decide +kernel
theorem dX12_runs_73 : decode cX12_runs 73 = .ok (.if_icmp .ge 10, 3) := by decide +kernel
theorem dX12_runs_76 : decode cX12_runs 76 = .ok (.iload 4, 2) := by decide +kernel
theorem dX12_runs_78 : decode cX12_runs 78 = .ok (.iload_n 3, 1) := by decide +kernel
theorem dX12_runs_79 : decode cX12_runs 79 = .ok (.isub, 1) := by decide +kernel
theorem dX12_runs_80 : decode cX12_runs 80 = .ok (.goto 7, 3) := by decide +kernel
theorem dX12_runs_83 : decode cX12_runs 83 = .ok (.iload_n 3, 1) := by decide +kernel
theorem dX12_runs_84 : decode cX12_runs 84 = .ok (.iload 4, 2) := by decide +kernel
theorem dX12_runs_86 : decode cX12_runs 86 = .ok (.isub, 1) := by decide +kernel
theorem dX12_runs_87 : decode cX12_runs 87 = .ok (.iload_n 3, 1) := by decide +kernel
theorem dX12_runs_88 : decode cX12_runs 88 = .ok (.iload 4, 2) := by decide +kernel
theorem dX12_runs_90 : decode cX12_runs 90 = .ok (.if_icmp .ne 7, 3) := by decide +kernel
theorem dX12_runs_93 : decode cX12_runs 93 = .ok (.iconst 2, 1) := by decide +kernel
theorem dX12_runs_94 : decode cX12_runs 94 = .ok (.goto 14, 3) := by decide +kernel
theorem dX12_runs_97 : decode cX12_runs 97 = .ok (.iload_n 3, 1) := by decide +kernel
theorem dX12_runs_98 : decode cX12_runs 98 = .ok (.iload 4, 2) := by decide +kernel
theorem dX12_runs_100 : decode cX12_runs 100 = .ok (.if_icmp .ge 7, 3) := by decide +kernel
theorem dX12_runs_103 : decode cX12_runs 103 = .ok (.iconst 0, 1) := by decide +kernel
theorem dX12_runs_104 : decode cX12_runs 104 = .ok (.goto 4, 3) := by decide +kernel
theorem dX12_runs_107 : decode cX12_runs 107 = .ok (.iconst 1, 1) := by decide +kernel
theorem dX12_runs_108 : decode cX12_runs 108 = .ok (.invokevirtual 119, 3) := by decide +kernel
theorem dX12_runs_111 : decode cX12_runs 111 = .ok (.ireturn, 1) := by decide +kernel
theorem dX12_isMove_0 : decode cX12_isMove 0 = .ok (.iload_n 2, 1) := by decide +kernel
theorem dX12_isMove_1 : decode cX12_isMove 1 = .ok (.tableswitch 84 0 6 #[43, 45, 64, 69, 64, 75, 43], 43) := by decide +kernel
theorem dX12_isMove_44 : decode cX12_isMove 44 = .ok (.iconst 1, 1) := by decide +kernel
theorem dX12_isMove_45 : decode cX12_isMove 45 = .ok (.ireturn, 1) := by decide +kernel
theorem dX12_isMove_46 : decode cX12_isMove 46 = .ok (.aload_n 0, 1) := by decide +kernel
theorem dX12_isMove_47 : decode cX12_isMove 47 = .ok (.iload_n 3, 1) := by decide +kernel
theorem dX12_isMove_48 : decode cX12_isMove 48 = .ok (.invokevirtual 157, 3) := by decide +kernel
theorem dX12_isMove_51 : decode cX12_isMove 51 = .ok (.ifCond .eq 12, 3) := by decide +kernel
theorem dX12_isMove_54 : decode cX12_isMove 54 = .ok (.iload_n 3, 1) := by decide +kernel
theorem dX12_isMove_55 : decode cX12_isMove 55 = .ok (.iload_n 1, 1) := by decide +kernel
theorem dX12_isMove_56 : decode cX12_isMove 56 = .ok (.if_icmp .eq 7, 3) := by decide +kernel
theorem dX12_isMove_59 : decode cX12_isMove 59 = .ok (.iconst 1, 1) := by decide +kernel
theorem dX12_isMove_60 : decode cX12_isMove 60 = .ok (.goto 4, 3) := by decide +kernel
theorem dX12_isMove_63 : decode cX12_isMove 63 = .ok (.iconst 0, 1) := by decide +kernel
theorem dX12_isMove_64 : decode cX12_isMove 64 = .ok (.ireturn, 1) := by decide +kernel
theorem dX12_isMove_65 : decode cX12_isMove 65 = .ok (.iload_n 3, 1) := by decide +kernel
theorem dX12_isMove_66 : decode cX12_isMove 66 = .ok (.invokestatic 147, 3) := by decide +kernel
theorem dX12_isMove_69 : decode cX12_isMove 69 = .ok (.ireturn, 1) := by decide +kernel
theorem dX12_isMove_70 : decode cX12_isMove 70 = .ok (.aload_n 0, 1) := by decide +kernel
theorem dX12_isMove_71 : decode cX12_isMove 71 = .ok (.iload_n 3, 1) := by decide +kernel
theorem dX12_isMove_72 : decode cX12_isMove 72 = .ok (.invokevirtual 137, 3) := by decide +kernel
theorem dX12_isMove_75 : decode cX12_isMove 75 = .ok (.ireturn, 1) := by decide +kernel
theorem dX12_isMove_76 : decode cX12_isMove 76 = .ok (.iload_n 3, 1) := by decide +kernel
theorem dX12_isMove_77 : decode cX12_isMove 77 = .ok (.iconst 0, 1) := by decide +kernel
theorem dX12_isMove_78 : decode cX12_isMove 78 = .ok (.sipush 999, 3) := by decide +kernel
theorem dX12_isMove_81 : decode cX12_isMove 81 = .ok (.invokestatic 97, 3) := by decide +kernel
theorem dX12_isMove_84 : decode cX12_isMove 84 = .ok (.ireturn, 1) := by decide +kernel
theorem dX12_isMove_85 : decode cX12_isMove 85 = .ok (.iconst 0, 1) := by decide +kernel
theorem dX12_isMove_86 : decode cX12_isMove 86 = .ok (.ireturn, 1) := by decide +kernel
theorem dX12_move_0 : decode cX12_move 0 = .ok (.aload_n 0, 1) := by decide +kernel
theorem dX12_move_1 : decode cX12_move 1 = .ok (.iload_n 1, 1) := by decide +kernel
theorem dX12_move_2 : decode cX12_move 2 = .ok (.invokevirtual 157, 3) := by decide +kernel
theorem dX12_move_5 : decode cX12_move 5 = .ok (.ifCond .eq 13, 3) := by decide +kernel
theorem dX12_move_8 : decode cX12_move 8 = .ok (.aload_n 0, 1) := by decide +kernel
theorem dX12_move_9 : decode cX12_move 9 = .ok (.iload_n 1, 1) := by decide +kernel
theorem dX12_move_10 : decode cX12_move 10 = .ok (.iload_n 2, 1) := by decide +kernel
theorem dX12_move_11 : decode cX12_move 11 = .ok (.iload_n 3, 1) := by decide +kernel
theorem dX12_move_12 : decode cX12_move 12 = .ok (.invokevirtual 262, 3) := by decide +kernel
theorem dX12_move_15 : decode cX12_move 15 = .ok (.ifCond .ne 5, 3) := by decide +kernel
theorem dX12_move_18 : decode cX12_move 18 = .ok (.iconst (-1), 1) := by decide +kernel
theorem dX12_move_19 : decode cX12_move 19 = .ok (.ireturn, 1) := by decide +kernel
theorem dX12_move_20 : decode cX12_move 20 = .ok (.aload_n 0, 1) := by decide +kernel
theorem dX12_move_21 : decode cX12_move 21 = .ok (.getfield 265, 3) := by decide +kernel
theorem dX12_move_24 : decode cX12_move 24 = .ok (.bipush 40, 2) := by decide +kernel
theorem dX12_move_26 : decode cX12_move 26 = .ok (.if_icmp .ne 6, 3) := by decide +kernel
theorem dX12_move_29 : decode cX12_move 29 = .ok (.bipush (-2), 2) := by decide +kernel
theorem dX12_move_31 : decode cX12_move 31 = .ok (.ireturn, 1) := by decide +kernel
theorem dX12_move_32 : decode cX12_move 32 = .ok (.aload_n 0, 1) := by decide +kernel
theorem dX12_move_33 : decode cX12_move 33 = .ok (.getfield 75, 3) := by decide +kernel
theorem dX12_move_36 : decode cX12_move 36 = .ok (.aload_n 0, 1) := by decide +kernel
theorem dX12_move_37 : decode cX12_move 37 = .ok (.getfield 265, 3) := by decide +kernel
theorem dX12_move_40 : decode cX12_move 40 = .ok (.iload_n 2, 1) := by decide +kernel
theorem dX12_move_41 : decode cX12_move 41 = .ok (.iastore, 1) := by decide +kernel
theorem dX12_move_42 : decode cX12_move 42 = .ok (.aload_n 0, 1) := by decide +kernel
theorem dX12_move_43 : decode cX12_move 43 = .ok (.getfield 78, 3) := by decide +kernel
theorem dX12_move_46 : decode cX12_move 46 = .ok (.aload_n 0, 1) := by decide +kernel
theorem dX12_move_47 : decode cX12_move 47 = .ok (.getfield 265, 3) := by decide +kernel
theorem dX12_move_50 : decode cX12_move 50 = .ok (.iload_n 1, 1) := by decide +kernel
theorem dX12_move_51 : decode cX12_move 51 = .ok (.iastore, 1) := by decide +kernel
theorem dX12_move_52 : decode cX12_move 52 = .ok (.aload_n 0, 1) := by decide +kernel
theorem dX12_move_53 : decode cX12_move 53 = .ok (.getfield 81, 3) := by decide +kernel
theorem dX12_move_56 : decode cX12_move 56 = .ok (.aload_n 0, 1) := by decide +kernel
theorem dX12_move_57 : decode cX12_move 57 = .ok (.getfield 265, 3) := by decide +kernel
theorem dX12_move_60 : decode cX12_move 60 = .ok (.iload_n 2, 1) := by decide +kernel
theorem dX12_move_61 : decode cX12_move 61 = .ok (.ifCond .eq 9, 3) := by decide +kernel
theorem dX12_move_64 : decode cX12_move 64 = .ok (.iload_n 2, 1) := by decide +kernel
theorem dX12_move_65 : decode cX12_move 65 = .ok (.bipush 6, 2) := by decide +kernel
theorem dX12_move_67 : decode cX12_move 67 = .ok (.if_icmp .ne 7, 3) := by decide +kernel
theorem dX12_move_70 : decode cX12_move 70 = .ok (.iconst 0, 1) := by decide +kernel
theorem dX12_move_71 : decode cX12_move 71 = .ok (.goto 4, 3) := by decide +kernel
theorem dX12_move_74 : decode cX12_move 74 = .ok (.iload_n 3, 1) := by decide +kernel
theorem dX12_move_75 : decode cX12_move 75 = .ok (.iastore, 1) := by decide +kernel
theorem dX12_move_76 : decode cX12_move 76 = .ok (.aload_n 0, 1) := by decide +kernel
theorem dX12_move_77 : decode cX12_move 77 = .ok (.dup, 1) := by decide +kernel
theorem dX12_move_78 : decode cX12_move 78 = .ok (.getfield 265, 3) := by decide +kernel
theorem dX12_move_81 : decode cX12_move 81 = .ok (.iconst 1, 1) := by decide +kernel
theorem dX12_move_82 : decode cX12_move 82 = .ok (.iadd, 1) := by decide +kernel
theorem dX12_move_83 : decode cX12_move 83 = .ok (.putfield 265, 3) := by decide +kernel
theorem dX12_move_86 : decode cX12_move 86 = .ok (.aload_n 0, 1) := by decide +kernel
theorem dX12_move_87 : decode cX12_move 87 = .ok (.getfield 265, 3) := by decide +kernel
theorem dX12_move_90 : decode cX12_move 90 = .ok (.iconst 1, 1) := by decide +kernel
theorem dX12_move_91 : decode cX12_move 91 = .ok (.isub, 1) := by decide +kernel
theorem dX12_move_92 : decode cX12_move 92 = .ok (.ireturn, 1) := by decide +kernel
theorem dX12_moveTells_0 : decode cX12_moveTells 0 = .ok (.iload_n 2, 1) := by decide +kernel
theorem dX12_moveTells_1 : decode cX12_moveTells 1 = .ok (.ifCond .ne 12, 3) := by decide +kernel
theorem dX12_moveTells_4 : decode cX12_moveTells 4 = .ok (.aload_n 0, 1) := by decide +kernel
theorem dX12_moveTells_5 : decode cX12_moveTells 5 = .ok (.getfield 75, 3) := by decide +kernel
theorem dX12_moveTells_8 : decode cX12_moveTells 8 = .ok (.iload_n 1, 1) := by decide +kernel
theorem dX12_moveTells_9 : decode cX12_moveTells 9 = .ok (.iaload, 1) := by decide +kernel
theorem dX12_moveTells_10 : decode cX12_moveTells 10 = .ok (.goto 23, 3) := by decide +kernel
theorem dX12_moveTells_13 : decode cX12_moveTells 13 = .ok (.iload_n 2, 1) := by decide +kernel
theorem dX12_moveTells_14 : decode cX12_moveTells 14 = .ok (.iconst 1, 1) := by decide +kernel
theorem dX12_moveTells_15 : decode cX12_moveTells 15 = .ok (.if_icmp .ne 12, 3) := by decide +kernel
theorem dX12_moveTells_18 : decode cX12_moveTells 18 = .ok (.aload_n 0, 1) := by decide +kernel
theorem dX12_moveTells_19 : decode cX12_moveTells 19 = .ok (.getfield 78, 3) := by decide +kernel
theorem dX12_moveTells_22 : decode cX12_moveTells 22 = .ok (.iload_n 1, 1) := by decide +kernel
theorem dX12_moveTells_23 : decode cX12_moveTells 23 = .ok (.iaload, 1) := by decide +kernel
theorem dX12_moveTells_24 : decode cX12_moveTells 24 = .ok (.goto 9, 3) := by decide +kernel
theorem dX12_moveTells_27 : decode cX12_moveTells 27 = .ok (.aload_n 0, 1) := by decide +kernel
theorem dX12_moveTells_28 : decode cX12_moveTells 28 = .ok (.getfield 81, 3) := by decide +kernel
theorem dX12_moveTells_31 : decode cX12_moveTells 31 = .ok (.iload_n 1, 1) := by decide +kernel
theorem dX12_moveTells_32 : decode cX12_moveTells 32 = .ok (.iaload, 1) := by decide +kernel
theorem dX12_moveTells_33 : decode cX12_moveTells 33 = .ok (.ireturn, 1) := by decide +kernel
theorem dX12_moved_0 : decode cX12_moved 0 = .ok (.iload_n 1, 1) := by decide +kernel
theorem dX12_moved_1 : decode cX12_moved 1 = .ok (.iconst 0, 1) := by decide +kernel
theorem dX12_moved_2 : decode cX12_moved 2 = .ok (.aload_n 0, 1) := by decide +kernel
theorem dX12_moved_3 : decode cX12_moved 3 = .ok (.getfield 265, 3) := by decide +kernel
theorem dX12_moved_6 : decode cX12_moved 6 = .ok (.iconst 1, 1) := by decide +kernel
theorem dX12_moved_7 : decode cX12_moved 7 = .ok (.isub, 1) := by decide +kernel
theorem dX12_moved_8 : decode cX12_moved 8 = .ok (.invokestatic 97, 3) := by decide +kernel
theorem dX12_moved_11 : decode cX12_moved 11 = .ok (.ifCond .eq 26, 3) := by decide +kernel
theorem dX12_moved_14 : decode cX12_moved 14 = .ok (.iload_n 2, 1) := by decide +kernel
theorem dX12_moved_15 : decode cX12_moved 15 = .ok (.iconst 0, 1) := by decide +kernel
theorem dX12_moved_16 : decode cX12_moved 16 = .ok (.iconst 2, 1) := by decide +kernel
theorem dX12_moved_17 : decode cX12_moved 17 = .ok (.invokestatic 97, 3) := by decide +kernel
theorem dX12_moved_20 : decode cX12_moved 20 = .ok (.ifCond .eq 17, 3) := by decide +kernel
theorem dX12_moved_23 : decode cX12_moved 23 = .ok (.aload_n 0, 1) := by decide +kernel
theorem dX12_moved_24 : decode cX12_moved 24 = .ok (.aload_n 0, 1) := by decide +kernel
theorem dX12_moved_25 : decode cX12_moved 25 = .ok (.iload_n 1, 1) := by decide +kernel
theorem dX12_moved_26 : decode cX12_moved 26 = .ok (.iload_n 2, 1) := by decide +kernel
theorem dX12_moved_27 : decode cX12_moved 27 = .ok (.invokevirtual 268, 3) := by decide +kernel
theorem dX12_moved_30 : decode cX12_moved 30 = .ok (.iconst 1, 1) := by decide +kernel
theorem dX12_moved_31 : decode cX12_moved 31 = .ok (.invokevirtual 119, 3) := by decide +kernel
theorem dX12_moved_34 : decode cX12_moved 34 = .ok (.goto 4, 3) := by decide +kernel
theorem dX12_moved_37 : decode cX12_moved 37 = .ok (.iconst (-1), 1) := by decide +kernel
theorem dX12_moved_38 : decode cX12_moved 38 = .ok (.ireturn, 1) := by decide +kernel
theorem dX12_mark_0 : decode cX12_mark 0 = .ok (.iload_n 1, 1) := by decide +kernel
theorem dX12_mark_1 : decode cX12_mark 1 = .ok (.iconst 0, 1) := by decide +kernel
theorem dX12_mark_2 : decode cX12_mark 2 = .ok (.aload_n 0, 1) := by decide +kernel
theorem dX12_mark_3 : decode cX12_mark 3 = .ok (.getfield 265, 3) := by decide +kernel
theorem dX12_mark_6 : decode cX12_mark 6 = .ok (.iconst 1, 1) := by decide +kernel
theorem dX12_mark_7 : decode cX12_mark 7 = .ok (.isub, 1) := by decide +kernel
theorem dX12_mark_8 : decode cX12_mark 8 = .ok (.invokestatic 97, 3) := by decide +kernel
theorem dX12_mark_11 : decode cX12_mark 11 = .ok (.ifCond .eq 13, 3) := by decide +kernel
theorem dX12_mark_14 : decode cX12_mark 14 = .ok (.iload_n 2, 1) := by decide +kernel
theorem dX12_mark_15 : decode cX12_mark 15 = .ok (.iconst 1, 1) := by decide +kernel
theorem dX12_mark_16 : decode cX12_mark 16 = .ok (.bipush 6, 2) := by decide +kernel
theorem dX12_mark_18 : decode cX12_mark 18 = .ok (.invokestatic 97, 3) := by decide +kernel
theorem dX12_mark_21 : decode cX12_mark 21 = .ok (.ifCond .ne 5, 3) := by decide +kernel
theorem dX12_mark_24 : decode cX12_mark 24 = .ok (.iconst (-1), 1) := by decide +kernel
theorem dX12_mark_25 : decode cX12_mark 25 = .ok (.ireturn, 1) := by decide +kernel
theorem dX12_mark_26 : decode cX12_mark 26 = .ok (.aload_n 0, 1) := by decide +kernel
theorem dX12_mark_27 : decode cX12_mark 27 = .ok (.getfield 75, 3) := by decide +kernel
theorem dX12_mark_30 : decode cX12_mark 30 = .ok (.iload_n 1, 1) := by decide +kernel
theorem dX12_mark_31 : decode cX12_mark 31 = .ok (.iaload, 1) := by decide +kernel
theorem dX12_mark_32 : decode cX12_mark 32 = .ok (.iload_n 2, 1) := by decide +kernel
theorem dX12_mark_33 : decode cX12_mark 33 = .ok (.if_icmp .eq 9, 3) := by decide +kernel
theorem dX12_mark_36 : decode cX12_mark 36 = .ok (.aload_n 0, 1) := by decide +kernel
theorem dX12_mark_37 : decode cX12_mark 37 = .ok (.iconst 3, 1) := by decide +kernel
theorem dX12_mark_38 : decode cX12_mark 38 = .ok (.invokevirtual 105, 3) := by decide +kernel
theorem dX12_mark_41 : decode cX12_mark 41 = .ok (.ireturn, 1) := by decide +kernel
theorem dX12_mark_42 : decode cX12_mark 42 = .ok (.aload_n 0, 1) := by decide +kernel
theorem dX12_mark_43 : decode cX12_mark 43 = .ok (.getfield 78, 3) := by decide +kernel
theorem dX12_mark_46 : decode cX12_mark 46 = .ok (.iload_n 1, 1) := by decide +kernel
theorem dX12_mark_47 : decode cX12_mark 47 = .ok (.iaload, 1) := by decide +kernel
theorem dX12_mark_48 : decode cX12_mark 48 = .ok (.istore_n 3, 1) := by decide +kernel
theorem dX12_mark_49 : decode cX12_mark 49 = .ok (.aload_n 0, 1) := by decide +kernel
theorem dX12_mark_50 : decode cX12_mark 50 = .ok (.getfield 81, 3) := by decide +kernel
theorem dX12_mark_53 : decode cX12_mark 53 = .ok (.iload_n 1, 1) := by decide +kernel
theorem dX12_mark_54 : decode cX12_mark 54 = .ok (.iaload, 1) := by decide +kernel
theorem dX12_mark_55 : decode cX12_mark 55 = .ok (.istore 4, 2) := by decide +kernel
theorem dX12_mark_57 : decode cX12_mark 57 = .ok (.aload_n 0, 1) := by decide +kernel
theorem dX12_mark_58 : decode cX12_mark 58 = .ok (.getfield 32, 3) := by decide +kernel
theorem dX12_mark_61 : decode cX12_mark 61 = .ok (.aload_n 0, 1) := by decide +kernel
theorem dX12_mark_62 : decode cX12_mark 62 = .ok (.getfield 47, 3) := by decide +kernel
theorem dX12_mark_65 : decode cX12_mark 65 = .ok (.iload_n 3, 1) := by decide +kernel
theorem dX12_mark_66 : decode cX12_mark 66 = .ok (.iaload, 1) := by decide +kernel
theorem dX12_mark_67 : decode cX12_mark 67 = .ok (.iaload, 1) := by decide +kernel
theorem dX12_mark_68 : decode cX12_mark 68 = .ok (.istore 5, 2) := by decide +kernel
theorem dX12_mark_70 : decode cX12_mark 70 = .ok (.iconst 0, 1) := by decide +kernel
theorem dX12_mark_71 : decode cX12_mark 71 = .ok (.istore 6, 2) := by decide +kernel
theorem dX12_mark_73 : decode cX12_mark 73 = .ok (.iload_n 2, 1) := by decide +kernel
theorem dX12_mark_74 : decode cX12_mark 74 = .ok (.tableswitch 152 1 5 #[34, 53, 69, 85, 93], 34) := by decide +kernel
theorem dX12_mark_108 : decode cX12_mark 108 = .ok (.iload 5, 2) := by decide +kernel
theorem dX12_mark_110 : decode cX12_mark 110 = .ok (.aload_n 0, 1) := by decide +kernel
theorem dX12_mark_111 : decode cX12_mark 111 = .ok (.getfield 32, 3) := by decide +kernel
theorem dX12_mark_114 : decode cX12_mark 114 = .ok (.aload_n 0, 1) := by decide +kernel
theorem dX12_mark_115 : decode cX12_mark 115 = .ok (.getfield 47, 3) := by decide +kernel
theorem dX12_mark_118 : decode cX12_mark 118 = .ok (.iload 4, 2) := by decide +kernel
theorem dX12_mark_120 : decode cX12_mark 120 = .ok (.iaload, 1) := by decide +kernel
theorem dX12_mark_121 : decode cX12_mark 121 = .ok (.iaload, 1) := by decide +kernel
theorem dX12_mark_122 : decode cX12_mark 122 = .ok (.ixor, 1) := by decide +kernel
theorem dX12_mark_123 : decode cX12_mark 123 = .ok (.invokestatic 256, 3) := by decide +kernel
theorem dX12_mark_126 : decode cX12_mark 126 = .ok (.ireturn, 1) := by decide +kernel
theorem dX12_mark_127 : decode cX12_mark 127 = .ok (.iload 5, 2) := by decide +kernel
theorem dX12_mark_129 : decode cX12_mark 129 = .ok (.iload 4, 2) := by decide +kernel
theorem dX12_mark_131 : decode cX12_mark 131 = .ok (.invokestatic 187, 3) := by decide +kernel
theorem dX12_mark_134 : decode cX12_mark 134 = .ok (.ifCond .eq 7, 3) := by decide +kernel
theorem dX12_mark_137 : decode cX12_mark 137 = .ok (.iconst 1, 1) := by decide +kernel
theorem dX12_mark_138 : decode cX12_mark 138 = .ok (.goto 4, 3) := by decide +kernel
theorem dX12_mark_141 : decode cX12_mark 141 = .ok (.iconst 0, 1) := by decide +kernel
theorem dX12_mark_142 : decode cX12_mark 142 = .ok (.ireturn, 1) := by decide +kernel
theorem dX12_mark_143 : decode cX12_mark 143 = .ok (.aload_n 0, 1) := by decide +kernel
theorem dX12_mark_144 : decode cX12_mark 144 = .ok (.iload 4, 2) := by decide +kernel
theorem dX12_mark_146 : decode cX12_mark 146 = .ok (.invokevirtual 231, 3) := by decide +kernel
theorem dX12_mark_149 : decode cX12_mark 149 = .ok (.aload_n 0, 1) := by decide +kernel
theorem dX12_mark_150 : decode cX12_mark 150 = .ok (.getfield 212, 3) := by decide +kernel
theorem dX12_mark_153 : decode cX12_mark 153 = .ok (.iload 5, 2) := by decide +kernel
theorem dX12_mark_155 : decode cX12_mark 155 = .ok (.invokestatic 193, 3) := by decide +kernel
theorem dX12_mark_158 : decode cX12_mark 158 = .ok (.ireturn, 1) := by decide +kernel
theorem dX12_mark_159 : decode cX12_mark 159 = .ok (.iload 5, 2) := by decide +kernel
theorem dX12_mark_161 : decode cX12_mark 161 = .ok (.iconst 1, 1) := by decide +kernel
theorem dX12_mark_162 : decode cX12_mark 162 = .ok (.iload 4, 2) := by decide +kernel
theorem dX12_mark_164 : decode cX12_mark 164 = .ok (.ishl, 1) := by decide +kernel
theorem dX12_mark_165 : decode cX12_mark 165 = .ok (.ixor, 1) := by decide +kernel
theorem dX12_mark_166 : decode cX12_mark 166 = .ok (.ireturn, 1) := by decide +kernel
theorem dX12_mark_167 : decode cX12_mark 167 = .ok (.iconst 0, 1) := by decide +kernel
theorem dX12_mark_168 : decode cX12_mark 168 = .ok (.istore 7, 2) := by decide +kernel
theorem dX12_mark_170 : decode cX12_mark 170 = .ok (.iload 7, 2) := by decide +kernel
theorem dX12_mark_172 : decode cX12_mark 172 = .ok (.aload_n 0, 1) := by decide +kernel
theorem dX12_mark_173 : decode cX12_mark 173 = .ok (.getfield 131, 3) := by decide +kernel
theorem dX12_mark_176 : decode cX12_mark 176 = .ok (.if_icmp .ge 47, 3) := by decide +kernel
theorem dX12_mark_179 : decode cX12_mark 179 = .ok (.iload 6, 2) := by decide +kernel
theorem dX12_mark_181 : decode cX12_mark 181 = .ok (.aload_n 0, 1) := by decide +kernel
theorem dX12_mark_182 : decode cX12_mark 182 = .ok (.getfield 44, 3) := by decide +kernel
theorem dX12_mark_185 : decode cX12_mark 185 = .ok (.iload 7, 2) := by decide +kernel
theorem dX12_mark_187 : decode cX12_mark 187 = .ok (.iaload, 1) := by decide +kernel
theorem dX12_mark_188 : decode cX12_mark 188 = .ok (.aload_n 0, 1) := by decide +kernel
theorem dX12_mark_189 : decode cX12_mark 189 = .ok (.getfield 44, 3) := by decide +kernel
theorem dX12_mark_192 : decode cX12_mark 192 = .ok (.iload_n 3, 1) := by decide +kernel
theorem dX12_mark_193 : decode cX12_mark 193 = .ok (.iaload, 1) := by decide +kernel
theorem dX12_mark_194 : decode cX12_mark 194 = .ok (.if_icmp .ne 19, 3) := by decide +kernel
theorem dX12_mark_197 : decode cX12_mark 197 = .ok (.aload_n 0, 1) := by decide +kernel
theorem dX12_mark_198 : decode cX12_mark 198 = .ok (.getfield 50, 3) := by decide +kernel
theorem dX12_mark_201 : decode cX12_mark 201 = .ok (.iload 7, 2) := by decide +kernel
theorem dX12_mark_203 : decode cX12_mark 203 = .ok (.iaload, 1) := by decide +kernel
theorem dX12_mark_204 : decode cX12_mark 204 = .ok (.iload 4, 2) := by decide +kernel
theorem dX12_mark_206 : decode cX12_mark 206 = .ok (.if_icmp .lt 7, 3) := by decide +kernel
theorem dX12_mark_209 : decode cX12_mark 209 = .ok (.iconst 1, 1) := by decide +kernel
theorem dX12_mark_210 : decode cX12_mark 210 = .ok (.goto 4, 3) := by decide +kernel
theorem dX12_mark_213 : decode cX12_mark 213 = .ok (.iconst 0, 1) := by decide +kernel
theorem dX12_mark_214 : decode cX12_mark 214 = .ok (.iadd, 1) := by decide +kernel
theorem dX12_mark_215 : decode cX12_mark 215 = .ok (.istore 6, 2) := by decide +kernel
theorem dX12_mark_217 : decode cX12_mark 217 = .ok (.iinc 7 1, 3) := by decide +kernel
theorem dX12_mark_220 : decode cX12_mark 220 = .ok (.goto (-50), 3) := by decide +kernel
theorem dX12_mark_223 : decode cX12_mark 223 = .ok (.iload 6, 2) := by decide +kernel
theorem dX12_mark_225 : decode cX12_mark 225 = .ok (.ireturn, 1) := by decide +kernel
theorem dX12_mark_226 : decode cX12_mark 226 = .ok (.aload_n 0, 1) := by decide +kernel
theorem dX12_mark_227 : decode cX12_mark 227 = .ok (.aload_n 0, 1) := by decide +kernel
theorem dX12_mark_228 : decode cX12_mark 228 = .ok (.getfield 44, 3) := by decide +kernel
theorem dX12_mark_231 : decode cX12_mark 231 = .ok (.iload_n 3, 1) := by decide +kernel
theorem dX12_mark_232 : decode cX12_mark 232 = .ok (.iaload, 1) := by decide +kernel
theorem dX12_mark_233 : decode cX12_mark 233 = .ok (.invokevirtual 231, 3) := by decide +kernel
theorem dX12_mark_236 : decode cX12_mark 236 = .ok (.aload_n 0, 1) := by decide +kernel
theorem dX12_mark_237 : decode cX12_mark 237 = .ok (.iload_n 3, 1) := by decide +kernel
theorem dX12_mark_238 : decode cX12_mark 238 = .ok (.aload_n 0, 1) := by decide +kernel
theorem dX12_mark_239 : decode cX12_mark 239 = .ok (.getfield 212, 3) := by decide +kernel
theorem dX12_mark_242 : decode cX12_mark 242 = .ok (.invokevirtual 202, 3) := by decide +kernel
theorem dX12_mark_245 : decode cX12_mark 245 = .ok (.ireturn, 1) := by decide +kernel
theorem dX12_doesAnswer_0 : decode cX12_doesAnswer 0 = .ok (.aload_n 0, 1) := by decide +kernel
theorem dX12_doesAnswer_1 : decode cX12_doesAnswer 1 = .ok (.getfield 78, 3) := by decide +kernel
theorem dX12_doesAnswer_4 : decode cX12_doesAnswer 4 = .ok (.iload_n 1, 1) := by decide +kernel
theorem dX12_doesAnswer_5 : decode cX12_doesAnswer 5 = .ok (.iaload, 1) := by decide +kernel
theorem dX12_doesAnswer_6 : decode cX12_doesAnswer 6 = .ok (.istore_n 3, 1) := by decide +kernel
theorem dX12_doesAnswer_7 : decode cX12_doesAnswer 7 = .ok (.aload_n 0, 1) := by decide +kernel
theorem dX12_doesAnswer_8 : decode cX12_doesAnswer 8 = .ok (.getfield 81, 3) := by decide +kernel
theorem dX12_doesAnswer_11 : decode cX12_doesAnswer 11 = .ok (.iload_n 1, 1) := by decide +kernel
theorem dX12_doesAnswer_12 : decode cX12_doesAnswer 12 = .ok (.iaload, 1) := by decide +kernel
theorem dX12_doesAnswer_13 : decode cX12_doesAnswer 13 = .ok (.istore 4, 2) := by decide +kernel
theorem dX12_doesAnswer_15 : decode cX12_doesAnswer 15 = .ok (.aload_n 0, 1) := by decide +kernel
theorem dX12_doesAnswer_16 : decode cX12_doesAnswer 16 = .ok (.getfield 75, 3) := by decide +kernel
theorem dX12_doesAnswer_19 : decode cX12_doesAnswer 19 = .ok (.iload_n 1, 1) := by decide +kernel
theorem dX12_doesAnswer_20 : decode cX12_doesAnswer 20 = .ok (.iaload, 1) := by decide +kernel
theorem dX12_doesAnswer_21 : decode cX12_doesAnswer 21 = .ok (.bipush 6, 2) := by decide +kernel
theorem dX12_doesAnswer_23 : decode cX12_doesAnswer 23 = .ok (.if_icmp .ne 7, 3) := by decide +kernel
theorem dX12_doesAnswer_26 : decode cX12_doesAnswer 26 = .ok (.iconst 1, 1) := by decide +kernel
theorem dX12_doesAnswer_27 : decode cX12_doesAnswer 27 = .ok (.goto 4, 3) := by decide +kernel
theorem dX12_doesAnswer_30 : decode cX12_doesAnswer 30 = .ok (.iconst 0, 1) := by decide +kernel
theorem dX12_doesAnswer_31 : decode cX12_doesAnswer 31 = .ok (.istore 5, 2) := by decide +kernel
theorem dX12_doesAnswer_33 : decode cX12_doesAnswer 33 = .ok (.aload_n 0, 1) := by decide +kernel
theorem dX12_doesAnswer_34 : decode cX12_doesAnswer 34 = .ok (.getfield 75, 3) := by decide +kernel
theorem dX12_doesAnswer_37 : decode cX12_doesAnswer 37 = .ok (.iload_n 1, 1) := by decide +kernel
theorem dX12_doesAnswer_38 : decode cX12_doesAnswer 38 = .ok (.iaload, 1) := by decide +kernel
theorem dX12_doesAnswer_39 : decode cX12_doesAnswer 39 = .ok (.iconst 2, 1) := by decide +kernel
theorem dX12_doesAnswer_40 : decode cX12_doesAnswer 40 = .ok (.if_icmp .ne 33, 3) := by decide +kernel
theorem dX12_doesAnswer_43 : decode cX12_doesAnswer 43 = .ok (.aload_n 0, 1) := by decide +kernel
theorem dX12_doesAnswer_44 : decode cX12_doesAnswer 44 = .ok (.getfield 32, 3) := by decide +kernel
theorem dX12_doesAnswer_47 : decode cX12_doesAnswer 47 = .ok (.aload_n 0, 1) := by decide +kernel
theorem dX12_doesAnswer_48 : decode cX12_doesAnswer 48 = .ok (.getfield 47, 3) := by decide +kernel
theorem dX12_doesAnswer_51 : decode cX12_doesAnswer 51 = .ok (.iload_n 3, 1) := by decide +kernel
theorem dX12_doesAnswer_52 : decode cX12_doesAnswer 52 = .ok (.iaload, 1) := by decide +kernel
theorem dX12_doesAnswer_53 : decode cX12_doesAnswer 53 = .ok (.iaload, 1) := by decide +kernel
theorem dX12_doesAnswer_54 : decode cX12_doesAnswer 54 = .ok (.aload_n 0, 1) := by decide +kernel
theorem dX12_doesAnswer_55 : decode cX12_doesAnswer 55 = .ok (.getfield 32, 3) := by decide +kernel
theorem dX12_doesAnswer_58 : decode cX12_doesAnswer 58 = .ok (.aload_n 0, 1) := by decide +kernel
theorem dX12_doesAnswer_59 : decode cX12_doesAnswer 59 = .ok (.getfield 47, 3) := by decide +kernel
theorem dX12_doesAnswer_62 : decode cX12_doesAnswer 62 = .ok (.iload_n 2, 1) := by decide +kernel
theorem dX12_doesAnswer_63 : decode cX12_doesAnswer 63 = .ok (.iaload, 1) := by decide +kernel
theorem dX12_doesAnswer_64 : decode cX12_doesAnswer 64 = .ok (.iaload, 1) := by decide +kernel
theorem dX12_doesAnswer_65 : decode cX12_doesAnswer 65 = .ok (.ixor, 1) := by decide +kernel
theorem dX12_doesAnswer_66 : decode cX12_doesAnswer 66 = .ok (.iload 4, 2) := by decide +kernel
theorem dX12_doesAnswer_68 : decode cX12_doesAnswer 68 = .ok (.invokestatic 187, 3) := by decide +kernel
theorem dX12_doesAnswer_71 : decode cX12_doesAnswer 71 = .ok (.istore 5, 2) := by decide +kernel
theorem dX12_doesAnswer_73 : decode cX12_doesAnswer 73 = .ok (.aload_n 0, 1) := by decide +kernel
theorem dX12_doesAnswer_74 : decode cX12_doesAnswer 74 = .ok (.getfield 75, 3) := by decide +kernel
theorem dX12_doesAnswer_77 : decode cX12_doesAnswer 77 = .ok (.iload_n 1, 1) := by decide +kernel
theorem dX12_doesAnswer_78 : decode cX12_doesAnswer 78 = .ok (.iaload, 1) := by decide +kernel
theorem dX12_doesAnswer_79 : decode cX12_doesAnswer 79 = .ok (.iconst 3, 1) := by decide +kernel
theorem dX12_doesAnswer_80 : decode cX12_doesAnswer 80 = .ok (.if_icmp .ne 43, 3) := by decide +kernel
theorem dX12_doesAnswer_83 : decode cX12_doesAnswer 83 = .ok (.aload_n 0, 1) := by decide +kernel
theorem dX12_doesAnswer_84 : decode cX12_doesAnswer 84 = .ok (.iload 4, 2) := by decide +kernel
theorem dX12_doesAnswer_86 : decode cX12_doesAnswer 86 = .ok (.invokevirtual 231, 3) := by decide +kernel
theorem dX12_doesAnswer_89 : decode cX12_doesAnswer 89 = .ok (.aload_n 0, 1) := by decide +kernel
theorem dX12_doesAnswer_90 : decode cX12_doesAnswer 90 = .ok (.getfield 212, 3) := by decide +kernel
theorem dX12_doesAnswer_93 : decode cX12_doesAnswer 93 = .ok (.aload_n 0, 1) := by decide +kernel
theorem dX12_doesAnswer_94 : decode cX12_doesAnswer 94 = .ok (.getfield 32, 3) := by decide +kernel
theorem dX12_doesAnswer_97 : decode cX12_doesAnswer 97 = .ok (.aload_n 0, 1) := by decide +kernel
theorem dX12_doesAnswer_98 : decode cX12_doesAnswer 98 = .ok (.getfield 47, 3) := by decide +kernel
theorem dX12_doesAnswer_101 : decode cX12_doesAnswer 101 = .ok (.iload_n 2, 1) := by decide +kernel
theorem dX12_doesAnswer_102 : decode cX12_doesAnswer 102 = .ok (.iaload, 1) := by decide +kernel
theorem dX12_doesAnswer_103 : decode cX12_doesAnswer 103 = .ok (.iaload, 1) := by decide +kernel
theorem dX12_doesAnswer_104 : decode cX12_doesAnswer 104 = .ok (.invokestatic 193, 3) := by decide +kernel
theorem dX12_doesAnswer_107 : decode cX12_doesAnswer 107 = .ok (.aload_n 0, 1) := by decide +kernel
theorem dX12_doesAnswer_108 : decode cX12_doesAnswer 108 = .ok (.getfield 53, 3) := by decide +kernel
theorem dX12_doesAnswer_111 : decode cX12_doesAnswer 111 = .ok (.iload_n 2, 1) := by decide +kernel
theorem dX12_doesAnswer_112 : decode cX12_doesAnswer 112 = .ok (.iaload, 1) := by decide +kernel
theorem dX12_doesAnswer_113 : decode cX12_doesAnswer 113 = .ok (.if_icmp .ne 7, 3) := by decide +kernel
theorem dX12_doesAnswer_116 : decode cX12_doesAnswer 116 = .ok (.iconst 1, 1) := by decide +kernel
theorem dX12_doesAnswer_117 : decode cX12_doesAnswer 117 = .ok (.goto 4, 3) := by decide +kernel
theorem dX12_doesAnswer_120 : decode cX12_doesAnswer 120 = .ok (.iconst 0, 1) := by decide +kernel
theorem dX12_doesAnswer_121 : decode cX12_doesAnswer 121 = .ok (.istore 5, 2) := by decide +kernel
theorem dX12_doesAnswer_123 : decode cX12_doesAnswer 123 = .ok (.aload_n 0, 1) := by decide +kernel
theorem dX12_doesAnswer_124 : decode cX12_doesAnswer 124 = .ok (.getfield 75, 3) := by decide +kernel
theorem dX12_doesAnswer_127 : decode cX12_doesAnswer 127 = .ok (.iload_n 1, 1) := by decide +kernel
theorem dX12_doesAnswer_128 : decode cX12_doesAnswer 128 = .ok (.iaload, 1) := by decide +kernel
theorem dX12_doesAnswer_129 : decode cX12_doesAnswer 129 = .ok (.iconst 4, 1) := by decide +kernel
theorem dX12_doesAnswer_130 : decode cX12_doesAnswer 130 = .ok (.if_icmp .ne 78, 3) := by decide +kernel
theorem dX12_doesAnswer_133 : decode cX12_doesAnswer 133 = .ok (.aload_n 0, 1) := by decide +kernel
theorem dX12_doesAnswer_134 : decode cX12_doesAnswer 134 = .ok (.aload_n 0, 1) := by decide +kernel
theorem dX12_doesAnswer_135 : decode cX12_doesAnswer 135 = .ok (.getfield 44, 3) := by decide +kernel
theorem dX12_doesAnswer_138 : decode cX12_doesAnswer 138 = .ok (.iload_n 2, 1) := by decide +kernel
theorem dX12_doesAnswer_139 : decode cX12_doesAnswer 139 = .ok (.iaload, 1) := by decide +kernel
theorem dX12_doesAnswer_140 : decode cX12_doesAnswer 140 = .ok (.invokevirtual 234, 3) := by decide +kernel
theorem dX12_doesAnswer_143 : decode cX12_doesAnswer 143 = .ok (.iconst 0, 1) := by decide +kernel
theorem dX12_doesAnswer_144 : decode cX12_doesAnswer 144 = .ok (.istore 6, 2) := by decide +kernel
theorem dX12_doesAnswer_146 : decode cX12_doesAnswer 146 = .ok (.iload 6, 2) := by decide +kernel
theorem dX12_doesAnswer_148 : decode cX12_doesAnswer 148 = .ok (.sipush 244, 3) := by decide +kernel
theorem dX12_doesAnswer_151 : decode cX12_doesAnswer 151 = .ok (.if_icmp .ge 57, 3) := by decide +kernel
theorem dX12_doesAnswer_154 : decode cX12_doesAnswer 154 = .ok (.iload 5, 2) := by decide +kernel
theorem dX12_doesAnswer_156 : decode cX12_doesAnswer 156 = .ok (.ifCond .ne 39, 3) := by decide +kernel
theorem dX12_doesAnswer_159 : decode cX12_doesAnswer 159 = .ok (.aload_n 0, 1) := by decide +kernel
theorem dX12_doesAnswer_160 : decode cX12_doesAnswer 160 = .ok (.getfield 68, 3) := by decide +kernel
theorem dX12_doesAnswer_163 : decode cX12_doesAnswer 163 = .ok (.iload 6, 2) := by decide +kernel
theorem dX12_doesAnswer_165 : decode cX12_doesAnswer 165 = .ok (.baload, 1) := by decide +kernel
theorem dX12_doesAnswer_166 : decode cX12_doesAnswer 166 = .ok (.ifCond .eq 33, 3) := by decide +kernel
theorem dX12_doesAnswer_169 : decode cX12_doesAnswer 169 = .ok (.aload_n 0, 1) := by decide +kernel
theorem dX12_doesAnswer_170 : decode cX12_doesAnswer 170 = .ok (.iload_n 3, 1) := by decide +kernel
theorem dX12_doesAnswer_171 : decode cX12_doesAnswer 171 = .ok (.aload_n 0, 1) := by decide +kernel
theorem dX12_doesAnswer_172 : decode cX12_doesAnswer 172 = .ok (.getfield 32, 3) := by decide +kernel
theorem dX12_doesAnswer_175 : decode cX12_doesAnswer 175 = .ok (.aload_n 0, 1) := by decide +kernel
theorem dX12_doesAnswer_176 : decode cX12_doesAnswer 176 = .ok (.getfield 47, 3) := by decide +kernel
theorem dX12_doesAnswer_179 : decode cX12_doesAnswer 179 = .ok (.iload_n 3, 1) := by decide +kernel
theorem dX12_doesAnswer_180 : decode cX12_doesAnswer 180 = .ok (.iaload, 1) := by decide +kernel
theorem dX12_doesAnswer_181 : decode cX12_doesAnswer 181 = .ok (.iaload, 1) := by decide +kernel
theorem dX12_doesAnswer_182 : decode cX12_doesAnswer 182 = .ok (.iconst 1, 1) := by decide +kernel
theorem dX12_doesAnswer_183 : decode cX12_doesAnswer 183 = .ok (.iload 4, 2) := by decide +kernel
theorem dX12_doesAnswer_185 : decode cX12_doesAnswer 185 = .ok (.ishl, 1) := by decide +kernel
theorem dX12_doesAnswer_186 : decode cX12_doesAnswer 186 = .ok (.ixor, 1) := by decide +kernel
theorem dX12_doesAnswer_187 : decode cX12_doesAnswer 187 = .ok (.iload 6, 2) := by decide +kernel
theorem dX12_doesAnswer_189 : decode cX12_doesAnswer 189 = .ok (.invokevirtual 196, 3) := by decide +kernel
theorem dX12_doesAnswer_192 : decode cX12_doesAnswer 192 = .ok (.ifCond .eq 7, 3) := by decide +kernel
theorem dX12_doesAnswer_195 : decode cX12_doesAnswer 195 = .ok (.iconst 1, 1) := by decide +kernel
theorem dX12_doesAnswer_196 : decode cX12_doesAnswer 196 = .ok (.goto 4, 3) := by decide +kernel
theorem dX12_doesAnswer_199 : decode cX12_doesAnswer 199 = .ok (.iconst 0, 1) := by decide +kernel
theorem dX12_doesAnswer_200 : decode cX12_doesAnswer 200 = .ok (.istore 5, 2) := by decide +kernel
theorem dX12_doesAnswer_202 : decode cX12_doesAnswer 202 = .ok (.iinc 6 1, 3) := by decide +kernel
theorem dX12_doesAnswer_205 : decode cX12_doesAnswer 205 = .ok (.goto (-59), 3) := by decide +kernel
theorem dX12_doesAnswer_208 : decode cX12_doesAnswer 208 = .ok (.aload_n 0, 1) := by decide +kernel
theorem dX12_doesAnswer_209 : decode cX12_doesAnswer 209 = .ok (.getfield 75, 3) := by decide +kernel
theorem dX12_doesAnswer_212 : decode cX12_doesAnswer 212 = .ok (.iload_n 1, 1) := by decide +kernel
theorem dX12_doesAnswer_213 : decode cX12_doesAnswer 213 = .ok (.iaload, 1) := by decide +kernel
theorem dX12_doesAnswer_214 : decode cX12_doesAnswer 214 = .ok (.iconst 5, 1) := by decide +kernel
theorem dX12_doesAnswer_215 : decode cX12_doesAnswer 215 = .ok (.if_icmp .ne 60, 3) := by decide +kernel
theorem dX12_doesAnswer_218 : decode cX12_doesAnswer 218 = .ok (.aload_n 0, 1) := by decide +kernel
theorem dX12_doesAnswer_219 : decode cX12_doesAnswer 219 = .ok (.getfield 44, 3) := by decide +kernel
theorem dX12_doesAnswer_222 : decode cX12_doesAnswer 222 = .ok (.iload_n 3, 1) := by decide +kernel
theorem dX12_doesAnswer_223 : decode cX12_doesAnswer 223 = .ok (.iaload, 1) := by decide +kernel
theorem dX12_doesAnswer_224 : decode cX12_doesAnswer 224 = .ok (.aload_n 0, 1) := by decide +kernel
theorem dX12_doesAnswer_225 : decode cX12_doesAnswer 225 = .ok (.getfield 44, 3) := by decide +kernel
theorem dX12_doesAnswer_228 : decode cX12_doesAnswer 228 = .ok (.iload_n 2, 1) := by decide +kernel
theorem dX12_doesAnswer_229 : decode cX12_doesAnswer 229 = .ok (.iaload, 1) := by decide +kernel
theorem dX12_doesAnswer_230 : decode cX12_doesAnswer 230 = .ok (.if_icmp .ne 42, 3) := by decide +kernel
theorem dX12_doesAnswer_233 : decode cX12_doesAnswer 233 = .ok (.aload_n 0, 1) := by decide +kernel
theorem dX12_doesAnswer_234 : decode cX12_doesAnswer 234 = .ok (.getfield 50, 3) := by decide +kernel
theorem dX12_doesAnswer_237 : decode cX12_doesAnswer 237 = .ok (.iload_n 3, 1) := by decide +kernel
theorem dX12_doesAnswer_238 : decode cX12_doesAnswer 238 = .ok (.iaload, 1) := by decide +kernel
theorem dX12_doesAnswer_239 : decode cX12_doesAnswer 239 = .ok (.iload 4, 2) := by decide +kernel
theorem dX12_doesAnswer_241 : decode cX12_doesAnswer 241 = .ok (.if_icmp .ge 7, 3) := by decide +kernel
theorem dX12_doesAnswer_244 : decode cX12_doesAnswer 244 = .ok (.iconst 1, 1) := by decide +kernel
theorem dX12_doesAnswer_245 : decode cX12_doesAnswer 245 = .ok (.goto 4, 3) := by decide +kernel
theorem dX12_doesAnswer_248 : decode cX12_doesAnswer 248 = .ok (.iconst 0, 1) := by decide +kernel
theorem dX12_doesAnswer_249 : decode cX12_doesAnswer 249 = .ok (.aload_n 0, 1) := by decide +kernel
theorem dX12_doesAnswer_250 : decode cX12_doesAnswer 250 = .ok (.getfield 50, 3) := by decide +kernel
theorem dX12_doesAnswer_253 : decode cX12_doesAnswer 253 = .ok (.iload_n 2, 1) := by decide +kernel
theorem dX12_doesAnswer_254 : decode cX12_doesAnswer 254 = .ok (.iaload, 1) := by decide +kernel
theorem dX12_doesAnswer_255 : decode cX12_doesAnswer 255 = .ok (.iload 4, 2) := by decide +kernel
theorem dX12_doesAnswer_257 : decode cX12_doesAnswer 257 = .ok (.if_icmp .ge 7, 3) := by decide +kernel
theorem dX12_doesAnswer_260 : decode cX12_doesAnswer 260 = .ok (.iconst 1, 1) := by decide +kernel
theorem dX12_doesAnswer_261 : decode cX12_doesAnswer 261 = .ok (.goto 4, 3) := by decide +kernel
theorem dX12_doesAnswer_264 : decode cX12_doesAnswer 264 = .ok (.iconst 0, 1) := by decide +kernel
theorem dX12_doesAnswer_265 : decode cX12_doesAnswer 265 = .ok (.if_icmp .eq 7, 3) := by decide +kernel
theorem dX12_doesAnswer_268 : decode cX12_doesAnswer 268 = .ok (.iconst 1, 1) := by decide +kernel
theorem dX12_doesAnswer_269 : decode cX12_doesAnswer 269 = .ok (.goto 4, 3) := by decide +kernel
theorem dX12_doesAnswer_272 : decode cX12_doesAnswer 272 = .ok (.iconst 0, 1) := by decide +kernel
theorem dX12_doesAnswer_273 : decode cX12_doesAnswer 273 = .ok (.istore 5, 2) := by decide +kernel
theorem dX12_doesAnswer_275 : decode cX12_doesAnswer 275 = .ok (.iload 5, 2) := by decide +kernel
theorem dX12_doesAnswer_277 : decode cX12_doesAnswer 277 = .ok (.ireturn, 1) := by decide +kernel
theorem dX12_follow_0 : decode cX12_follow 0 = .ok (.iconst 0, 1) := by decide +kernel
theorem dX12_follow_1 : decode cX12_follow 1 = .ok (.istore_n 1, 1) := by decide +kernel
theorem dX12_follow_2 : decode cX12_follow 2 = .ok (.iconst 0, 1) := by decide +kernel
theorem dX12_follow_3 : decode cX12_follow 3 = .ok (.istore_n 2, 1) := by decide +kernel
theorem dX12_follow_4 : decode cX12_follow 4 = .ok (.iconst 0, 1) := by decide +kernel
theorem dX12_follow_5 : decode cX12_follow 5 = .ok (.istore_n 3, 1) := by decide +kernel
theorem dX12_follow_6 : decode cX12_follow 6 = .ok (.iload_n 3, 1) := by decide +kernel
theorem dX12_follow_7 : decode cX12_follow 7 = .ok (.aload_n 0, 1) := by decide +kernel
theorem dX12_follow_8 : decode cX12_follow 8 = .ok (.getfield 265, 3) := by decide +kernel
theorem dX12_follow_11 : decode cX12_follow 11 = .ok (.if_icmp .ge 150, 3) := by decide +kernel
theorem dX12_follow_14 : decode cX12_follow 14 = .ok (.aload_n 0, 1) := by decide +kernel
theorem dX12_follow_15 : decode cX12_follow 15 = .ok (.getfield 84, 3) := by decide +kernel
theorem dX12_follow_18 : decode cX12_follow 18 = .ok (.iload_n 3, 1) := by decide +kernel
theorem dX12_follow_19 : decode cX12_follow 19 = .ok (.aload_n 0, 1) := by decide +kernel
theorem dX12_follow_20 : decode cX12_follow 20 = .ok (.getfield 75, 3) := by decide +kernel
theorem dX12_follow_23 : decode cX12_follow 23 = .ok (.iload_n 3, 1) := by decide +kernel
theorem dX12_follow_24 : decode cX12_follow 24 = .ok (.iaload, 1) := by decide +kernel
theorem dX12_follow_25 : decode cX12_follow 25 = .ok (.iconst 1, 1) := by decide +kernel
theorem dX12_follow_26 : decode cX12_follow 26 = .ok (.if_icmp .ne 7, 3) := by decide +kernel
theorem dX12_follow_29 : decode cX12_follow 29 = .ok (.iconst 1, 1) := by decide +kernel
theorem dX12_follow_30 : decode cX12_follow 30 = .ok (.goto 4, 3) := by decide +kernel
theorem dX12_follow_33 : decode cX12_follow 33 = .ok (.iconst 0, 1) := by decide +kernel
theorem dX12_follow_34 : decode cX12_follow 34 = .ok (.bastore, 1) := by decide +kernel
theorem dX12_follow_35 : decode cX12_follow 35 = .ok (.aload_n 0, 1) := by decide +kernel
theorem dX12_follow_36 : decode cX12_follow 36 = .ok (.getfield 84, 3) := by decide +kernel
theorem dX12_follow_39 : decode cX12_follow 39 = .ok (.iload_n 3, 1) := by decide +kernel
theorem dX12_follow_40 : decode cX12_follow 40 = .ok (.baload, 1) := by decide +kernel
theorem dX12_follow_41 : decode cX12_follow 41 = .ok (.ifCond .eq 9, 3) := by decide +kernel
theorem dX12_follow_44 : decode cX12_follow 44 = .ok (.iinc 2 1, 3) := by decide +kernel
theorem dX12_follow_47 : decode cX12_follow 47 = .ok (.goto 108, 3) := by decide +kernel
theorem dX12_follow_50 : decode cX12_follow 50 = .ok (.bipush (-9), 2) := by decide +kernel
theorem dX12_follow_52 : decode cX12_follow 52 = .ok (.istore 4, 2) := by decide +kernel
theorem dX12_follow_54 : decode cX12_follow 54 = .ok (.iconst 0, 1) := by decide +kernel
theorem dX12_follow_55 : decode cX12_follow 55 = .ok (.istore 5, 2) := by decide +kernel
theorem dX12_follow_57 : decode cX12_follow 57 = .ok (.iload 5, 2) := by decide +kernel
theorem dX12_follow_59 : decode cX12_follow 59 = .ok (.iload_n 3, 1) := by decide +kernel
theorem dX12_follow_60 : decode cX12_follow 60 = .ok (.if_icmp .ge 44, 3) := by decide +kernel
theorem dX12_follow_63 : decode cX12_follow 63 = .ok (.aload_n 0, 1) := by decide +kernel
theorem dX12_follow_64 : decode cX12_follow 64 = .ok (.getfield 84, 3) := by decide +kernel
theorem dX12_follow_67 : decode cX12_follow 67 = .ok (.iload 5, 2) := by decide +kernel
theorem dX12_follow_69 : decode cX12_follow 69 = .ok (.baload, 1) := by decide +kernel
theorem dX12_follow_70 : decode cX12_follow 70 = .ok (.ifCond .eq 24, 3) := by decide +kernel
theorem dX12_follow_73 : decode cX12_follow 73 = .ok (.aload_n 0, 1) := by decide +kernel
theorem dX12_follow_74 : decode cX12_follow 74 = .ok (.getfield 78, 3) := by decide +kernel
theorem dX12_follow_77 : decode cX12_follow 77 = .ok (.iload 5, 2) := by decide +kernel
theorem dX12_follow_79 : decode cX12_follow 79 = .ok (.iaload, 1) := by decide +kernel
theorem dX12_follow_80 : decode cX12_follow 80 = .ok (.aload_n 0, 1) := by decide +kernel
theorem dX12_follow_81 : decode cX12_follow 81 = .ok (.getfield 78, 3) := by decide +kernel
theorem dX12_follow_84 : decode cX12_follow 84 = .ok (.iload_n 3, 1) := by decide +kernel
theorem dX12_follow_85 : decode cX12_follow 85 = .ok (.iaload, 1) := by decide +kernel
theorem dX12_follow_86 : decode cX12_follow 86 = .ok (.if_icmp .ne 8, 3) := by decide +kernel
theorem dX12_follow_89 : decode cX12_follow 89 = .ok (.iload 5, 2) := by decide +kernel
theorem dX12_follow_91 : decode cX12_follow 91 = .ok (.goto 5, 3) := by decide +kernel
theorem dX12_follow_94 : decode cX12_follow 94 = .ok (.iload 4, 2) := by decide +kernel
theorem dX12_follow_96 : decode cX12_follow 96 = .ok (.istore 4, 2) := by decide +kernel
theorem dX12_follow_98 : decode cX12_follow 98 = .ok (.iinc 5 1, 3) := by decide +kernel
theorem dX12_follow_101 : decode cX12_follow 101 = .ok (.goto (-44), 3) := by decide +kernel
theorem dX12_follow_104 : decode cX12_follow 104 = .ok (.iload 4, 2) := by decide +kernel
theorem dX12_follow_106 : decode cX12_follow 106 = .ok (.ifCond .lt 32, 3) := by decide +kernel
theorem dX12_follow_109 : decode cX12_follow 109 = .ok (.aload_n 0, 1) := by decide +kernel
theorem dX12_follow_110 : decode cX12_follow 110 = .ok (.iload_n 3, 1) := by decide +kernel
theorem dX12_follow_111 : decode cX12_follow 111 = .ok (.aload_n 0, 1) := by decide +kernel
theorem dX12_follow_112 : decode cX12_follow 112 = .ok (.getfield 81, 3) := by decide +kernel
theorem dX12_follow_115 : decode cX12_follow 115 = .ok (.iload 4, 2) := by decide +kernel
theorem dX12_follow_117 : decode cX12_follow 117 = .ok (.iaload, 1) := by decide +kernel
theorem dX12_follow_118 : decode cX12_follow 118 = .ok (.invokevirtual 271, 3) := by decide +kernel
theorem dX12_follow_121 : decode cX12_follow 121 = .ok (.ifCond .eq 17, 3) := by decide +kernel
theorem dX12_follow_124 : decode cX12_follow 124 = .ok (.aload_n 0, 1) := by decide +kernel
theorem dX12_follow_125 : decode cX12_follow 125 = .ok (.getfield 84, 3) := by decide +kernel
theorem dX12_follow_128 : decode cX12_follow 128 = .ok (.iload 4, 2) := by decide +kernel
theorem dX12_follow_130 : decode cX12_follow 130 = .ok (.iconst 0, 1) := by decide +kernel
theorem dX12_follow_131 : decode cX12_follow 131 = .ok (.bastore, 1) := by decide +kernel
theorem dX12_follow_132 : decode cX12_follow 132 = .ok (.iinc 2 (-1), 3) := by decide +kernel
theorem dX12_follow_135 : decode cX12_follow 135 = .ok (.goto 20, 3) := by decide +kernel
theorem dX12_follow_138 : decode cX12_follow 138 = .ok (.iload_n 1, 1) := by decide +kernel
theorem dX12_follow_139 : decode cX12_follow 139 = .ok (.aload_n 0, 1) := by decide +kernel
theorem dX12_follow_140 : decode cX12_follow 140 = .ok (.getfield 75, 3) := by decide +kernel
theorem dX12_follow_143 : decode cX12_follow 143 = .ok (.iload_n 3, 1) := by decide +kernel
theorem dX12_follow_144 : decode cX12_follow 144 = .ok (.iaload, 1) := by decide +kernel
theorem dX12_follow_145 : decode cX12_follow 145 = .ok (.ifCond .ne 7, 3) := by decide +kernel
theorem dX12_follow_148 : decode cX12_follow 148 = .ok (.iconst 0, 1) := by decide +kernel
theorem dX12_follow_149 : decode cX12_follow 149 = .ok (.goto 4, 3) := by decide +kernel
theorem dX12_follow_152 : decode cX12_follow 152 = .ok (.iconst 1, 1) := by decide +kernel
theorem dX12_follow_153 : decode cX12_follow 153 = .ok (.iadd, 1) := by decide +kernel
theorem dX12_follow_154 : decode cX12_follow 154 = .ok (.istore_n 1, 1) := by decide +kernel
theorem dX12_follow_155 : decode cX12_follow 155 = .ok (.iinc 3 1, 3) := by decide +kernel
theorem dX12_follow_158 : decode cX12_follow 158 = .ok (.goto (-152), 3) := by decide +kernel
theorem dX12_follow_161 : decode cX12_follow 161 = .ok (.aload_n 0, 1) := by decide +kernel
theorem dX12_follow_162 : decode cX12_follow 162 = .ok (.iload_n 1, 1) := by decide +kernel
theorem dX12_follow_163 : decode cX12_follow 163 = .ok (.iload_n 2, 1) := by decide +kernel
theorem dX12_follow_164 : decode cX12_follow 164 = .ok (.invokevirtual 119, 3) := by decide +kernel
theorem dX12_follow_167 : decode cX12_follow 167 = .ok (.ireturn, 1) := by decide +kernel
theorem dX12_lawOf_0 : decode cX12_lawOf 0 = .ok (.iconst 0, 1) := by decide +kernel
theorem dX12_lawOf_1 : decode cX12_lawOf 1 = .ok (.istore_n 3, 1) := by decide +kernel
theorem dX12_lawOf_2 : decode cX12_lawOf 2 = .ok (.bipush (-9), 2) := by decide +kernel
theorem dX12_lawOf_4 : decode cX12_lawOf 4 = .ok (.istore 4, 2) := by decide +kernel
theorem dX12_lawOf_6 : decode cX12_lawOf 6 = .ok (.aload_n 0, 1) := by decide +kernel
theorem dX12_lawOf_7 : decode cX12_lawOf 7 = .ok (.iconst 0, 1) := by decide +kernel
theorem dX12_lawOf_8 : decode cX12_lawOf 8 = .ok (.putfield 274, 3) := by decide +kernel
theorem dX12_lawOf_11 : decode cX12_lawOf 11 = .ok (.iconst 0, 1) := by decide +kernel
theorem dX12_lawOf_12 : decode cX12_lawOf 12 = .ok (.istore 5, 2) := by decide +kernel
theorem dX12_lawOf_14 : decode cX12_lawOf 14 = .ok (.iload 5, 2) := by decide +kernel
theorem dX12_lawOf_16 : decode cX12_lawOf 16 = .ok (.aload_n 0, 1) := by decide +kernel
theorem dX12_lawOf_17 : decode cX12_lawOf 17 = .ok (.getfield 128, 3) := by decide +kernel
theorem dX12_lawOf_20 : decode cX12_lawOf 20 = .ok (.if_icmp .ge 112, 3) := by decide +kernel
theorem dX12_lawOf_23 : decode cX12_lawOf 23 = .ok (.aload_n 0, 1) := by decide +kernel
theorem dX12_lawOf_24 : decode cX12_lawOf 24 = .ok (.iload 5, 2) := by decide +kernel
theorem dX12_lawOf_26 : decode cX12_lawOf 26 = .ok (.invokevirtual 150, 3) := by decide +kernel
theorem dX12_lawOf_29 : decode cX12_lawOf 29 = .ok (.ifCond .ne 7, 3) := by decide +kernel
theorem dX12_lawOf_32 : decode cX12_lawOf 32 = .ok (.iconst 0, 1) := by decide +kernel
theorem dX12_lawOf_33 : decode cX12_lawOf 33 = .ok (.goto 20, 3) := by decide +kernel
theorem dX12_lawOf_36 : decode cX12_lawOf 36 = .ok (.iload_n 1, 1) := by decide +kernel
theorem dX12_lawOf_37 : decode cX12_lawOf 37 = .ok (.iconst 2, 1) := by decide +kernel
theorem dX12_lawOf_38 : decode cX12_lawOf 38 = .ok (.if_icmp .ne 14, 3) := by decide +kernel
theorem dX12_lawOf_41 : decode cX12_lawOf 41 = .ok (.aload_n 0, 1) := by decide +kernel
theorem dX12_lawOf_42 : decode cX12_lawOf 42 = .ok (.iload 5, 2) := by decide +kernel
theorem dX12_lawOf_44 : decode cX12_lawOf 44 = .ok (.invokevirtual 163, 3) := by decide +kernel
theorem dX12_lawOf_47 : decode cX12_lawOf 47 = .ok (.iconst 1, 1) := by decide +kernel
theorem dX12_lawOf_48 : decode cX12_lawOf 48 = .ok (.iadd, 1) := by decide +kernel
theorem dX12_lawOf_49 : decode cX12_lawOf 49 = .ok (.goto 4, 3) := by decide +kernel
theorem dX12_lawOf_52 : decode cX12_lawOf 52 = .ok (.iconst 1, 1) := by decide +kernel
theorem dX12_lawOf_53 : decode cX12_lawOf 53 = .ok (.istore 6, 2) := by decide +kernel
theorem dX12_lawOf_55 : decode cX12_lawOf 55 = .ok (.iload_n 3, 1) := by decide +kernel
theorem dX12_lawOf_56 : decode cX12_lawOf 56 = .ok (.iload 6, 2) := by decide +kernel
theorem dX12_lawOf_58 : decode cX12_lawOf 58 = .ok (.iadd, 1) := by decide +kernel
theorem dX12_lawOf_59 : decode cX12_lawOf 59 = .ok (.istore_n 3, 1) := by decide +kernel
theorem dX12_lawOf_60 : decode cX12_lawOf 60 = .ok (.aload_n 0, 1) := by decide +kernel
theorem dX12_lawOf_61 : decode cX12_lawOf 61 = .ok (.dup, 1) := by decide +kernel
theorem dX12_lawOf_62 : decode cX12_lawOf 62 = .ok (.getfield 274, 3) := by decide +kernel
theorem dX12_lawOf_65 : decode cX12_lawOf 65 = .ok (.aload_n 0, 1) := by decide +kernel
theorem dX12_lawOf_66 : decode cX12_lawOf 66 = .ok (.getfield 72, 3) := by decide +kernel
theorem dX12_lawOf_69 : decode cX12_lawOf 69 = .ok (.iload 5, 2) := by decide +kernel
theorem dX12_lawOf_71 : decode cX12_lawOf 71 = .ok (.iaload, 1) := by decide +kernel
theorem dX12_lawOf_72 : decode cX12_lawOf 72 = .ok (.iload_n 2, 1) := by decide +kernel
theorem dX12_lawOf_73 : decode cX12_lawOf 73 = .ok (.invokestatic 193, 3) := by decide +kernel
theorem dX12_lawOf_76 : decode cX12_lawOf 76 = .ok (.iconst 1, 1) := by decide +kernel
theorem dX12_lawOf_77 : decode cX12_lawOf 77 = .ok (.if_icmp .ne 8, 3) := by decide +kernel
theorem dX12_lawOf_80 : decode cX12_lawOf 80 = .ok (.iload 6, 2) := by decide +kernel
theorem dX12_lawOf_82 : decode cX12_lawOf 82 = .ok (.goto 4, 3) := by decide +kernel
theorem dX12_lawOf_85 : decode cX12_lawOf 85 = .ok (.iconst 0, 1) := by decide +kernel
theorem dX12_lawOf_86 : decode cX12_lawOf 86 = .ok (.iadd, 1) := by decide +kernel
theorem dX12_lawOf_87 : decode cX12_lawOf 87 = .ok (.putfield 274, 3) := by decide +kernel
theorem dX12_lawOf_90 : decode cX12_lawOf 90 = .ok (.iload 6, 2) := by decide +kernel
theorem dX12_lawOf_92 : decode cX12_lawOf 92 = .ok (.ifCond .le 30, 3) := by decide +kernel
theorem dX12_lawOf_95 : decode cX12_lawOf 95 = .ok (.iload 4, 2) := by decide +kernel
theorem dX12_lawOf_97 : decode cX12_lawOf 97 = .ok (.ifCond .lt 20, 3) := by decide +kernel
theorem dX12_lawOf_100 : decode cX12_lawOf 100 = .ok (.aload_n 0, 1) := by decide +kernel
theorem dX12_lawOf_101 : decode cX12_lawOf 101 = .ok (.getfield 38, 3) := by decide +kernel
theorem dX12_lawOf_104 : decode cX12_lawOf 104 = .ok (.iload 5, 2) := by decide +kernel
theorem dX12_lawOf_106 : decode cX12_lawOf 106 = .ok (.iaload, 1) := by decide +kernel
theorem dX12_lawOf_107 : decode cX12_lawOf 107 = .ok (.aload_n 0, 1) := by decide +kernel
theorem dX12_lawOf_108 : decode cX12_lawOf 108 = .ok (.getfield 38, 3) := by decide +kernel
theorem dX12_lawOf_111 : decode cX12_lawOf 111 = .ok (.iload 4, 2) := by decide +kernel
theorem dX12_lawOf_113 : decode cX12_lawOf 113 = .ok (.iaload, 1) := by decide +kernel
theorem dX12_lawOf_114 : decode cX12_lawOf 114 = .ok (.if_icmp .le 8, 3) := by decide +kernel
theorem dX12_lawOf_117 : decode cX12_lawOf 117 = .ok (.iload 5, 2) := by decide +kernel
theorem dX12_lawOf_119 : decode cX12_lawOf 119 = .ok (.goto 5, 3) := by decide +kernel
theorem dX12_lawOf_122 : decode cX12_lawOf 122 = .ok (.iload 4, 2) := by decide +kernel
theorem dX12_lawOf_124 : decode cX12_lawOf 124 = .ok (.istore 4, 2) := by decide +kernel
theorem dX12_lawOf_126 : decode cX12_lawOf 126 = .ok (.iinc 5 1, 3) := by decide +kernel
theorem dX12_lawOf_129 : decode cX12_lawOf 129 = .ok (.goto (-115), 3) := by decide +kernel
theorem dX12_lawOf_132 : decode cX12_lawOf 132 = .ok (.iload 4, 2) := by decide +kernel
theorem dX12_lawOf_134 : decode cX12_lawOf 134 = .ok (.ifCond .ge 6, 3) := by decide +kernel
theorem dX12_lawOf_137 : decode cX12_lawOf 137 = .ok (.bipush (-9), 2) := by decide +kernel
theorem dX12_lawOf_139 : decode cX12_lawOf 139 = .ok (.ireturn, 1) := by decide +kernel
theorem dX12_lawOf_140 : decode cX12_lawOf 140 = .ok (.iload_n 1, 1) := by decide +kernel
theorem dX12_lawOf_141 : decode cX12_lawOf 141 = .ok (.iconst 1, 1) := by decide +kernel
theorem dX12_lawOf_142 : decode cX12_lawOf 142 = .ok (.if_icmp .ne 21, 3) := by decide +kernel
theorem dX12_lawOf_145 : decode cX12_lawOf 145 = .ok (.aload_n 0, 1) := by decide +kernel
theorem dX12_lawOf_146 : decode cX12_lawOf 146 = .ok (.iload 4, 2) := by decide +kernel
theorem dX12_lawOf_148 : decode cX12_lawOf 148 = .ok (.putfield 274, 3) := by decide +kernel
theorem dX12_lawOf_151 : decode cX12_lawOf 151 = .ok (.aload_n 0, 1) := by decide +kernel
theorem dX12_lawOf_152 : decode cX12_lawOf 152 = .ok (.getfield 72, 3) := by decide +kernel
theorem dX12_lawOf_155 : decode cX12_lawOf 155 = .ok (.iload 4, 2) := by decide +kernel
theorem dX12_lawOf_157 : decode cX12_lawOf 157 = .ok (.iaload, 1) := by decide +kernel
theorem dX12_lawOf_158 : decode cX12_lawOf 158 = .ok (.iload_n 2, 1) := by decide +kernel
theorem dX12_lawOf_159 : decode cX12_lawOf 159 = .ok (.invokestatic 193, 3) := by decide +kernel
theorem dX12_lawOf_162 : decode cX12_lawOf 162 = .ok (.ireturn, 1) := by decide +kernel
theorem dX12_lawOf_163 : decode cX12_lawOf 163 = .ok (.iconst 2, 1) := by decide +kernel
theorem dX12_lawOf_164 : decode cX12_lawOf 164 = .ok (.aload_n 0, 1) := by decide +kernel
theorem dX12_lawOf_165 : decode cX12_lawOf 165 = .ok (.getfield 274, 3) := by decide +kernel
theorem dX12_lawOf_168 : decode cX12_lawOf 168 = .ok (.imul, 1) := by decide +kernel
theorem dX12_lawOf_169 : decode cX12_lawOf 169 = .ok (.iload_n 3, 1) := by decide +kernel
theorem dX12_lawOf_170 : decode cX12_lawOf 170 = .ok (.if_icmp .ne 8, 3) := by decide +kernel
theorem dX12_lawOf_173 : decode cX12_lawOf 173 = .ok (.bipush (-9), 2) := by decide +kernel
theorem dX12_lawOf_175 : decode cX12_lawOf 175 = .ok (.goto 18, 3) := by decide +kernel
theorem dX12_lawOf_178 : decode cX12_lawOf 178 = .ok (.iconst 2, 1) := by decide +kernel
theorem dX12_lawOf_179 : decode cX12_lawOf 179 = .ok (.aload_n 0, 1) := by decide +kernel
theorem dX12_lawOf_180 : decode cX12_lawOf 180 = .ok (.getfield 274, 3) := by decide +kernel
theorem dX12_lawOf_183 : decode cX12_lawOf 183 = .ok (.imul, 1) := by decide +kernel
theorem dX12_lawOf_184 : decode cX12_lawOf 184 = .ok (.iload_n 3, 1) := by decide +kernel
theorem dX12_lawOf_185 : decode cX12_lawOf 185 = .ok (.if_icmp .le 7, 3) := by decide +kernel
theorem dX12_lawOf_188 : decode cX12_lawOf 188 = .ok (.iconst 1, 1) := by decide +kernel
theorem dX12_lawOf_189 : decode cX12_lawOf 189 = .ok (.goto 4, 3) := by decide +kernel
theorem dX12_lawOf_192 : decode cX12_lawOf 192 = .ok (.iconst 0, 1) := by decide +kernel
theorem dX12_lawOf_193 : decode cX12_lawOf 193 = .ok (.ireturn, 1) := by decide +kernel
theorem dX12_isBy_0 : decode cX12_isBy 0 = .ok (.iload_n 0, 1) := by decide +kernel
theorem dX12_isBy_1 : decode cX12_isBy 1 = .ok (.iconst 0, 1) := by decide +kernel
theorem dX12_isBy_2 : decode cX12_isBy 2 = .ok (.iconst 2, 1) := by decide +kernel
theorem dX12_isBy_3 : decode cX12_isBy 3 = .ok (.invokestatic 97, 3) := by decide +kernel
theorem dX12_isBy_6 : decode cX12_isBy 6 = .ok (.ireturn, 1) := by decide +kernel
theorem dX12_law_0 : decode cX12_law 0 = .ok (.iload_n 1, 1) := by decide +kernel
theorem dX12_law_1 : decode cX12_law 1 = .ok (.invokestatic 277, 3) := by decide +kernel
theorem dX12_law_4 : decode cX12_law 4 = .ok (.ifCond .eq 10, 3) := by decide +kernel
theorem dX12_law_7 : decode cX12_law 7 = .ok (.iload_n 2, 1) := by decide +kernel
theorem dX12_law_8 : decode cX12_law 8 = .ok (.invokestatic 134, 3) := by decide +kernel
theorem dX12_law_11 : decode cX12_law 11 = .ok (.ifCond .ne 5, 3) := by decide +kernel
theorem dX12_law_14 : decode cX12_law 14 = .ok (.iconst (-1), 1) := by decide +kernel
theorem dX12_law_15 : decode cX12_law 15 = .ok (.ireturn, 1) := by decide +kernel
theorem dX12_law_16 : decode cX12_law 16 = .ok (.aload_n 0, 1) := by decide +kernel
theorem dX12_law_17 : decode cX12_law 17 = .ok (.invokevirtual 237, 3) := by decide +kernel
theorem dX12_law_20 : decode cX12_law 20 = .ok (.aload_n 0, 1) := by decide +kernel
theorem dX12_law_21 : decode cX12_law 21 = .ok (.iload_n 1, 1) := by decide +kernel
theorem dX12_law_22 : decode cX12_law 22 = .ok (.iload_n 2, 1) := by decide +kernel
theorem dX12_law_23 : decode cX12_law 23 = .ok (.invokevirtual 280, 3) := by decide +kernel
theorem dX12_law_26 : decode cX12_law 26 = .ok (.istore_n 3, 1) := by decide +kernel
theorem dX12_law_27 : decode cX12_law 27 = .ok (.iload_n 3, 1) := by decide +kernel
theorem dX12_law_28 : decode cX12_law 28 = .ok (.bipush (-9), 2) := by decide +kernel
theorem dX12_law_30 : decode cX12_law 30 = .ok (.if_icmp .ne 8, 3) := by decide +kernel
theorem dX12_law_33 : decode cX12_law 33 = .ok (.bipush (-9), 2) := by decide +kernel
theorem dX12_law_35 : decode cX12_law 35 = .ok (.goto 12, 3) := by decide +kernel
theorem dX12_law_38 : decode cX12_law 38 = .ok (.aload_n 0, 1) := by decide +kernel
theorem dX12_law_39 : decode cX12_law 39 = .ok (.aload_n 0, 1) := by decide +kernel
theorem dX12_law_40 : decode cX12_law 40 = .ok (.getfield 274, 3) := by decide +kernel
theorem dX12_law_43 : decode cX12_law 43 = .ok (.iload_n 3, 1) := by decide +kernel
theorem dX12_law_44 : decode cX12_law 44 = .ok (.invokevirtual 119, 3) := by decide +kernel
theorem dX12_law_47 : decode cX12_law 47 = .ok (.ireturn, 1) := by decide +kernel
theorem dX12_lawsPart_0 : decode cX12_lawsPart 0 = .ok (.iload_n 1, 1) := by decide +kernel
theorem dX12_lawsPart_1 : decode cX12_lawsPart 1 = .ok (.invokestatic 277, 3) := by decide +kernel
theorem dX12_lawsPart_4 : decode cX12_lawsPart 4 = .ok (.ifCond .eq 10, 3) := by decide +kernel
theorem dX12_lawsPart_7 : decode cX12_lawsPart 7 = .ok (.iload_n 2, 1) := by decide +kernel
theorem dX12_lawsPart_8 : decode cX12_lawsPart 8 = .ok (.invokestatic 277, 3) := by decide +kernel
theorem dX12_lawsPart_11 : decode cX12_lawsPart 11 = .ok (.ifCond .ne 5, 3) := by decide +kernel
theorem dX12_lawsPart_14 : decode cX12_lawsPart 14 = .ok (.iconst (-1), 1) := by decide +kernel
theorem dX12_lawsPart_15 : decode cX12_lawsPart 15 = .ok (.ireturn, 1) := by decide +kernel
theorem dX12_lawsPart_16 : decode cX12_lawsPart 16 = .ok (.aload_n 0, 1) := by decide +kernel
theorem dX12_lawsPart_17 : decode cX12_lawsPart 17 = .ok (.invokevirtual 237, 3) := by decide +kernel
theorem dX12_lawsPart_20 : decode cX12_lawsPart 20 = .ok (.iconst 0, 1) := by decide +kernel
theorem dX12_lawsPart_21 : decode cX12_lawsPart 21 = .ok (.istore_n 3, 1) := by decide +kernel
theorem dX12_lawsPart_22 : decode cX12_lawsPart 22 = .ok (.iconst 0, 1) := by decide +kernel
theorem dX12_lawsPart_23 : decode cX12_lawsPart 23 = .ok (.istore 4, 2) := by decide +kernel
theorem dX12_lawsPart_25 : decode cX12_lawsPart 25 = .ok (.iload 4, 2) := by decide +kernel
theorem dX12_lawsPart_27 : decode cX12_lawsPart 27 = .ok (.bipush 32, 2) := by decide +kernel
theorem dX12_lawsPart_29 : decode cX12_lawsPart 29 = .ok (.if_icmp .ge 34, 3) := by decide +kernel
theorem dX12_lawsPart_32 : decode cX12_lawsPart 32 = .ok (.iload_n 3, 1) := by decide +kernel
theorem dX12_lawsPart_33 : decode cX12_lawsPart 33 = .ok (.aload_n 0, 1) := by decide +kernel
theorem dX12_lawsPart_34 : decode cX12_lawsPart 34 = .ok (.iload_n 1, 1) := by decide +kernel
theorem dX12_lawsPart_35 : decode cX12_lawsPart 35 = .ok (.iload 4, 2) := by decide +kernel
theorem dX12_lawsPart_37 : decode cX12_lawsPart 37 = .ok (.invokevirtual 280, 3) := by decide +kernel
theorem dX12_lawsPart_40 : decode cX12_lawsPart 40 = .ok (.aload_n 0, 1) := by decide +kernel
theorem dX12_lawsPart_41 : decode cX12_lawsPart 41 = .ok (.iload_n 2, 1) := by decide +kernel
theorem dX12_lawsPart_42 : decode cX12_lawsPart 42 = .ok (.iload 4, 2) := by decide +kernel
theorem dX12_lawsPart_44 : decode cX12_lawsPart 44 = .ok (.invokevirtual 280, 3) := by decide +kernel
theorem dX12_lawsPart_47 : decode cX12_lawsPart 47 = .ok (.if_icmp .eq 7, 3) := by decide +kernel
theorem dX12_lawsPart_50 : decode cX12_lawsPart 50 = .ok (.iconst 1, 1) := by decide +kernel
theorem dX12_lawsPart_51 : decode cX12_lawsPart 51 = .ok (.goto 4, 3) := by decide +kernel
theorem dX12_lawsPart_54 : decode cX12_lawsPart 54 = .ok (.iconst 0, 1) := by decide +kernel
theorem dX12_lawsPart_55 : decode cX12_lawsPart 55 = .ok (.iadd, 1) := by decide +kernel
theorem dX12_lawsPart_56 : decode cX12_lawsPart 56 = .ok (.istore_n 3, 1) := by decide +kernel
theorem dX12_lawsPart_57 : decode cX12_lawsPart 57 = .ok (.iinc 4 1, 3) := by decide +kernel
theorem dX12_lawsPart_60 : decode cX12_lawsPart 60 = .ok (.goto (-35), 3) := by decide +kernel
theorem dX12_lawsPart_63 : decode cX12_lawsPart 63 = .ok (.iload_n 3, 1) := by decide +kernel
theorem dX12_lawsPart_64 : decode cX12_lawsPart 64 = .ok (.ireturn, 1) := by decide +kernel
theorem dX12_fresh_0 : decode cX12_fresh 0 = .ok (.aload_n 0, 1) := by decide +kernel
theorem dX12_fresh_1 : decode cX12_fresh 1 = .ok (.iload_n 1, 1) := by decide +kernel
theorem dX12_fresh_2 : decode cX12_fresh 2 = .ok (.invokevirtual 137, 3) := by decide +kernel
theorem dX12_fresh_5 : decode cX12_fresh 5 = .ok (.ifCond .eq 19, 3) := by decide +kernel
theorem dX12_fresh_8 : decode cX12_fresh 8 = .ok (.iload_n 2, 1) := by decide +kernel
theorem dX12_fresh_9 : decode cX12_fresh 9 = .ok (.invokestatic 134, 3) := by decide +kernel
theorem dX12_fresh_12 : decode cX12_fresh 12 = .ok (.ifCond .eq 12, 3) := by decide +kernel
theorem dX12_fresh_15 : decode cX12_fresh 15 = .ok (.aload_n 0, 1) := by decide +kernel
theorem dX12_fresh_16 : decode cX12_fresh 16 = .ok (.iload_n 1, 1) := by decide +kernel
theorem dX12_fresh_17 : decode cX12_fresh 17 = .ok (.iload_n 2, 1) := by decide +kernel
theorem dX12_fresh_18 : decode cX12_fresh 18 = .ok (.invokevirtual 246, 3) := by decide +kernel
theorem dX12_fresh_21 : decode cX12_fresh 21 = .ok (.goto 4, 3) := by decide +kernel
theorem dX12_fresh_24 : decode cX12_fresh 24 = .ok (.iconst (-1), 1) := by decide +kernel
theorem dX12_fresh_25 : decode cX12_fresh 25 = .ok (.ireturn, 1) := by decide +kernel
theorem dX12_next_0 : decode cX12_next 0 = .ok (.iconst 0, 1) := by decide +kernel
theorem dX12_next_1 : decode cX12_next 1 = .ok (.istore_n 1, 1) := by decide +kernel
theorem dX12_next_2 : decode cX12_next 2 = .ok (.iconst 0, 1) := by decide +kernel
theorem dX12_next_3 : decode cX12_next 3 = .ok (.istore_n 2, 1) := by decide +kernel
theorem dX12_next_4 : decode cX12_next 4 = .ok (.iload_n 2, 1) := by decide +kernel
theorem dX12_next_5 : decode cX12_next 5 = .ok (.bipush 32, 2) := by decide +kernel
theorem dX12_next_7 : decode cX12_next 7 = .ok (.if_icmp .ge 16, 3) := by decide +kernel
theorem dX12_next_10 : decode cX12_next 10 = .ok (.aload_n 0, 1) := by decide +kernel
theorem dX12_next_11 : decode cX12_next 11 = .ok (.getfield 87, 3) := by decide +kernel
theorem dX12_next_14 : decode cX12_next 14 = .ok (.iload_n 2, 1) := by decide +kernel
theorem dX12_next_15 : decode cX12_next 15 = .ok (.iconst 0, 1) := by decide +kernel
theorem dX12_next_16 : decode cX12_next 16 = .ok (.iastore, 1) := by decide +kernel
theorem dX12_next_17 : decode cX12_next 17 = .ok (.iinc 2 1, 3) := by decide +kernel
theorem dX12_next_20 : decode cX12_next 20 = .ok (.goto (-16), 3) := by decide +kernel
theorem dX12_next_23 : decode cX12_next 23 = .ok (.iconst 0, 1) := by decide +kernel
theorem dX12_next_24 : decode cX12_next 24 = .ok (.istore_n 2, 1) := by decide +kernel
theorem dX12_next_25 : decode cX12_next 25 = .ok (.iload_n 2, 1) := by decide +kernel
theorem dX12_next_26 : decode cX12_next 26 = .ok (.aload_n 0, 1) := by decide +kernel
theorem dX12_next_27 : decode cX12_next 27 = .ok (.getfield 128, 3) := by decide +kernel
theorem dX12_next_30 : decode cX12_next 30 = .ok (.if_icmp .ge 61, 3) := by decide +kernel
theorem dX12_next_33 : decode cX12_next 33 = .ok (.aload_n 0, 1) := by decide +kernel
theorem dX12_next_34 : decode cX12_next 34 = .ok (.iload_n 2, 1) := by decide +kernel
theorem dX12_next_35 : decode cX12_next 35 = .ok (.invokevirtual 150, 3) := by decide +kernel
theorem dX12_next_38 : decode cX12_next 38 = .ok (.ifCond .le 47, 3) := by decide +kernel
theorem dX12_next_41 : decode cX12_next 41 = .ok (.iconst 1, 1) := by decide +kernel
theorem dX12_next_42 : decode cX12_next 42 = .ok (.istore_n 1, 1) := by decide +kernel
theorem dX12_next_43 : decode cX12_next 43 = .ok (.aload_n 0, 1) := by decide +kernel
theorem dX12_next_44 : decode cX12_next 44 = .ok (.iload_n 2, 1) := by decide +kernel
theorem dX12_next_45 : decode cX12_next 45 = .ok (.invokevirtual 234, 3) := by decide +kernel
theorem dX12_next_48 : decode cX12_next 48 = .ok (.iconst 0, 1) := by decide +kernel
theorem dX12_next_49 : decode cX12_next 49 = .ok (.istore_n 3, 1) := by decide +kernel
theorem dX12_next_50 : decode cX12_next 50 = .ok (.iload_n 3, 1) := by decide +kernel
theorem dX12_next_51 : decode cX12_next 51 = .ok (.bipush 32, 2) := by decide +kernel
theorem dX12_next_53 : decode cX12_next 53 = .ok (.if_icmp .ge 32, 3) := by decide +kernel
theorem dX12_next_56 : decode cX12_next 56 = .ok (.aload_n 0, 1) := by decide +kernel
theorem dX12_next_57 : decode cX12_next 57 = .ok (.getfield 87, 3) := by decide +kernel
theorem dX12_next_60 : decode cX12_next 60 = .ok (.iload_n 3, 1) := by decide +kernel
theorem dX12_next_61 : decode cX12_next 61 = .ok (.dup2, 1) := by decide +kernel
theorem dX12_next_62 : decode cX12_next 62 = .ok (.iaload, 1) := by decide +kernel
theorem dX12_next_63 : decode cX12_next 63 = .ok (.aload_n 0, 1) := by decide +kernel
theorem dX12_next_64 : decode cX12_next 64 = .ok (.iload_n 3, 1) := by decide +kernel
theorem dX12_next_65 : decode cX12_next 65 = .ok (.invokevirtual 243, 3) := by decide +kernel
theorem dX12_next_68 : decode cX12_next 68 = .ok (.iconst 2, 1) := by decide +kernel
theorem dX12_next_69 : decode cX12_next 69 = .ok (.if_icmp .ne 7, 3) := by decide +kernel
theorem dX12_next_72 : decode cX12_next 72 = .ok (.iconst 1, 1) := by decide +kernel
theorem dX12_next_73 : decode cX12_next 73 = .ok (.goto 4, 3) := by decide +kernel
theorem dX12_next_76 : decode cX12_next 76 = .ok (.iconst 0, 1) := by decide +kernel
theorem dX12_next_77 : decode cX12_next 77 = .ok (.iadd, 1) := by decide +kernel
theorem dX12_next_78 : decode cX12_next 78 = .ok (.iastore, 1) := by decide +kernel
theorem dX12_next_79 : decode cX12_next 79 = .ok (.iinc 3 1, 3) := by decide +kernel
theorem dX12_next_82 : decode cX12_next 82 = .ok (.goto (-32), 3) := by decide +kernel
theorem dX12_next_85 : decode cX12_next 85 = .ok (.iinc 2 1, 3) := by decide +kernel
theorem dX12_next_88 : decode cX12_next 88 = .ok (.goto (-63), 3) := by decide +kernel
theorem dX12_next_91 : decode cX12_next 91 = .ok (.iconst 0, 1) := by decide +kernel
theorem dX12_next_92 : decode cX12_next 92 = .ok (.istore_n 2, 1) := by decide +kernel
theorem dX12_next_93 : decode cX12_next 93 = .ok (.iconst 1, 1) := by decide +kernel
theorem dX12_next_94 : decode cX12_next 94 = .ok (.istore_n 3, 1) := by decide +kernel
theorem dX12_next_95 : decode cX12_next 95 = .ok (.iload_n 3, 1) := by decide +kernel
theorem dX12_next_96 : decode cX12_next 96 = .ok (.bipush 32, 2) := by decide +kernel
theorem dX12_next_98 : decode cX12_next 98 = .ok (.if_icmp .ge 30, 3) := by decide +kernel
theorem dX12_next_101 : decode cX12_next 101 = .ok (.aload_n 0, 1) := by decide +kernel
theorem dX12_next_102 : decode cX12_next 102 = .ok (.getfield 87, 3) := by decide +kernel
theorem dX12_next_105 : decode cX12_next 105 = .ok (.iload_n 3, 1) := by decide +kernel
theorem dX12_next_106 : decode cX12_next 106 = .ok (.iaload, 1) := by decide +kernel
theorem dX12_next_107 : decode cX12_next 107 = .ok (.aload_n 0, 1) := by decide +kernel
theorem dX12_next_108 : decode cX12_next 108 = .ok (.getfield 87, 3) := by decide +kernel
theorem dX12_next_111 : decode cX12_next 111 = .ok (.iload_n 2, 1) := by decide +kernel
theorem dX12_next_112 : decode cX12_next 112 = .ok (.iaload, 1) := by decide +kernel
theorem dX12_next_113 : decode cX12_next 113 = .ok (.if_icmp .le 7, 3) := by decide +kernel
theorem dX12_next_116 : decode cX12_next 116 = .ok (.iload_n 3, 1) := by decide +kernel
theorem dX12_next_117 : decode cX12_next 117 = .ok (.goto 4, 3) := by decide +kernel
theorem dX12_next_120 : decode cX12_next 120 = .ok (.iload_n 2, 1) := by decide +kernel
theorem dX12_next_121 : decode cX12_next 121 = .ok (.istore_n 2, 1) := by decide +kernel
theorem dX12_next_122 : decode cX12_next 122 = .ok (.iinc 3 1, 3) := by decide +kernel
theorem dX12_next_125 : decode cX12_next 125 = .ok (.goto (-30), 3) := by decide +kernel
theorem dX12_next_128 : decode cX12_next 128 = .ok (.iload_n 1, 1) := by decide +kernel
theorem dX12_next_129 : decode cX12_next 129 = .ok (.ifCond .eq 17, 3) := by decide +kernel
theorem dX12_next_132 : decode cX12_next 132 = .ok (.aload_n 0, 1) := by decide +kernel
theorem dX12_next_133 : decode cX12_next 133 = .ok (.aload_n 0, 1) := by decide +kernel
theorem dX12_next_134 : decode cX12_next 134 = .ok (.getfield 87, 3) := by decide +kernel
theorem dX12_next_137 : decode cX12_next 137 = .ok (.iload_n 2, 1) := by decide +kernel
theorem dX12_next_138 : decode cX12_next 138 = .ok (.iaload, 1) := by decide +kernel
theorem dX12_next_139 : decode cX12_next 139 = .ok (.iload_n 2, 1) := by decide +kernel
theorem dX12_next_140 : decode cX12_next 140 = .ok (.invokevirtual 119, 3) := by decide +kernel
theorem dX12_next_143 : decode cX12_next 143 = .ok (.goto 5, 3) := by decide +kernel
theorem dX12_next_146 : decode cX12_next 146 = .ok (.bipush (-9), 2) := by decide +kernel
theorem dX12_next_148 : decode cX12_next 148 = .ok (.ireturn, 1) := by decide +kernel
theorem dX12_asked_0 : decode cX12_asked 0 = .ok (.aload_n 0, 1) := by decide +kernel
theorem dX12_asked_1 : decode cX12_asked 1 = .ok (.getfield 94, 3) := by decide +kernel
theorem dX12_asked_4 : decode cX12_asked 4 = .ok (.ireturn, 1) := by decide +kernel
theorem dX12_upper_0 : decode cX12_upper 0 = .ok (.aload_n 0, 1) := by decide +kernel
theorem dX12_upper_1 : decode cX12_upper 1 = .ok (.getfield 259, 3) := by decide +kernel
theorem dX12_upper_4 : decode cX12_upper 4 = .ok (.lreturn, 1) := by decide +kernel
theorem dX12_lower_0 : decode cX12_lower 0 = .ok (.aload_n 0, 1) := by decide +kernel
theorem dX12_lower_1 : decode cX12_lower 1 = .ok (.getfield 13, 3) := by decide +kernel
theorem dX12_lower_4 : decode cX12_lower 4 = .ok (.lreturn, 1) := by decide +kernel
theorem dX12_counts_0 : decode cX12_counts 0 = .ok (.iconst 0, 1) := by decide +kernel
theorem dX12_counts_1 : decode cX12_counts 1 = .ok (.istore_n 2, 1) := by decide +kernel
theorem dX12_counts_2 : decode cX12_counts 2 = .ok (.iload_n 1, 1) := by decide +kernel
theorem dX12_counts_3 : decode cX12_counts 3 = .ok (.tableswitch 126 0 5 #[37, 42, 47, 52, 57, 93], 37) := by decide +kernel
theorem dX12_counts_40 : decode cX12_counts 40 = .ok (.aload_n 0, 1) := by decide +kernel
theorem dX12_counts_41 : decode cX12_counts 41 = .ok (.getfield 125, 3) := by decide +kernel
theorem dX12_counts_44 : decode cX12_counts 44 = .ok (.ireturn, 1) := by decide +kernel
theorem dX12_counts_45 : decode cX12_counts 45 = .ok (.aload_n 0, 1) := by decide +kernel
theorem dX12_counts_46 : decode cX12_counts 46 = .ok (.getfield 128, 3) := by decide +kernel
theorem dX12_counts_49 : decode cX12_counts 49 = .ok (.ireturn, 1) := by decide +kernel
theorem dX12_counts_50 : decode cX12_counts 50 = .ok (.aload_n 0, 1) := by decide +kernel
theorem dX12_counts_51 : decode cX12_counts 51 = .ok (.getfield 131, 3) := by decide +kernel
theorem dX12_counts_54 : decode cX12_counts 54 = .ok (.ireturn, 1) := by decide +kernel
theorem dX12_counts_55 : decode cX12_counts 55 = .ok (.aload_n 0, 1) := by decide +kernel
theorem dX12_counts_56 : decode cX12_counts 56 = .ok (.getfield 265, 3) := by decide +kernel
theorem dX12_counts_59 : decode cX12_counts 59 = .ok (.ireturn, 1) := by decide +kernel
theorem dX12_counts_60 : decode cX12_counts 60 = .ok (.iconst 0, 1) := by decide +kernel
theorem dX12_counts_61 : decode cX12_counts 61 = .ok (.istore_n 3, 1) := by decide +kernel
theorem dX12_counts_62 : decode cX12_counts 62 = .ok (.iload_n 3, 1) := by decide +kernel
theorem dX12_counts_63 : decode cX12_counts 63 = .ok (.aload_n 0, 1) := by decide +kernel
theorem dX12_counts_64 : decode cX12_counts 64 = .ok (.getfield 265, 3) := by decide +kernel
theorem dX12_counts_67 : decode cX12_counts 67 = .ok (.if_icmp .ge 27, 3) := by decide +kernel
theorem dX12_counts_70 : decode cX12_counts 70 = .ok (.iload_n 2, 1) := by decide +kernel
theorem dX12_counts_71 : decode cX12_counts 71 = .ok (.aload_n 0, 1) := by decide +kernel
theorem dX12_counts_72 : decode cX12_counts 72 = .ok (.getfield 75, 3) := by decide +kernel
theorem dX12_counts_75 : decode cX12_counts 75 = .ok (.iload_n 3, 1) := by decide +kernel
theorem dX12_counts_76 : decode cX12_counts 76 = .ok (.iaload, 1) := by decide +kernel
theorem dX12_counts_77 : decode cX12_counts 77 = .ok (.iconst 1, 1) := by decide +kernel
theorem dX12_counts_78 : decode cX12_counts 78 = .ok (.if_icmp .ne 7, 3) := by decide +kernel
theorem dX12_counts_81 : decode cX12_counts 81 = .ok (.iconst 1, 1) := by decide +kernel
theorem dX12_counts_82 : decode cX12_counts 82 = .ok (.goto 4, 3) := by decide +kernel
theorem dX12_counts_85 : decode cX12_counts 85 = .ok (.iconst 0, 1) := by decide +kernel
theorem dX12_counts_86 : decode cX12_counts 86 = .ok (.iadd, 1) := by decide +kernel
theorem dX12_counts_87 : decode cX12_counts 87 = .ok (.istore_n 2, 1) := by decide +kernel
theorem dX12_counts_88 : decode cX12_counts 88 = .ok (.iinc 3 1, 3) := by decide +kernel
theorem dX12_counts_91 : decode cX12_counts 91 = .ok (.goto (-29), 3) := by decide +kernel
theorem dX12_counts_94 : decode cX12_counts 94 = .ok (.iload_n 2, 1) := by decide +kernel
theorem dX12_counts_95 : decode cX12_counts 95 = .ok (.ireturn, 1) := by decide +kernel
theorem dX12_counts_96 : decode cX12_counts 96 = .ok (.iconst 0, 1) := by decide +kernel
theorem dX12_counts_97 : decode cX12_counts 97 = .ok (.istore_n 3, 1) := by decide +kernel
theorem dX12_counts_98 : decode cX12_counts 98 = .ok (.iload_n 3, 1) := by decide +kernel
theorem dX12_counts_99 : decode cX12_counts 99 = .ok (.bipush 6, 2) := by decide +kernel
theorem dX12_counts_101 : decode cX12_counts 101 = .ok (.if_icmp .ge 26, 3) := by decide +kernel
theorem dX12_counts_104 : decode cX12_counts 104 = .ok (.iload_n 2, 1) := by decide +kernel
theorem dX12_counts_105 : decode cX12_counts 105 = .ok (.aload_n 0, 1) := by decide +kernel
theorem dX12_counts_106 : decode cX12_counts 106 = .ok (.getfield 17, 3) := by decide +kernel
theorem dX12_counts_109 : decode cX12_counts 109 = .ok (.iload_n 3, 1) := by decide +kernel
theorem dX12_counts_110 : decode cX12_counts 110 = .ok (.iaload, 1) := by decide +kernel
theorem dX12_counts_111 : decode cX12_counts 111 = .ok (.ifCond .lt 7, 3) := by decide +kernel
theorem dX12_counts_114 : decode cX12_counts 114 = .ok (.iconst 1, 1) := by decide +kernel
theorem dX12_counts_115 : decode cX12_counts 115 = .ok (.goto 4, 3) := by decide +kernel
theorem dX12_counts_118 : decode cX12_counts 118 = .ok (.iconst 0, 1) := by decide +kernel
theorem dX12_counts_119 : decode cX12_counts 119 = .ok (.iadd, 1) := by decide +kernel
theorem dX12_counts_120 : decode cX12_counts 120 = .ok (.istore_n 2, 1) := by decide +kernel
theorem dX12_counts_121 : decode cX12_counts 121 = .ok (.iinc 3 1, 3) := by decide +kernel
theorem dX12_counts_124 : decode cX12_counts 124 = .ok (.goto (-26), 3) := by decide +kernel
theorem dX12_counts_127 : decode cX12_counts 127 = .ok (.iload_n 2, 1) := by decide +kernel
theorem dX12_counts_128 : decode cX12_counts 128 = .ok (.ireturn, 1) := by decide +kernel
theorem dX12_counts_129 : decode cX12_counts 129 = .ok (.iconst 0, 1) := by decide +kernel
theorem dX12_counts_130 : decode cX12_counts 130 = .ok (.istore_n 3, 1) := by decide +kernel
theorem dX12_counts_131 : decode cX12_counts 131 = .ok (.iload_n 3, 1) := by decide +kernel
theorem dX12_counts_132 : decode cX12_counts 132 = .ok (.iconst 4, 1) := by decide +kernel
theorem dX12_counts_133 : decode cX12_counts 133 = .ok (.if_icmp .ge 26, 3) := by decide +kernel
theorem dX12_counts_136 : decode cX12_counts 136 = .ok (.iload_n 2, 1) := by decide +kernel
theorem dX12_counts_137 : decode cX12_counts 137 = .ok (.aload_n 0, 1) := by decide +kernel
theorem dX12_counts_138 : decode cX12_counts 138 = .ok (.getfield 26, 3) := by decide +kernel
theorem dX12_counts_141 : decode cX12_counts 141 = .ok (.iload_n 3, 1) := by decide +kernel
theorem dX12_counts_142 : decode cX12_counts 142 = .ok (.iaload, 1) := by decide +kernel
theorem dX12_counts_143 : decode cX12_counts 143 = .ok (.ifCond .lt 7, 3) := by decide +kernel
theorem dX12_counts_146 : decode cX12_counts 146 = .ok (.iconst 1, 1) := by decide +kernel
theorem dX12_counts_147 : decode cX12_counts 147 = .ok (.goto 4, 3) := by decide +kernel
theorem dX12_counts_150 : decode cX12_counts 150 = .ok (.iconst 0, 1) := by decide +kernel
theorem dX12_counts_151 : decode cX12_counts 151 = .ok (.iadd, 1) := by decide +kernel
theorem dX12_counts_152 : decode cX12_counts 152 = .ok (.istore_n 2, 1) := by decide +kernel
theorem dX12_counts_153 : decode cX12_counts 153 = .ok (.iinc 3 1, 3) := by decide +kernel
end
section
theorem dX12_counts_156 : decode cX12_counts 156 = .ok (.goto (-25), 3) := by decide +kernel
theorem dX12_counts_159 : decode cX12_counts 159 = .ok (.iload_n 2, 1) := by decide +kernel
theorem dX12_counts_160 : decode cX12_counts 160 = .ok (.ireturn, 1) := by decide +kernel
theorem dX12_count_0 : decode cX12_count 0 = .ok (.iload_n 1, 1) := by decide +kernel
theorem dX12_count_1 : decode cX12_count 1 = .ok (.iconst 0, 1) := by decide +kernel
theorem dX12_count_2 : decode cX12_count 2 = .ok (.bipush 6, 2) := by decide +kernel
theorem dX12_count_4 : decode cX12_count 4 = .ok (.invokestatic 97, 3) := by decide +kernel
theorem dX12_count_7 : decode cX12_count 7 = .ok (.ifCond .eq 11, 3) := by decide +kernel
theorem dX12_count_10 : decode cX12_count 10 = .ok (.aload_n 0, 1) := by decide +kernel
theorem dX12_count_11 : decode cX12_count 11 = .ok (.iload_n 1, 1) := by decide +kernel
theorem dX12_count_12 : decode cX12_count 12 = .ok (.invokevirtual 283, 3) := by decide +kernel
theorem dX12_count_15 : decode cX12_count 15 = .ok (.goto 4, 3) := by decide +kernel
theorem dX12_count_18 : decode cX12_count 18 = .ok (.iconst (-1), 1) := by decide +kernel
theorem dX12_count_19 : decode cX12_count 19 = .ok (.ireturn, 1) := by decide +kernel
theorem dX12_finding_0 : decode cX12_finding 0 = .ok (.aload_n 0, 1) := by decide +kernel
theorem dX12_finding_1 : decode cX12_finding 1 = .ok (.getfield 90, 3) := by decide +kernel
theorem dX12_finding_4 : decode cX12_finding 4 = .ok (.ireturn, 1) := by decide +kernel
theorem dX12_findings_0 : decode cX12_findings 0 = .ok (.iload_n 1, 1) := by decide +kernel
theorem dX12_findings_1 : decode cX12_findings 1 = .ok (.iconst 1, 1) := by decide +kernel
theorem dX12_findings_2 : decode cX12_findings 2 = .ok (.iconst 5, 1) := by decide +kernel
theorem dX12_findings_3 : decode cX12_findings 3 = .ok (.invokestatic 97, 3) := by decide +kernel
theorem dX12_findings_6 : decode cX12_findings 6 = .ok (.ifCond .eq 12, 3) := by decide +kernel
theorem dX12_findings_9 : decode cX12_findings 9 = .ok (.aload_n 0, 1) := by decide +kernel
theorem dX12_findings_10 : decode cX12_findings 10 = .ok (.getfield 7, 3) := by decide +kernel
theorem dX12_findings_13 : decode cX12_findings 13 = .ok (.iload_n 1, 1) := by decide +kernel
theorem dX12_findings_14 : decode cX12_findings 14 = .ok (.iaload, 1) := by decide +kernel
theorem dX12_findings_15 : decode cX12_findings 15 = .ok (.goto 4, 3) := by decide +kernel
theorem dX12_findings_18 : decode cX12_findings 18 = .ok (.iconst (-1), 1) := by decide +kernel
theorem dX12_findings_19 : decode cX12_findings 19 = .ok (.ireturn, 1) := by decide +kernel
theorem dX12_mix_0 : decode cX12_mix 0 = .ok (.aload_n 0, 1) := by decide +kernel
theorem dX12_mix_1 : decode cX12_mix 1 = .ok (.ldc2_w 286, 3) := by decide +kernel
theorem dX12_mix_4 : decode cX12_mix 4 = .ok (.aload_n 0, 1) := by decide +kernel
theorem dX12_mix_5 : decode cX12_mix 5 = .ok (.getfield 288, 3) := by decide +kernel
theorem dX12_mix_8 : decode cX12_mix 8 = .ok (.lmul, 1) := by decide +kernel
theorem dX12_mix_9 : decode cX12_mix 9 = .ok (.iload_n 1, 1) := by decide +kernel
theorem dX12_mix_10 : decode cX12_mix 10 = .ok (.i2l, 1) := by decide +kernel
theorem dX12_mix_11 : decode cX12_mix 11 = .ok (.ladd, 1) := by decide +kernel
theorem dX12_mix_12 : decode cX12_mix 12 = .ok (.putfield 288, 3) := by decide +kernel
theorem dX12_mix_15 : decode cX12_mix 15 = .ok (.return_, 1) := by decide +kernel
theorem dX12_mixSayings_0 : decode cX12_mixSayings 0 = .ok (.iconst 0, 1) := by decide +kernel
theorem dX12_mixSayings_1 : decode cX12_mixSayings 1 = .ok (.istore_n 1, 1) := by decide +kernel
theorem dX12_mixSayings_2 : decode cX12_mixSayings 2 = .ok (.iload_n 1, 1) := by decide +kernel
theorem dX12_mixSayings_3 : decode cX12_mixSayings 3 = .ok (.aload_n 0, 1) := by decide +kernel
theorem dX12_mixSayings_4 : decode cX12_mixSayings 4 = .ok (.getfield 125, 3) := by decide +kernel
theorem dX12_mixSayings_7 : decode cX12_mixSayings 7 = .ok (.if_icmp .ge 19, 3) := by decide +kernel
theorem dX12_mixSayings_10 : decode cX12_mixSayings 10 = .ok (.aload_n 0, 1) := by decide +kernel
theorem dX12_mixSayings_11 : decode cX12_mixSayings 11 = .ok (.aload_n 0, 1) := by decide +kernel
theorem dX12_mixSayings_12 : decode cX12_mixSayings 12 = .ok (.getfield 32, 3) := by decide +kernel
theorem dX12_mixSayings_15 : decode cX12_mixSayings 15 = .ok (.iload_n 1, 1) := by decide +kernel
theorem dX12_mixSayings_16 : decode cX12_mixSayings 16 = .ok (.iaload, 1) := by decide +kernel
theorem dX12_mixSayings_17 : decode cX12_mixSayings 17 = .ok (.invokevirtual 291, 3) := by decide +kernel
theorem dX12_mixSayings_20 : decode cX12_mixSayings 20 = .ok (.iinc 1 1, 3) := by decide +kernel
theorem dX12_mixSayings_23 : decode cX12_mixSayings 23 = .ok (.goto (-21), 3) := by decide +kernel
theorem dX12_mixSayings_26 : decode cX12_mixSayings 26 = .ok (.iconst 0, 1) := by decide +kernel
theorem dX12_mixSayings_27 : decode cX12_mixSayings 27 = .ok (.istore_n 1, 1) := by decide +kernel
theorem dX12_mixSayings_28 : decode cX12_mixSayings 28 = .ok (.iload_n 1, 1) := by decide +kernel
theorem dX12_mixSayings_29 : decode cX12_mixSayings 29 = .ok (.aload_n 0, 1) := by decide +kernel
theorem dX12_mixSayings_30 : decode cX12_mixSayings 30 = .ok (.getfield 128, 3) := by decide +kernel
theorem dX12_mixSayings_33 : decode cX12_mixSayings 33 = .ok (.if_icmp .ge 32, 3) := by decide +kernel
theorem dX12_mixSayings_36 : decode cX12_mixSayings 36 = .ok (.iconst 0, 1) := by decide +kernel
theorem dX12_mixSayings_37 : decode cX12_mixSayings 37 = .ok (.istore_n 2, 1) := by decide +kernel
theorem dX12_mixSayings_38 : decode cX12_mixSayings 38 = .ok (.iload_n 2, 1) := by decide +kernel
theorem dX12_mixSayings_39 : decode cX12_mixSayings 39 = .ok (.iconst 4, 1) := by decide +kernel
theorem dX12_mixSayings_40 : decode cX12_mixSayings 40 = .ok (.if_icmp .gt 19, 3) := by decide +kernel
theorem dX12_mixSayings_43 : decode cX12_mixSayings 43 = .ok (.aload_n 0, 1) := by decide +kernel
theorem dX12_mixSayings_44 : decode cX12_mixSayings 44 = .ok (.aload_n 0, 1) := by decide +kernel
theorem dX12_mixSayings_45 : decode cX12_mixSayings 45 = .ok (.iload_n 1, 1) := by decide +kernel
theorem dX12_mixSayings_46 : decode cX12_mixSayings 46 = .ok (.iload_n 2, 1) := by decide +kernel
theorem dX12_mixSayings_47 : decode cX12_mixSayings 47 = .ok (.invokevirtual 166, 3) := by decide +kernel
theorem dX12_mixSayings_50 : decode cX12_mixSayings 50 = .ok (.invokevirtual 291, 3) := by decide +kernel
theorem dX12_mixSayings_53 : decode cX12_mixSayings 53 = .ok (.iinc 2 1, 3) := by decide +kernel
theorem dX12_mixSayings_56 : decode cX12_mixSayings 56 = .ok (.goto (-18), 3) := by decide +kernel
theorem dX12_mixSayings_59 : decode cX12_mixSayings 59 = .ok (.iinc 1 1, 3) := by decide +kernel
theorem dX12_mixSayings_62 : decode cX12_mixSayings 62 = .ok (.goto (-34), 3) := by decide +kernel
theorem dX12_mixSayings_65 : decode cX12_mixSayings 65 = .ok (.iconst 0, 1) := by decide +kernel
theorem dX12_mixSayings_66 : decode cX12_mixSayings 66 = .ok (.istore_n 1, 1) := by decide +kernel
theorem dX12_mixSayings_67 : decode cX12_mixSayings 67 = .ok (.iload_n 1, 1) := by decide +kernel
theorem dX12_mixSayings_68 : decode cX12_mixSayings 68 = .ok (.aload_n 0, 1) := by decide +kernel
theorem dX12_mixSayings_69 : decode cX12_mixSayings 69 = .ok (.getfield 131, 3) := by decide +kernel
theorem dX12_mixSayings_72 : decode cX12_mixSayings 72 = .ok (.if_icmp .ge 59, 3) := by decide +kernel
theorem dX12_mixSayings_75 : decode cX12_mixSayings 75 = .ok (.iconst 0, 1) := by decide +kernel
theorem dX12_mixSayings_76 : decode cX12_mixSayings 76 = .ok (.istore_n 2, 1) := by decide +kernel
theorem dX12_mixSayings_77 : decode cX12_mixSayings 77 = .ok (.iload_n 2, 1) := by decide +kernel
theorem dX12_mixSayings_78 : decode cX12_mixSayings 78 = .ok (.iconst 4, 1) := by decide +kernel
theorem dX12_mixSayings_79 : decode cX12_mixSayings 79 = .ok (.if_icmp .gt 19, 3) := by decide +kernel
theorem dX12_mixSayings_82 : decode cX12_mixSayings 82 = .ok (.aload_n 0, 1) := by decide +kernel
theorem dX12_mixSayings_83 : decode cX12_mixSayings 83 = .ok (.aload_n 0, 1) := by decide +kernel
theorem dX12_mixSayings_84 : decode cX12_mixSayings 84 = .ok (.iload_n 1, 1) := by decide +kernel
theorem dX12_mixSayings_85 : decode cX12_mixSayings 85 = .ok (.iload_n 2, 1) := by decide +kernel
theorem dX12_mixSayings_86 : decode cX12_mixSayings 86 = .ok (.invokevirtual 160, 3) := by decide +kernel
theorem dX12_mixSayings_89 : decode cX12_mixSayings 89 = .ok (.invokevirtual 291, 3) := by decide +kernel
theorem dX12_mixSayings_92 : decode cX12_mixSayings 92 = .ok (.iinc 2 1, 3) := by decide +kernel
theorem dX12_mixSayings_95 : decode cX12_mixSayings 95 = .ok (.goto (-18), 3) := by decide +kernel
theorem dX12_mixSayings_98 : decode cX12_mixSayings 98 = .ok (.iconst 0, 1) := by decide +kernel
theorem dX12_mixSayings_99 : decode cX12_mixSayings 99 = .ok (.istore_n 2, 1) := by decide +kernel
theorem dX12_mixSayings_100 : decode cX12_mixSayings 100 = .ok (.iload_n 2, 1) := by decide +kernel
theorem dX12_mixSayings_101 : decode cX12_mixSayings 101 = .ok (.iconst 5, 1) := by decide +kernel
theorem dX12_mixSayings_102 : decode cX12_mixSayings 102 = .ok (.if_icmp .ge 23, 3) := by decide +kernel
theorem dX12_mixSayings_105 : decode cX12_mixSayings 105 = .ok (.aload_n 0, 1) := by decide +kernel
theorem dX12_mixSayings_106 : decode cX12_mixSayings 106 = .ok (.aload_n 0, 1) := by decide +kernel
theorem dX12_mixSayings_107 : decode cX12_mixSayings 107 = .ok (.getfield 59, 3) := by decide +kernel
theorem dX12_mixSayings_110 : decode cX12_mixSayings 110 = .ok (.iconst 5, 1) := by decide +kernel
theorem dX12_mixSayings_111 : decode cX12_mixSayings 111 = .ok (.iload_n 1, 1) := by decide +kernel
theorem dX12_mixSayings_112 : decode cX12_mixSayings 112 = .ok (.imul, 1) := by decide +kernel
theorem dX12_mixSayings_113 : decode cX12_mixSayings 113 = .ok (.iload_n 2, 1) := by decide +kernel
theorem dX12_mixSayings_114 : decode cX12_mixSayings 114 = .ok (.iadd, 1) := by decide +kernel
theorem dX12_mixSayings_115 : decode cX12_mixSayings 115 = .ok (.iaload, 1) := by decide +kernel
theorem dX12_mixSayings_116 : decode cX12_mixSayings 116 = .ok (.invokevirtual 291, 3) := by decide +kernel
theorem dX12_mixSayings_119 : decode cX12_mixSayings 119 = .ok (.iinc 2 1, 3) := by decide +kernel
theorem dX12_mixSayings_122 : decode cX12_mixSayings 122 = .ok (.goto (-22), 3) := by decide +kernel
theorem dX12_mixSayings_125 : decode cX12_mixSayings 125 = .ok (.iinc 1 1, 3) := by decide +kernel
theorem dX12_mixSayings_128 : decode cX12_mixSayings 128 = .ok (.goto (-61), 3) := by decide +kernel
theorem dX12_mixSayings_131 : decode cX12_mixSayings 131 = .ok (.return_, 1) := by decide +kernel
theorem dX12_digest_0 : decode cX12_digest 0 = .ok (.aload_n 0, 1) := by decide +kernel
theorem dX12_digest_1 : decode cX12_digest 1 = .ok (.ldc2_w 294, 3) := by decide +kernel
theorem dX12_digest_4 : decode cX12_digest 4 = .ok (.putfield 288, 3) := by decide +kernel
theorem dX12_digest_7 : decode cX12_digest 7 = .ok (.iconst 0, 1) := by decide +kernel
theorem dX12_digest_8 : decode cX12_digest 8 = .ok (.istore_n 1, 1) := by decide +kernel
theorem dX12_digest_9 : decode cX12_digest 9 = .ok (.iload_n 1, 1) := by decide +kernel
theorem dX12_digest_10 : decode cX12_digest 10 = .ok (.bipush 6, 2) := by decide +kernel
theorem dX12_digest_12 : decode cX12_digest 12 = .ok (.if_icmp .gt 18, 3) := by decide +kernel
theorem dX12_digest_15 : decode cX12_digest 15 = .ok (.aload_n 0, 1) := by decide +kernel
theorem dX12_digest_16 : decode cX12_digest 16 = .ok (.aload_n 0, 1) := by decide +kernel
theorem dX12_digest_17 : decode cX12_digest 17 = .ok (.iload_n 1, 1) := by decide +kernel
theorem dX12_digest_18 : decode cX12_digest 18 = .ok (.invokevirtual 283, 3) := by decide +kernel
theorem dX12_digest_21 : decode cX12_digest 21 = .ok (.invokevirtual 291, 3) := by decide +kernel
theorem dX12_digest_24 : decode cX12_digest 24 = .ok (.iinc 1 1, 3) := by decide +kernel
theorem dX12_digest_27 : decode cX12_digest 27 = .ok (.goto (-18), 3) := by decide +kernel
theorem dX12_digest_30 : decode cX12_digest 30 = .ok (.aload_n 0, 1) := by decide +kernel
theorem dX12_digest_31 : decode cX12_digest 31 = .ok (.invokevirtual 296, 3) := by decide +kernel
theorem dX12_digest_34 : decode cX12_digest 34 = .ok (.iconst 0, 1) := by decide +kernel
theorem dX12_digest_35 : decode cX12_digest 35 = .ok (.istore_n 1, 1) := by decide +kernel
theorem dX12_digest_36 : decode cX12_digest 36 = .ok (.iload_n 1, 1) := by decide +kernel
theorem dX12_digest_37 : decode cX12_digest 37 = .ok (.iconst 3, 1) := by decide +kernel
theorem dX12_digest_38 : decode cX12_digest 38 = .ok (.if_icmp .ge 19, 3) := by decide +kernel
theorem dX12_digest_41 : decode cX12_digest 41 = .ok (.aload_n 0, 1) := by decide +kernel
theorem dX12_digest_42 : decode cX12_digest 42 = .ok (.aload_n 0, 1) := by decide +kernel
theorem dX12_digest_43 : decode cX12_digest 43 = .ok (.getfield 62, 3) := by decide +kernel
theorem dX12_digest_46 : decode cX12_digest 46 = .ok (.iload_n 1, 1) := by decide +kernel
theorem dX12_digest_47 : decode cX12_digest 47 = .ok (.iaload, 1) := by decide +kernel
theorem dX12_digest_48 : decode cX12_digest 48 = .ok (.invokevirtual 291, 3) := by decide +kernel
theorem dX12_digest_51 : decode cX12_digest 51 = .ok (.iinc 1 1, 3) := by decide +kernel
theorem dX12_digest_54 : decode cX12_digest 54 = .ok (.goto (-18), 3) := by decide +kernel
theorem dX12_digest_57 : decode cX12_digest 57 = .ok (.iconst 0, 1) := by decide +kernel
theorem dX12_digest_58 : decode cX12_digest 58 = .ok (.istore_n 1, 1) := by decide +kernel
theorem dX12_digest_59 : decode cX12_digest 59 = .ok (.iload_n 1, 1) := by decide +kernel
theorem dX12_digest_60 : decode cX12_digest 60 = .ok (.aload_n 0, 1) := by decide +kernel
theorem dX12_digest_61 : decode cX12_digest 61 = .ok (.getfield 265, 3) := by decide +kernel
theorem dX12_digest_64 : decode cX12_digest 64 = .ok (.if_icmp .ge 32, 3) := by decide +kernel
theorem dX12_digest_67 : decode cX12_digest 67 = .ok (.iconst 0, 1) := by decide +kernel
theorem dX12_digest_68 : decode cX12_digest 68 = .ok (.istore_n 2, 1) := by decide +kernel
theorem dX12_digest_69 : decode cX12_digest 69 = .ok (.iload_n 2, 1) := by decide +kernel
theorem dX12_digest_70 : decode cX12_digest 70 = .ok (.iconst 2, 1) := by decide +kernel
theorem dX12_digest_71 : decode cX12_digest 71 = .ok (.if_icmp .gt 19, 3) := by decide +kernel
theorem dX12_digest_74 : decode cX12_digest 74 = .ok (.aload_n 0, 1) := by decide +kernel
theorem dX12_digest_75 : decode cX12_digest 75 = .ok (.aload_n 0, 1) := by decide +kernel
theorem dX12_digest_76 : decode cX12_digest 76 = .ok (.iload_n 1, 1) := by decide +kernel
theorem dX12_digest_77 : decode cX12_digest 77 = .ok (.iload_n 2, 1) := by decide +kernel
theorem dX12_digest_78 : decode cX12_digest 78 = .ok (.invokevirtual 268, 3) := by decide +kernel
theorem dX12_digest_81 : decode cX12_digest 81 = .ok (.invokevirtual 291, 3) := by decide +kernel
theorem dX12_digest_84 : decode cX12_digest 84 = .ok (.iinc 2 1, 3) := by decide +kernel
theorem dX12_digest_87 : decode cX12_digest 87 = .ok (.goto (-18), 3) := by decide +kernel
theorem dX12_digest_90 : decode cX12_digest 90 = .ok (.iinc 1 1, 3) := by decide +kernel
theorem dX12_digest_93 : decode cX12_digest 93 = .ok (.goto (-34), 3) := by decide +kernel
theorem dX12_digest_96 : decode cX12_digest 96 = .ok (.iconst 0, 1) := by decide +kernel
theorem dX12_digest_97 : decode cX12_digest 97 = .ok (.istore_n 1, 1) := by decide +kernel
theorem dX12_digest_98 : decode cX12_digest 98 = .ok (.iload_n 1, 1) := by decide +kernel
theorem dX12_digest_99 : decode cX12_digest 99 = .ok (.bipush 6, 2) := by decide +kernel
theorem dX12_digest_101 : decode cX12_digest 101 = .ok (.if_icmp .ge 60, 3) := by decide +kernel
theorem dX12_digest_104 : decode cX12_digest 104 = .ok (.aload_n 0, 1) := by decide +kernel
theorem dX12_digest_105 : decode cX12_digest 105 = .ok (.aload_n 0, 1) := by decide +kernel
theorem dX12_digest_106 : decode cX12_digest 106 = .ok (.getfield 17, 3) := by decide +kernel
theorem dX12_digest_109 : decode cX12_digest 109 = .ok (.iload_n 1, 1) := by decide +kernel
theorem dX12_digest_110 : decode cX12_digest 110 = .ok (.iaload, 1) := by decide +kernel
theorem dX12_digest_111 : decode cX12_digest 111 = .ok (.ifCond .ge 7, 3) := by decide +kernel
theorem dX12_digest_114 : decode cX12_digest 114 = .ok (.iconst (-1), 1) := by decide +kernel
theorem dX12_digest_115 : decode cX12_digest 115 = .ok (.goto 9, 3) := by decide +kernel
theorem dX12_digest_118 : decode cX12_digest 118 = .ok (.aload_n 0, 1) := by decide +kernel
theorem dX12_digest_119 : decode cX12_digest 119 = .ok (.getfield 17, 3) := by decide +kernel
theorem dX12_digest_122 : decode cX12_digest 122 = .ok (.iload_n 1, 1) := by decide +kernel
theorem dX12_digest_123 : decode cX12_digest 123 = .ok (.iaload, 1) := by decide +kernel
theorem dX12_digest_124 : decode cX12_digest 124 = .ok (.invokevirtual 291, 3) := by decide +kernel
theorem dX12_digest_127 : decode cX12_digest 127 = .ok (.iconst 0, 1) := by decide +kernel
theorem dX12_digest_128 : decode cX12_digest 128 = .ok (.istore_n 2, 1) := by decide +kernel
theorem dX12_digest_129 : decode cX12_digest 129 = .ok (.iload_n 2, 1) := by decide +kernel
theorem dX12_digest_130 : decode cX12_digest 130 = .ok (.aload_n 0, 1) := by decide +kernel
theorem dX12_digest_131 : decode cX12_digest 131 = .ok (.getfield 17, 3) := by decide +kernel
theorem dX12_digest_134 : decode cX12_digest 134 = .ok (.iload_n 1, 1) := by decide +kernel
theorem dX12_digest_135 : decode cX12_digest 135 = .ok (.iaload, 1) := by decide +kernel
theorem dX12_digest_136 : decode cX12_digest 136 = .ok (.if_icmp .ge 19, 3) := by decide +kernel
theorem dX12_digest_139 : decode cX12_digest 139 = .ok (.aload_n 0, 1) := by decide +kernel
theorem dX12_digest_140 : decode cX12_digest 140 = .ok (.aload_n 0, 1) := by decide +kernel
theorem dX12_digest_141 : decode cX12_digest 141 = .ok (.iload_n 1, 1) := by decide +kernel
theorem dX12_digest_142 : decode cX12_digest 142 = .ok (.iload_n 2, 1) := by decide +kernel
theorem dX12_digest_143 : decode cX12_digest 143 = .ok (.invokevirtual 115, 3) := by decide +kernel
theorem dX12_digest_146 : decode cX12_digest 146 = .ok (.invokevirtual 291, 3) := by decide +kernel
theorem dX12_digest_149 : decode cX12_digest 149 = .ok (.iinc 2 1, 3) := by decide +kernel
theorem dX12_digest_152 : decode cX12_digest 152 = .ok (.goto (-23), 3) := by decide +kernel
theorem dX12_digest_155 : decode cX12_digest 155 = .ok (.iinc 1 1, 3) := by decide +kernel
theorem dX12_digest_158 : decode cX12_digest 158 = .ok (.goto (-60), 3) := by decide +kernel
theorem dX12_digest_161 : decode cX12_digest 161 = .ok (.iconst 0, 1) := by decide +kernel
theorem dX12_digest_162 : decode cX12_digest 162 = .ok (.istore_n 1, 1) := by decide +kernel
theorem dX12_digest_163 : decode cX12_digest 163 = .ok (.iload_n 1, 1) := by decide +kernel
theorem dX12_digest_164 : decode cX12_digest 164 = .ok (.iconst 4, 1) := by decide +kernel
theorem dX12_digest_165 : decode cX12_digest 165 = .ok (.if_icmp .ge 65, 3) := by decide +kernel
theorem dX12_digest_168 : decode cX12_digest 168 = .ok (.aload_n 0, 1) := by decide +kernel
theorem dX12_digest_169 : decode cX12_digest 169 = .ok (.aload_n 0, 1) := by decide +kernel
theorem dX12_digest_170 : decode cX12_digest 170 = .ok (.getfield 26, 3) := by decide +kernel
theorem dX12_digest_173 : decode cX12_digest 173 = .ok (.iload_n 1, 1) := by decide +kernel
theorem dX12_digest_174 : decode cX12_digest 174 = .ok (.iaload, 1) := by decide +kernel
theorem dX12_digest_175 : decode cX12_digest 175 = .ok (.ifCond .ge 7, 3) := by decide +kernel
theorem dX12_digest_178 : decode cX12_digest 178 = .ok (.iconst (-1), 1) := by decide +kernel
theorem dX12_digest_179 : decode cX12_digest 179 = .ok (.goto 9, 3) := by decide +kernel
theorem dX12_digest_182 : decode cX12_digest 182 = .ok (.aload_n 0, 1) := by decide +kernel
theorem dX12_digest_183 : decode cX12_digest 183 = .ok (.getfield 26, 3) := by decide +kernel
theorem dX12_digest_186 : decode cX12_digest 186 = .ok (.iload_n 1, 1) := by decide +kernel
theorem dX12_digest_187 : decode cX12_digest 187 = .ok (.iaload, 1) := by decide +kernel
theorem dX12_digest_188 : decode cX12_digest 188 = .ok (.invokevirtual 291, 3) := by decide +kernel
theorem dX12_digest_191 : decode cX12_digest 191 = .ok (.iconst 0, 1) := by decide +kernel
theorem dX12_digest_192 : decode cX12_digest 192 = .ok (.istore_n 2, 1) := by decide +kernel
theorem dX12_digest_193 : decode cX12_digest 193 = .ok (.iload_n 2, 1) := by decide +kernel
theorem dX12_digest_194 : decode cX12_digest 194 = .ok (.aload_n 0, 1) := by decide +kernel
theorem dX12_digest_195 : decode cX12_digest 195 = .ok (.getfield 26, 3) := by decide +kernel
theorem dX12_digest_198 : decode cX12_digest 198 = .ok (.iload_n 1, 1) := by decide +kernel
theorem dX12_digest_199 : decode cX12_digest 199 = .ok (.iaload, 1) := by decide +kernel
theorem dX12_digest_200 : decode cX12_digest 200 = .ok (.if_icmp .ge 24, 3) := by decide +kernel
theorem dX12_digest_203 : decode cX12_digest 203 = .ok (.aload_n 0, 1) := by decide +kernel
theorem dX12_digest_204 : decode cX12_digest 204 = .ok (.aload_n 0, 1) := by decide +kernel
theorem dX12_digest_205 : decode cX12_digest 205 = .ok (.getfield 29, 3) := by decide +kernel
theorem dX12_digest_208 : decode cX12_digest 208 = .ok (.bipush 40, 2) := by decide +kernel
theorem dX12_digest_210 : decode cX12_digest 210 = .ok (.iload_n 1, 1) := by decide +kernel
theorem dX12_digest_211 : decode cX12_digest 211 = .ok (.imul, 1) := by decide +kernel
theorem dX12_digest_212 : decode cX12_digest 212 = .ok (.iload_n 2, 1) := by decide +kernel
theorem dX12_digest_213 : decode cX12_digest 213 = .ok (.iadd, 1) := by decide +kernel
theorem dX12_digest_214 : decode cX12_digest 214 = .ok (.iaload, 1) := by decide +kernel
theorem dX12_digest_215 : decode cX12_digest 215 = .ok (.invokevirtual 291, 3) := by decide +kernel
theorem dX12_digest_218 : decode cX12_digest 218 = .ok (.iinc 2 1, 3) := by decide +kernel
theorem dX12_digest_221 : decode cX12_digest 221 = .ok (.goto (-28), 3) := by decide +kernel
theorem dX12_digest_224 : decode cX12_digest 224 = .ok (.iinc 1 1, 3) := by decide +kernel
theorem dX12_digest_227 : decode cX12_digest 227 = .ok (.goto (-64), 3) := by decide +kernel
theorem dX12_digest_230 : decode cX12_digest 230 = .ok (.aload_n 0, 1) := by decide +kernel
theorem dX12_digest_231 : decode cX12_digest 231 = .ok (.getfield 288, 3) := by decide +kernel
theorem dX12_digest_234 : decode cX12_digest 234 = .ok (.lreturn, 1) := by decide +kernel
theorem dJ6_bitCount_0f7a4_0 : decode cJ6_bitCount_0f7a4 0 = .ok (.iload_n 0, 1) := by decide +kernel
theorem dJ6_bitCount_0f7a4_1 : decode cJ6_bitCount_0f7a4 1 = .ok (.iload_n 0, 1) := by decide +kernel
theorem dJ6_bitCount_0f7a4_2 : decode cJ6_bitCount_0f7a4 2 = .ok (.iconst 1, 1) := by decide +kernel
theorem dJ6_bitCount_0f7a4_3 : decode cJ6_bitCount_0f7a4 3 = .ok (.iushr, 1) := by decide +kernel
theorem dJ6_bitCount_0f7a4_4 : decode cJ6_bitCount_0f7a4 4 = .ok (.ldc_w 265, 3) := by decide +kernel
theorem dJ6_bitCount_0f7a4_7 : decode cJ6_bitCount_0f7a4 7 = .ok (.iand, 1) := by decide +kernel
theorem dJ6_bitCount_0f7a4_8 : decode cJ6_bitCount_0f7a4 8 = .ok (.isub, 1) := by decide +kernel
theorem dJ6_bitCount_0f7a4_9 : decode cJ6_bitCount_0f7a4 9 = .ok (.istore_n 0, 1) := by decide +kernel
theorem dJ6_bitCount_0f7a4_10 : decode cJ6_bitCount_0f7a4 10 = .ok (.iload_n 0, 1) := by decide +kernel
theorem dJ6_bitCount_0f7a4_11 : decode cJ6_bitCount_0f7a4 11 = .ok (.ldc_w 266, 3) := by decide +kernel
theorem dJ6_bitCount_0f7a4_14 : decode cJ6_bitCount_0f7a4 14 = .ok (.iand, 1) := by decide +kernel
theorem dJ6_bitCount_0f7a4_15 : decode cJ6_bitCount_0f7a4 15 = .ok (.iload_n 0, 1) := by decide +kernel
theorem dJ6_bitCount_0f7a4_16 : decode cJ6_bitCount_0f7a4 16 = .ok (.iconst 2, 1) := by decide +kernel
theorem dJ6_bitCount_0f7a4_17 : decode cJ6_bitCount_0f7a4 17 = .ok (.iushr, 1) := by decide +kernel
theorem dJ6_bitCount_0f7a4_18 : decode cJ6_bitCount_0f7a4 18 = .ok (.ldc_w 266, 3) := by decide +kernel
theorem dJ6_bitCount_0f7a4_21 : decode cJ6_bitCount_0f7a4 21 = .ok (.iand, 1) := by decide +kernel
theorem dJ6_bitCount_0f7a4_22 : decode cJ6_bitCount_0f7a4 22 = .ok (.iadd, 1) := by decide +kernel
theorem dJ6_bitCount_0f7a4_23 : decode cJ6_bitCount_0f7a4 23 = .ok (.istore_n 0, 1) := by decide +kernel
theorem dJ6_bitCount_0f7a4_24 : decode cJ6_bitCount_0f7a4 24 = .ok (.iload_n 0, 1) := by decide +kernel
theorem dJ6_bitCount_0f7a4_25 : decode cJ6_bitCount_0f7a4 25 = .ok (.iload_n 0, 1) := by decide +kernel
theorem dJ6_bitCount_0f7a4_26 : decode cJ6_bitCount_0f7a4 26 = .ok (.iconst 4, 1) := by decide +kernel
theorem dJ6_bitCount_0f7a4_27 : decode cJ6_bitCount_0f7a4 27 = .ok (.iushr, 1) := by decide +kernel
theorem dJ6_bitCount_0f7a4_28 : decode cJ6_bitCount_0f7a4 28 = .ok (.iadd, 1) := by decide +kernel
theorem dJ6_bitCount_0f7a4_29 : decode cJ6_bitCount_0f7a4 29 = .ok (.ldc_w 267, 3) := by decide +kernel
theorem dJ6_bitCount_0f7a4_32 : decode cJ6_bitCount_0f7a4 32 = .ok (.iand, 1) := by decide +kernel
theorem dJ6_bitCount_0f7a4_33 : decode cJ6_bitCount_0f7a4 33 = .ok (.istore_n 0, 1) := by decide +kernel
theorem dJ6_bitCount_0f7a4_34 : decode cJ6_bitCount_0f7a4 34 = .ok (.iload_n 0, 1) := by decide +kernel
theorem dJ6_bitCount_0f7a4_35 : decode cJ6_bitCount_0f7a4 35 = .ok (.iload_n 0, 1) := by decide +kernel
theorem dJ6_bitCount_0f7a4_36 : decode cJ6_bitCount_0f7a4 36 = .ok (.bipush 8, 2) := by decide +kernel
theorem dJ6_bitCount_0f7a4_38 : decode cJ6_bitCount_0f7a4 38 = .ok (.iushr, 1) := by decide +kernel
theorem dJ6_bitCount_0f7a4_39 : decode cJ6_bitCount_0f7a4 39 = .ok (.iadd, 1) := by decide +kernel
theorem dJ6_bitCount_0f7a4_40 : decode cJ6_bitCount_0f7a4 40 = .ok (.istore_n 0, 1) := by decide +kernel
theorem dJ6_bitCount_0f7a4_41 : decode cJ6_bitCount_0f7a4 41 = .ok (.iload_n 0, 1) := by decide +kernel
theorem dJ6_bitCount_0f7a4_42 : decode cJ6_bitCount_0f7a4 42 = .ok (.iload_n 0, 1) := by decide +kernel
theorem dJ6_bitCount_0f7a4_43 : decode cJ6_bitCount_0f7a4 43 = .ok (.bipush 16, 2) := by decide +kernel
theorem dJ6_bitCount_0f7a4_45 : decode cJ6_bitCount_0f7a4 45 = .ok (.iushr, 1) := by decide +kernel
theorem dJ6_bitCount_0f7a4_46 : decode cJ6_bitCount_0f7a4 46 = .ok (.iadd, 1) := by decide +kernel
theorem dJ6_bitCount_0f7a4_47 : decode cJ6_bitCount_0f7a4 47 = .ok (.istore_n 0, 1) := by decide +kernel
theorem dJ6_bitCount_0f7a4_48 : decode cJ6_bitCount_0f7a4 48 = .ok (.iload_n 0, 1) := by decide +kernel
theorem dJ6_bitCount_0f7a4_49 : decode cJ6_bitCount_0f7a4 49 = .ok (.bipush 63, 2) := by decide +kernel
theorem dJ6_bitCount_0f7a4_51 : decode cJ6_bitCount_0f7a4 51 = .ok (.iand, 1) := by decide +kernel
theorem dJ6_bitCount_0f7a4_52 : decode cJ6_bitCount_0f7a4 52 = .ok (.ireturn, 1) := by decide +kernel
theorem dJ9_abs_0f7a4_0 : decode cJ9_abs_0f7a4 0 = .ok (.iload_n 0, 1) := by decide +kernel
theorem dJ9_abs_0f7a4_1 : decode cJ9_abs_0f7a4 1 = .ok (.ifCond .ge 8, 3) := by decide +kernel
theorem dJ9_abs_0f7a4_4 : decode cJ9_abs_0f7a4 4 = .ok (.iload_n 0, 1) := by decide +kernel
theorem dJ9_abs_0f7a4_5 : decode cJ9_abs_0f7a4 5 = .ok (.ineg, 1) := by decide +kernel
theorem dJ9_abs_0f7a4_6 : decode cJ9_abs_0f7a4 6 = .ok (.goto 4, 3) := by decide +kernel
theorem dJ9_abs_0f7a4_9 : decode cJ9_abs_0f7a4 9 = .ok (.iload_n 0, 1) := by decide +kernel
theorem dJ9_abs_0f7a4_10 : decode cJ9_abs_0f7a4 10 = .ok (.ireturn, 1) := by decide +kernel
theorem dJ9_max_7cf53_0 : decode cJ9_max_7cf53 0 = .ok (.iload_n 0, 1) := by decide +kernel
theorem dJ9_max_7cf53_1 : decode cJ9_max_7cf53 1 = .ok (.iload_n 1, 1) := by decide +kernel
theorem dJ9_max_7cf53_2 : decode cJ9_max_7cf53 2 = .ok (.if_icmp .lt 7, 3) := by decide +kernel
theorem dJ9_max_7cf53_5 : decode cJ9_max_7cf53 5 = .ok (.iload_n 0, 1) := by decide +kernel
theorem dJ9_max_7cf53_6 : decode cJ9_max_7cf53 6 = .ok (.goto 4, 3) := by decide +kernel
theorem dJ9_max_7cf53_9 : decode cJ9_max_7cf53 9 = .ok (.iload_n 1, 1) := by decide +kernel
theorem dJ9_max_7cf53_10 : decode cJ9_max_7cf53 10 = .ok (.ireturn, 1) := by decide +kernel
theorem dJ9_min_7cf53_0 : decode cJ9_min_7cf53 0 = .ok (.iload_n 0, 1) := by decide +kernel
theorem dJ9_min_7cf53_1 : decode cJ9_min_7cf53 1 = .ok (.iload_n 1, 1) := by decide +kernel
theorem dJ9_min_7cf53_2 : decode cJ9_min_7cf53 2 = .ok (.if_icmp .gt 7, 3) := by decide +kernel
theorem dJ9_min_7cf53_5 : decode cJ9_min_7cf53 5 = .ok (.iload_n 0, 1) := by decide +kernel
theorem dJ9_min_7cf53_6 : decode cJ9_min_7cf53 6 = .ok (.goto 4, 3) := by decide +kernel
theorem dJ9_min_7cf53_9 : decode cJ9_min_7cf53 9 = .ok (.iload_n 1, 1) := by decide +kernel
theorem dJ9_min_7cf53_10 : decode cJ9_min_7cf53 10 = .ok (.ireturn, 1) := by decide +kernel
theorem dJ7_fill_53178_0 : decode cJ7_fill_53178 0 = .ok (.iconst 0, 1) := by decide +kernel
theorem dJ7_fill_53178_1 : decode cJ7_fill_53178 1 = .ok (.istore_n 2, 1) := by decide +kernel
theorem dJ7_fill_53178_2 : decode cJ7_fill_53178 2 = .ok (.aload_n 0, 1) := by decide +kernel
theorem dJ7_fill_53178_3 : decode cJ7_fill_53178 3 = .ok (.arraylength, 1) := by decide +kernel
theorem dJ7_fill_53178_4 : decode cJ7_fill_53178 4 = .ok (.istore_n 3, 1) := by decide +kernel
theorem dJ7_fill_53178_5 : decode cJ7_fill_53178 5 = .ok (.iload_n 2, 1) := by decide +kernel
theorem dJ7_fill_53178_6 : decode cJ7_fill_53178 6 = .ok (.iload_n 3, 1) := by decide +kernel
theorem dJ7_fill_53178_7 : decode cJ7_fill_53178 7 = .ok (.if_icmp .ge 13, 3) := by decide +kernel
theorem dJ7_fill_53178_10 : decode cJ7_fill_53178 10 = .ok (.aload_n 0, 1) := by decide +kernel
theorem dJ7_fill_53178_11 : decode cJ7_fill_53178 11 = .ok (.iload_n 2, 1) := by decide +kernel
theorem dJ7_fill_53178_12 : decode cJ7_fill_53178 12 = .ok (.iload_n 1, 1) := by decide +kernel
theorem dJ7_fill_53178_13 : decode cJ7_fill_53178 13 = .ok (.iastore, 1) := by decide +kernel
theorem dJ7_fill_53178_14 : decode cJ7_fill_53178 14 = .ok (.iinc 2 1, 3) := by decide +kernel
theorem dJ7_fill_53178_17 : decode cJ7_fill_53178 17 = .ok (.goto (-12), 3) := by decide +kernel
theorem dJ7_fill_53178_20 : decode cJ7_fill_53178 20 = .ok (.return_, 1) := by decide +kernel
theorem dJ7_fill_031fb_0 : decode cJ7_fill_031fb 0 = .ok (.iconst 0, 1) := by decide +kernel
theorem dJ7_fill_031fb_1 : decode cJ7_fill_031fb 1 = .ok (.istore_n 2, 1) := by decide +kernel
theorem dJ7_fill_031fb_2 : decode cJ7_fill_031fb 2 = .ok (.aload_n 0, 1) := by decide +kernel
theorem dJ7_fill_031fb_3 : decode cJ7_fill_031fb 3 = .ok (.arraylength, 1) := by decide +kernel
theorem dJ7_fill_031fb_4 : decode cJ7_fill_031fb 4 = .ok (.istore_n 3, 1) := by decide +kernel
theorem dJ7_fill_031fb_5 : decode cJ7_fill_031fb 5 = .ok (.iload_n 2, 1) := by decide +kernel
theorem dJ7_fill_031fb_6 : decode cJ7_fill_031fb 6 = .ok (.iload_n 3, 1) := by decide +kernel
theorem dJ7_fill_031fb_7 : decode cJ7_fill_031fb 7 = .ok (.if_icmp .ge 13, 3) := by decide +kernel
theorem dJ7_fill_031fb_10 : decode cJ7_fill_031fb 10 = .ok (.aload_n 0, 1) := by decide +kernel
theorem dJ7_fill_031fb_11 : decode cJ7_fill_031fb 11 = .ok (.iload_n 2, 1) := by decide +kernel
theorem dJ7_fill_031fb_12 : decode cJ7_fill_031fb 12 = .ok (.iload_n 1, 1) := by decide +kernel
theorem dJ7_fill_031fb_13 : decode cJ7_fill_031fb 13 = .ok (.bastore, 1) := by decide +kernel
theorem dJ7_fill_031fb_14 : decode cJ7_fill_031fb 14 = .ok (.iinc 2 1, 3) := by decide +kernel
theorem dJ7_fill_031fb_17 : decode cJ7_fill_031fb 17 = .ok (.goto (-12), 3) := by decide +kernel
theorem dJ7_fill_031fb_20 : decode cJ7_fill_031fb 20 = .ok (.return_, 1) := by decide +kernel
theorem dL_law_0 : decode cL_law 0 = .ok (.new 7, 3) := by decide +kernel
theorem dL_law_3 : decode cL_law 3 = .ok (.dup, 1) := by decide +kernel
theorem dL_law_4 : decode cL_law 4 = .ok (.invokespecial 9, 3) := by decide +kernel
theorem dL_law_7 : decode cL_law 7 = .ok (.astore_n 1, 1) := by decide +kernel
theorem dL_law_8 : decode cL_law 8 = .ok (.new 10, 3) := by decide +kernel
theorem dL_law_11 : decode cL_law 11 = .ok (.dup, 1) := by decide +kernel
theorem dL_law_12 : decode cL_law 12 = .ok (.invokespecial 12, 3) := by decide +kernel
theorem dL_law_15 : decode cL_law 15 = .ok (.astore_n 2, 1) := by decide +kernel
theorem dL_law_16 : decode cL_law 16 = .ok (.iconst 0, 1) := by decide +kernel
theorem dL_law_17 : decode cL_law 17 = .ok (.istore_n 3, 1) := by decide +kernel
theorem dL_law_18 : decode cL_law 18 = .ok (.iload_n 3, 1) := by decide +kernel
theorem dL_law_19 : decode cL_law 19 = .ok (.aload_n 0, 1) := by decide +kernel
theorem dL_law_20 : decode cL_law 20 = .ok (.arraylength, 1) := by decide +kernel
theorem dL_law_21 : decode cL_law 21 = .ok (.bipush 6, 2) := by decide +kernel
theorem dL_law_23 : decode cL_law 23 = .ok (.isub, 1) := by decide +kernel
theorem dL_law_24 : decode cL_law 24 = .ok (.if_icmp .gt 1710, 3) := by decide +kernel
theorem dL_law_27 : decode cL_law 27 = .ok (.aload_n 0, 1) := by decide +kernel
theorem dL_law_28 : decode cL_law 28 = .ok (.iload_n 3, 1) := by decide +kernel
theorem dL_law_29 : decode cL_law 29 = .ok (.iaload, 1) := by decide +kernel
theorem dL_law_30 : decode cL_law 30 = .ok (.bipush 63, 2) := by decide +kernel
theorem dL_law_32 : decode cL_law 32 = .ok (.iand, 1) := by decide +kernel
theorem dL_law_33 : decode cL_law 33 = .ok (.tableswitch 1695 0 50 #[219, 252, 295, 318, 381, 404, 437, 480, 503, 546, 609, 652, 685, 708, 741, 764, 787, 820, 853, 896, 929, 952, 975, 998, 1031, 1044, 1067, 1080, 1103, 1126, 1159, 1192, 1215, 1258, 1281, 1324, 1347, 1390, 1423, 1456, 1469, 1502, 1535, 1568, 1581, 1594, 1608, 1622, 1645, 1658, 1681], 219) := by decide +kernel
theorem dL_law_252 : decode cL_law 252 = .ok (.aload_n 1, 1) := by decide +kernel
theorem dL_law_253 : decode cL_law 253 = .ok (.aload_n 0, 1) := by decide +kernel
theorem dL_law_254 : decode cL_law 254 = .ok (.iload_n 3, 1) := by decide +kernel
theorem dL_law_255 : decode cL_law 255 = .ok (.iconst 1, 1) := by decide +kernel
theorem dL_law_256 : decode cL_law 256 = .ok (.iadd, 1) := by decide +kernel
theorem dL_law_257 : decode cL_law 257 = .ok (.iaload, 1) := by decide +kernel
theorem dL_law_258 : decode cL_law 258 = .ok (.aload_n 0, 1) := by decide +kernel
theorem dL_law_259 : decode cL_law 259 = .ok (.iload_n 3, 1) := by decide +kernel
theorem dL_law_260 : decode cL_law 260 = .ok (.iconst 2, 1) := by decide +kernel
theorem dL_law_261 : decode cL_law 261 = .ok (.iadd, 1) := by decide +kernel
theorem dL_law_262 : decode cL_law 262 = .ok (.iaload, 1) := by decide +kernel
theorem dL_law_263 : decode cL_law 263 = .ok (.invokevirtual 13, 3) := by decide +kernel
theorem dL_law_266 : decode cL_law 266 = .ok (.aload_n 2, 1) := by decide +kernel
theorem dL_law_267 : decode cL_law 267 = .ok (.aload_n 0, 1) := by decide +kernel
theorem dL_law_268 : decode cL_law 268 = .ok (.iload_n 3, 1) := by decide +kernel
theorem dL_law_269 : decode cL_law 269 = .ok (.iconst 1, 1) := by decide +kernel
theorem dL_law_270 : decode cL_law 270 = .ok (.iadd, 1) := by decide +kernel
theorem dL_law_271 : decode cL_law 271 = .ok (.iaload, 1) := by decide +kernel
theorem dL_law_272 : decode cL_law 272 = .ok (.aload_n 0, 1) := by decide +kernel
theorem dL_law_273 : decode cL_law 273 = .ok (.iload_n 3, 1) := by decide +kernel
theorem dL_law_274 : decode cL_law 274 = .ok (.iconst 2, 1) := by decide +kernel
theorem dL_law_275 : decode cL_law 275 = .ok (.iadd, 1) := by decide +kernel
theorem dL_law_276 : decode cL_law 276 = .ok (.iaload, 1) := by decide +kernel
theorem dL_law_277 : decode cL_law 277 = .ok (.invokevirtual 17, 3) := by decide +kernel
theorem dL_law_280 : decode cL_law 280 = .ok (.if_icmp .eq 1448, 3) := by decide +kernel
theorem dL_law_283 : decode cL_law 283 = .ok (.iconst 0, 1) := by decide +kernel
theorem dL_law_284 : decode cL_law 284 = .ok (.ireturn, 1) := by decide +kernel
theorem dL_law_285 : decode cL_law 285 = .ok (.aload_n 1, 1) := by decide +kernel
theorem dL_law_286 : decode cL_law 286 = .ok (.aload_n 0, 1) := by decide +kernel
theorem dL_law_287 : decode cL_law 287 = .ok (.iload_n 3, 1) := by decide +kernel
theorem dL_law_288 : decode cL_law 288 = .ok (.iconst 1, 1) := by decide +kernel
theorem dL_law_289 : decode cL_law 289 = .ok (.iadd, 1) := by decide +kernel
theorem dL_law_290 : decode cL_law 290 = .ok (.iaload, 1) := by decide +kernel
theorem dL_law_291 : decode cL_law 291 = .ok (.aload_n 0, 1) := by decide +kernel
theorem dL_law_292 : decode cL_law 292 = .ok (.iload_n 3, 1) := by decide +kernel
theorem dL_law_293 : decode cL_law 293 = .ok (.iconst 2, 1) := by decide +kernel
theorem dL_law_294 : decode cL_law 294 = .ok (.iadd, 1) := by decide +kernel
theorem dL_law_295 : decode cL_law 295 = .ok (.iaload, 1) := by decide +kernel
theorem dL_law_296 : decode cL_law 296 = .ok (.aload_n 0, 1) := by decide +kernel
theorem dL_law_297 : decode cL_law 297 = .ok (.iload_n 3, 1) := by decide +kernel
theorem dL_law_298 : decode cL_law 298 = .ok (.iconst 3, 1) := by decide +kernel
theorem dL_law_299 : decode cL_law 299 = .ok (.iadd, 1) := by decide +kernel
theorem dL_law_300 : decode cL_law 300 = .ok (.iaload, 1) := by decide +kernel
theorem dL_law_301 : decode cL_law 301 = .ok (.invokevirtual 18, 3) := by decide +kernel
theorem dL_law_304 : decode cL_law 304 = .ok (.aload_n 2, 1) := by decide +kernel
theorem dL_law_305 : decode cL_law 305 = .ok (.aload_n 0, 1) := by decide +kernel
theorem dL_law_306 : decode cL_law 306 = .ok (.iload_n 3, 1) := by decide +kernel
theorem dL_law_307 : decode cL_law 307 = .ok (.iconst 1, 1) := by decide +kernel
theorem dL_law_308 : decode cL_law 308 = .ok (.iadd, 1) := by decide +kernel
theorem dL_law_309 : decode cL_law 309 = .ok (.iaload, 1) := by decide +kernel
theorem dL_law_310 : decode cL_law 310 = .ok (.aload_n 0, 1) := by decide +kernel
theorem dL_law_311 : decode cL_law 311 = .ok (.iload_n 3, 1) := by decide +kernel
theorem dL_law_312 : decode cL_law 312 = .ok (.iconst 2, 1) := by decide +kernel
theorem dL_law_313 : decode cL_law 313 = .ok (.iadd, 1) := by decide +kernel
theorem dL_law_314 : decode cL_law 314 = .ok (.iaload, 1) := by decide +kernel
theorem dL_law_315 : decode cL_law 315 = .ok (.aload_n 0, 1) := by decide +kernel
theorem dL_law_316 : decode cL_law 316 = .ok (.iload_n 3, 1) := by decide +kernel
theorem dL_law_317 : decode cL_law 317 = .ok (.iconst 3, 1) := by decide +kernel
theorem dL_law_318 : decode cL_law 318 = .ok (.iadd, 1) := by decide +kernel
theorem dL_law_319 : decode cL_law 319 = .ok (.iaload, 1) := by decide +kernel
theorem dL_law_320 : decode cL_law 320 = .ok (.invokevirtual 22, 3) := by decide +kernel
theorem dL_law_323 : decode cL_law 323 = .ok (.if_icmp .eq 1405, 3) := by decide +kernel
theorem dL_law_326 : decode cL_law 326 = .ok (.iconst 0, 1) := by decide +kernel
theorem dL_law_327 : decode cL_law 327 = .ok (.ireturn, 1) := by decide +kernel
theorem dL_law_328 : decode cL_law 328 = .ok (.aload_n 1, 1) := by decide +kernel
theorem dL_law_329 : decode cL_law 329 = .ok (.aload_n 0, 1) := by decide +kernel
theorem dL_law_330 : decode cL_law 330 = .ok (.iload_n 3, 1) := by decide +kernel
theorem dL_law_331 : decode cL_law 331 = .ok (.iconst 1, 1) := by decide +kernel
theorem dL_law_332 : decode cL_law 332 = .ok (.iadd, 1) := by decide +kernel
theorem dL_law_333 : decode cL_law 333 = .ok (.iaload, 1) := by decide +kernel
theorem dL_law_334 : decode cL_law 334 = .ok (.invokevirtual 23, 3) := by decide +kernel
theorem dL_law_337 : decode cL_law 337 = .ok (.aload_n 2, 1) := by decide +kernel
theorem dL_law_338 : decode cL_law 338 = .ok (.aload_n 0, 1) := by decide +kernel
theorem dL_law_339 : decode cL_law 339 = .ok (.iload_n 3, 1) := by decide +kernel
theorem dL_law_340 : decode cL_law 340 = .ok (.iconst 1, 1) := by decide +kernel
theorem dL_law_341 : decode cL_law 341 = .ok (.iadd, 1) := by decide +kernel
theorem dL_law_342 : decode cL_law 342 = .ok (.iaload, 1) := by decide +kernel
theorem dL_law_343 : decode cL_law 343 = .ok (.invokevirtual 27, 3) := by decide +kernel
theorem dL_law_346 : decode cL_law 346 = .ok (.if_icmp .eq 1382, 3) := by decide +kernel
theorem dL_law_349 : decode cL_law 349 = .ok (.iconst 0, 1) := by decide +kernel
theorem dL_law_350 : decode cL_law 350 = .ok (.ireturn, 1) := by decide +kernel
theorem dL_law_351 : decode cL_law 351 = .ok (.aload_n 1, 1) := by decide +kernel
theorem dL_law_352 : decode cL_law 352 = .ok (.aload_n 0, 1) := by decide +kernel
theorem dL_law_353 : decode cL_law 353 = .ok (.iload_n 3, 1) := by decide +kernel
theorem dL_law_354 : decode cL_law 354 = .ok (.iconst 1, 1) := by decide +kernel
theorem dL_law_355 : decode cL_law 355 = .ok (.iadd, 1) := by decide +kernel
theorem dL_law_356 : decode cL_law 356 = .ok (.iaload, 1) := by decide +kernel
theorem dL_law_357 : decode cL_law 357 = .ok (.aload_n 0, 1) := by decide +kernel
theorem dL_law_358 : decode cL_law 358 = .ok (.iload_n 3, 1) := by decide +kernel
theorem dL_law_359 : decode cL_law 359 = .ok (.iconst 2, 1) := by decide +kernel
theorem dL_law_360 : decode cL_law 360 = .ok (.iadd, 1) := by decide +kernel
theorem dL_law_361 : decode cL_law 361 = .ok (.iaload, 1) := by decide +kernel
theorem dL_law_362 : decode cL_law 362 = .ok (.aload_n 0, 1) := by decide +kernel
theorem dL_law_363 : decode cL_law 363 = .ok (.iload_n 3, 1) := by decide +kernel
theorem dL_law_364 : decode cL_law 364 = .ok (.iconst 3, 1) := by decide +kernel
theorem dL_law_365 : decode cL_law 365 = .ok (.iadd, 1) := by decide +kernel
theorem dL_law_366 : decode cL_law 366 = .ok (.iaload, 1) := by decide +kernel
theorem dL_law_367 : decode cL_law 367 = .ok (.aload_n 0, 1) := by decide +kernel
theorem dL_law_368 : decode cL_law 368 = .ok (.iload_n 3, 1) := by decide +kernel
theorem dL_law_369 : decode cL_law 369 = .ok (.iconst 4, 1) := by decide +kernel
theorem dL_law_370 : decode cL_law 370 = .ok (.iadd, 1) := by decide +kernel
theorem dL_law_371 : decode cL_law 371 = .ok (.iaload, 1) := by decide +kernel
theorem dL_law_372 : decode cL_law 372 = .ok (.aload_n 0, 1) := by decide +kernel
theorem dL_law_373 : decode cL_law 373 = .ok (.iload_n 3, 1) := by decide +kernel
theorem dL_law_374 : decode cL_law 374 = .ok (.iconst 5, 1) := by decide +kernel
theorem dL_law_375 : decode cL_law 375 = .ok (.iadd, 1) := by decide +kernel
theorem dL_law_376 : decode cL_law 376 = .ok (.iaload, 1) := by decide +kernel
theorem dL_law_377 : decode cL_law 377 = .ok (.invokevirtual 28, 3) := by decide +kernel
theorem dL_law_380 : decode cL_law 380 = .ok (.aload_n 2, 1) := by decide +kernel
theorem dL_law_381 : decode cL_law 381 = .ok (.aload_n 0, 1) := by decide +kernel
theorem dL_law_382 : decode cL_law 382 = .ok (.iload_n 3, 1) := by decide +kernel
theorem dL_law_383 : decode cL_law 383 = .ok (.iconst 1, 1) := by decide +kernel
theorem dL_law_384 : decode cL_law 384 = .ok (.iadd, 1) := by decide +kernel
theorem dL_law_385 : decode cL_law 385 = .ok (.iaload, 1) := by decide +kernel
theorem dL_law_386 : decode cL_law 386 = .ok (.aload_n 0, 1) := by decide +kernel
theorem dL_law_387 : decode cL_law 387 = .ok (.iload_n 3, 1) := by decide +kernel
theorem dL_law_388 : decode cL_law 388 = .ok (.iconst 2, 1) := by decide +kernel
theorem dL_law_389 : decode cL_law 389 = .ok (.iadd, 1) := by decide +kernel
theorem dL_law_390 : decode cL_law 390 = .ok (.iaload, 1) := by decide +kernel
theorem dL_law_391 : decode cL_law 391 = .ok (.aload_n 0, 1) := by decide +kernel
theorem dL_law_392 : decode cL_law 392 = .ok (.iload_n 3, 1) := by decide +kernel
theorem dL_law_393 : decode cL_law 393 = .ok (.iconst 3, 1) := by decide +kernel
theorem dL_law_394 : decode cL_law 394 = .ok (.iadd, 1) := by decide +kernel
theorem dL_law_395 : decode cL_law 395 = .ok (.iaload, 1) := by decide +kernel
theorem dL_law_396 : decode cL_law 396 = .ok (.aload_n 0, 1) := by decide +kernel
theorem dL_law_397 : decode cL_law 397 = .ok (.iload_n 3, 1) := by decide +kernel
theorem dL_law_398 : decode cL_law 398 = .ok (.iconst 4, 1) := by decide +kernel
theorem dL_law_399 : decode cL_law 399 = .ok (.iadd, 1) := by decide +kernel
theorem dL_law_400 : decode cL_law 400 = .ok (.iaload, 1) := by decide +kernel
theorem dL_law_401 : decode cL_law 401 = .ok (.aload_n 0, 1) := by decide +kernel
theorem dL_law_402 : decode cL_law 402 = .ok (.iload_n 3, 1) := by decide +kernel
theorem dL_law_403 : decode cL_law 403 = .ok (.iconst 5, 1) := by decide +kernel
theorem dL_law_404 : decode cL_law 404 = .ok (.iadd, 1) := by decide +kernel
theorem dL_law_405 : decode cL_law 405 = .ok (.iaload, 1) := by decide +kernel
theorem dL_law_406 : decode cL_law 406 = .ok (.invokevirtual 32, 3) := by decide +kernel
theorem dL_law_409 : decode cL_law 409 = .ok (.if_icmp .eq 1319, 3) := by decide +kernel
theorem dL_law_412 : decode cL_law 412 = .ok (.iconst 0, 1) := by decide +kernel
theorem dL_law_413 : decode cL_law 413 = .ok (.ireturn, 1) := by decide +kernel
theorem dL_law_414 : decode cL_law 414 = .ok (.aload_n 1, 1) := by decide +kernel
theorem dL_law_415 : decode cL_law 415 = .ok (.aload_n 0, 1) := by decide +kernel
theorem dL_law_416 : decode cL_law 416 = .ok (.iload_n 3, 1) := by decide +kernel
theorem dL_law_417 : decode cL_law 417 = .ok (.iconst 1, 1) := by decide +kernel
theorem dL_law_418 : decode cL_law 418 = .ok (.iadd, 1) := by decide +kernel
theorem dL_law_419 : decode cL_law 419 = .ok (.iaload, 1) := by decide +kernel
theorem dL_law_420 : decode cL_law 420 = .ok (.invokevirtual 33, 3) := by decide +kernel
theorem dL_law_423 : decode cL_law 423 = .ok (.aload_n 2, 1) := by decide +kernel
theorem dL_law_424 : decode cL_law 424 = .ok (.aload_n 0, 1) := by decide +kernel
theorem dL_law_425 : decode cL_law 425 = .ok (.iload_n 3, 1) := by decide +kernel
theorem dL_law_426 : decode cL_law 426 = .ok (.iconst 1, 1) := by decide +kernel
theorem dL_law_427 : decode cL_law 427 = .ok (.iadd, 1) := by decide +kernel
theorem dL_law_428 : decode cL_law 428 = .ok (.iaload, 1) := by decide +kernel
theorem dL_law_429 : decode cL_law 429 = .ok (.invokevirtual 36, 3) := by decide +kernel
theorem dL_law_432 : decode cL_law 432 = .ok (.if_icmp .eq 1296, 3) := by decide +kernel
theorem dL_law_435 : decode cL_law 435 = .ok (.iconst 0, 1) := by decide +kernel
theorem dL_law_436 : decode cL_law 436 = .ok (.ireturn, 1) := by decide +kernel
theorem dL_law_437 : decode cL_law 437 = .ok (.aload_n 1, 1) := by decide +kernel
theorem dL_law_438 : decode cL_law 438 = .ok (.aload_n 0, 1) := by decide +kernel
theorem dL_law_439 : decode cL_law 439 = .ok (.iload_n 3, 1) := by decide +kernel
theorem dL_law_440 : decode cL_law 440 = .ok (.iconst 1, 1) := by decide +kernel
theorem dL_law_441 : decode cL_law 441 = .ok (.iadd, 1) := by decide +kernel
theorem dL_law_442 : decode cL_law 442 = .ok (.iaload, 1) := by decide +kernel
theorem dL_law_443 : decode cL_law 443 = .ok (.aload_n 0, 1) := by decide +kernel
theorem dL_law_444 : decode cL_law 444 = .ok (.iload_n 3, 1) := by decide +kernel
theorem dL_law_445 : decode cL_law 445 = .ok (.iconst 2, 1) := by decide +kernel
theorem dL_law_446 : decode cL_law 446 = .ok (.iadd, 1) := by decide +kernel
theorem dL_law_447 : decode cL_law 447 = .ok (.iaload, 1) := by decide +kernel
theorem dL_law_448 : decode cL_law 448 = .ok (.invokevirtual 37, 3) := by decide +kernel
theorem dL_law_451 : decode cL_law 451 = .ok (.aload_n 2, 1) := by decide +kernel
theorem dL_law_452 : decode cL_law 452 = .ok (.aload_n 0, 1) := by decide +kernel
theorem dL_law_453 : decode cL_law 453 = .ok (.iload_n 3, 1) := by decide +kernel
theorem dL_law_454 : decode cL_law 454 = .ok (.iconst 1, 1) := by decide +kernel
theorem dL_law_455 : decode cL_law 455 = .ok (.iadd, 1) := by decide +kernel
theorem dL_law_456 : decode cL_law 456 = .ok (.iaload, 1) := by decide +kernel
theorem dL_law_457 : decode cL_law 457 = .ok (.aload_n 0, 1) := by decide +kernel
theorem dL_law_458 : decode cL_law 458 = .ok (.iload_n 3, 1) := by decide +kernel
theorem dL_law_459 : decode cL_law 459 = .ok (.iconst 2, 1) := by decide +kernel
theorem dL_law_460 : decode cL_law 460 = .ok (.iadd, 1) := by decide +kernel
theorem dL_law_461 : decode cL_law 461 = .ok (.iaload, 1) := by decide +kernel
theorem dL_law_462 : decode cL_law 462 = .ok (.invokevirtual 40, 3) := by decide +kernel
theorem dL_law_465 : decode cL_law 465 = .ok (.if_icmp .eq 1263, 3) := by decide +kernel
theorem dL_law_468 : decode cL_law 468 = .ok (.iconst 0, 1) := by decide +kernel
theorem dL_law_469 : decode cL_law 469 = .ok (.ireturn, 1) := by decide +kernel
theorem dL_law_470 : decode cL_law 470 = .ok (.aload_n 1, 1) := by decide +kernel
theorem dL_law_471 : decode cL_law 471 = .ok (.aload_n 0, 1) := by decide +kernel
theorem dL_law_472 : decode cL_law 472 = .ok (.iload_n 3, 1) := by decide +kernel
theorem dL_law_473 : decode cL_law 473 = .ok (.iconst 1, 1) := by decide +kernel
theorem dL_law_474 : decode cL_law 474 = .ok (.iadd, 1) := by decide +kernel
theorem dL_law_475 : decode cL_law 475 = .ok (.iaload, 1) := by decide +kernel
theorem dL_law_476 : decode cL_law 476 = .ok (.aload_n 0, 1) := by decide +kernel
theorem dL_law_477 : decode cL_law 477 = .ok (.iload_n 3, 1) := by decide +kernel
theorem dL_law_478 : decode cL_law 478 = .ok (.iconst 2, 1) := by decide +kernel
theorem dL_law_479 : decode cL_law 479 = .ok (.iadd, 1) := by decide +kernel
theorem dL_law_480 : decode cL_law 480 = .ok (.iaload, 1) := by decide +kernel
theorem dL_law_481 : decode cL_law 481 = .ok (.aload_n 0, 1) := by decide +kernel
theorem dL_law_482 : decode cL_law 482 = .ok (.iload_n 3, 1) := by decide +kernel
theorem dL_law_483 : decode cL_law 483 = .ok (.iconst 3, 1) := by decide +kernel
theorem dL_law_484 : decode cL_law 484 = .ok (.iadd, 1) := by decide +kernel
theorem dL_law_485 : decode cL_law 485 = .ok (.iaload, 1) := by decide +kernel
theorem dL_law_486 : decode cL_law 486 = .ok (.invokevirtual 41, 3) := by decide +kernel
theorem dL_law_489 : decode cL_law 489 = .ok (.aload_n 2, 1) := by decide +kernel
theorem dL_law_490 : decode cL_law 490 = .ok (.aload_n 0, 1) := by decide +kernel
theorem dL_law_491 : decode cL_law 491 = .ok (.iload_n 3, 1) := by decide +kernel
theorem dL_law_492 : decode cL_law 492 = .ok (.iconst 1, 1) := by decide +kernel
theorem dL_law_493 : decode cL_law 493 = .ok (.iadd, 1) := by decide +kernel
theorem dL_law_494 : decode cL_law 494 = .ok (.iaload, 1) := by decide +kernel
theorem dL_law_495 : decode cL_law 495 = .ok (.aload_n 0, 1) := by decide +kernel
theorem dL_law_496 : decode cL_law 496 = .ok (.iload_n 3, 1) := by decide +kernel
theorem dL_law_497 : decode cL_law 497 = .ok (.iconst 2, 1) := by decide +kernel
theorem dL_law_498 : decode cL_law 498 = .ok (.iadd, 1) := by decide +kernel
theorem dL_law_499 : decode cL_law 499 = .ok (.iaload, 1) := by decide +kernel
theorem dL_law_500 : decode cL_law 500 = .ok (.aload_n 0, 1) := by decide +kernel
theorem dL_law_501 : decode cL_law 501 = .ok (.iload_n 3, 1) := by decide +kernel
theorem dL_law_502 : decode cL_law 502 = .ok (.iconst 3, 1) := by decide +kernel
theorem dL_law_503 : decode cL_law 503 = .ok (.iadd, 1) := by decide +kernel
theorem dL_law_504 : decode cL_law 504 = .ok (.iaload, 1) := by decide +kernel
theorem dL_law_505 : decode cL_law 505 = .ok (.invokevirtual 44, 3) := by decide +kernel
theorem dL_law_508 : decode cL_law 508 = .ok (.if_icmp .eq 1220, 3) := by decide +kernel
theorem dL_law_511 : decode cL_law 511 = .ok (.iconst 0, 1) := by decide +kernel
theorem dL_law_512 : decode cL_law 512 = .ok (.ireturn, 1) := by decide +kernel
theorem dL_law_513 : decode cL_law 513 = .ok (.aload_n 1, 1) := by decide +kernel
theorem dL_law_514 : decode cL_law 514 = .ok (.aload_n 0, 1) := by decide +kernel
theorem dL_law_515 : decode cL_law 515 = .ok (.iload_n 3, 1) := by decide +kernel
theorem dL_law_516 : decode cL_law 516 = .ok (.iconst 1, 1) := by decide +kernel
theorem dL_law_517 : decode cL_law 517 = .ok (.iadd, 1) := by decide +kernel
theorem dL_law_518 : decode cL_law 518 = .ok (.iaload, 1) := by decide +kernel
theorem dL_law_519 : decode cL_law 519 = .ok (.invokevirtual 45, 3) := by decide +kernel
theorem dL_law_522 : decode cL_law 522 = .ok (.aload_n 2, 1) := by decide +kernel
theorem dL_law_523 : decode cL_law 523 = .ok (.aload_n 0, 1) := by decide +kernel
theorem dL_law_524 : decode cL_law 524 = .ok (.iload_n 3, 1) := by decide +kernel
theorem dL_law_525 : decode cL_law 525 = .ok (.iconst 1, 1) := by decide +kernel
theorem dL_law_526 : decode cL_law 526 = .ok (.iadd, 1) := by decide +kernel
theorem dL_law_527 : decode cL_law 527 = .ok (.iaload, 1) := by decide +kernel
theorem dL_law_528 : decode cL_law 528 = .ok (.invokevirtual 48, 3) := by decide +kernel
theorem dL_law_531 : decode cL_law 531 = .ok (.if_icmp .eq 1197, 3) := by decide +kernel
theorem dL_law_534 : decode cL_law 534 = .ok (.iconst 0, 1) := by decide +kernel
theorem dL_law_535 : decode cL_law 535 = .ok (.ireturn, 1) := by decide +kernel
theorem dL_law_536 : decode cL_law 536 = .ok (.aload_n 1, 1) := by decide +kernel
theorem dL_law_537 : decode cL_law 537 = .ok (.aload_n 0, 1) := by decide +kernel
theorem dL_law_538 : decode cL_law 538 = .ok (.iload_n 3, 1) := by decide +kernel
theorem dL_law_539 : decode cL_law 539 = .ok (.iconst 1, 1) := by decide +kernel
theorem dL_law_540 : decode cL_law 540 = .ok (.iadd, 1) := by decide +kernel
theorem dL_law_541 : decode cL_law 541 = .ok (.iaload, 1) := by decide +kernel
theorem dL_law_542 : decode cL_law 542 = .ok (.aload_n 0, 1) := by decide +kernel
theorem dL_law_543 : decode cL_law 543 = .ok (.iload_n 3, 1) := by decide +kernel
theorem dL_law_544 : decode cL_law 544 = .ok (.iconst 2, 1) := by decide +kernel
theorem dL_law_545 : decode cL_law 545 = .ok (.iadd, 1) := by decide +kernel
theorem dL_law_546 : decode cL_law 546 = .ok (.iaload, 1) := by decide +kernel
theorem dL_law_547 : decode cL_law 547 = .ok (.aload_n 0, 1) := by decide +kernel
theorem dL_law_548 : decode cL_law 548 = .ok (.iload_n 3, 1) := by decide +kernel
theorem dL_law_549 : decode cL_law 549 = .ok (.iconst 3, 1) := by decide +kernel
theorem dL_law_550 : decode cL_law 550 = .ok (.iadd, 1) := by decide +kernel
theorem dL_law_551 : decode cL_law 551 = .ok (.iaload, 1) := by decide +kernel
theorem dL_law_552 : decode cL_law 552 = .ok (.invokevirtual 49, 3) := by decide +kernel
theorem dL_law_555 : decode cL_law 555 = .ok (.aload_n 2, 1) := by decide +kernel
theorem dL_law_556 : decode cL_law 556 = .ok (.aload_n 0, 1) := by decide +kernel
theorem dL_law_557 : decode cL_law 557 = .ok (.iload_n 3, 1) := by decide +kernel
theorem dL_law_558 : decode cL_law 558 = .ok (.iconst 1, 1) := by decide +kernel
theorem dL_law_559 : decode cL_law 559 = .ok (.iadd, 1) := by decide +kernel
theorem dL_law_560 : decode cL_law 560 = .ok (.iaload, 1) := by decide +kernel
theorem dL_law_561 : decode cL_law 561 = .ok (.aload_n 0, 1) := by decide +kernel
theorem dL_law_562 : decode cL_law 562 = .ok (.iload_n 3, 1) := by decide +kernel
theorem dL_law_563 : decode cL_law 563 = .ok (.iconst 2, 1) := by decide +kernel
theorem dL_law_564 : decode cL_law 564 = .ok (.iadd, 1) := by decide +kernel
theorem dL_law_565 : decode cL_law 565 = .ok (.iaload, 1) := by decide +kernel
theorem dL_law_566 : decode cL_law 566 = .ok (.aload_n 0, 1) := by decide +kernel
theorem dL_law_567 : decode cL_law 567 = .ok (.iload_n 3, 1) := by decide +kernel
theorem dL_law_568 : decode cL_law 568 = .ok (.iconst 3, 1) := by decide +kernel
theorem dL_law_569 : decode cL_law 569 = .ok (.iadd, 1) := by decide +kernel
theorem dL_law_570 : decode cL_law 570 = .ok (.iaload, 1) := by decide +kernel
theorem dL_law_571 : decode cL_law 571 = .ok (.invokevirtual 52, 3) := by decide +kernel
theorem dL_law_574 : decode cL_law 574 = .ok (.if_icmp .eq 1154, 3) := by decide +kernel
theorem dL_law_577 : decode cL_law 577 = .ok (.iconst 0, 1) := by decide +kernel
theorem dL_law_578 : decode cL_law 578 = .ok (.ireturn, 1) := by decide +kernel
theorem dL_law_579 : decode cL_law 579 = .ok (.aload_n 1, 1) := by decide +kernel
theorem dL_law_580 : decode cL_law 580 = .ok (.aload_n 0, 1) := by decide +kernel
theorem dL_law_581 : decode cL_law 581 = .ok (.iload_n 3, 1) := by decide +kernel
theorem dL_law_582 : decode cL_law 582 = .ok (.iconst 1, 1) := by decide +kernel
theorem dL_law_583 : decode cL_law 583 = .ok (.iadd, 1) := by decide +kernel
theorem dL_law_584 : decode cL_law 584 = .ok (.iaload, 1) := by decide +kernel
theorem dL_law_585 : decode cL_law 585 = .ok (.aload_n 0, 1) := by decide +kernel
theorem dL_law_586 : decode cL_law 586 = .ok (.iload_n 3, 1) := by decide +kernel
theorem dL_law_587 : decode cL_law 587 = .ok (.iconst 2, 1) := by decide +kernel
theorem dL_law_588 : decode cL_law 588 = .ok (.iadd, 1) := by decide +kernel
theorem dL_law_589 : decode cL_law 589 = .ok (.iaload, 1) := by decide +kernel
theorem dL_law_590 : decode cL_law 590 = .ok (.aload_n 0, 1) := by decide +kernel
theorem dL_law_591 : decode cL_law 591 = .ok (.iload_n 3, 1) := by decide +kernel
theorem dL_law_592 : decode cL_law 592 = .ok (.iconst 3, 1) := by decide +kernel
theorem dL_law_593 : decode cL_law 593 = .ok (.iadd, 1) := by decide +kernel
theorem dL_law_594 : decode cL_law 594 = .ok (.iaload, 1) := by decide +kernel
theorem dL_law_595 : decode cL_law 595 = .ok (.aload_n 0, 1) := by decide +kernel
theorem dL_law_596 : decode cL_law 596 = .ok (.iload_n 3, 1) := by decide +kernel
theorem dL_law_597 : decode cL_law 597 = .ok (.iconst 4, 1) := by decide +kernel
theorem dL_law_598 : decode cL_law 598 = .ok (.iadd, 1) := by decide +kernel
theorem dL_law_599 : decode cL_law 599 = .ok (.iaload, 1) := by decide +kernel
theorem dL_law_600 : decode cL_law 600 = .ok (.aload_n 0, 1) := by decide +kernel
theorem dL_law_601 : decode cL_law 601 = .ok (.iload_n 3, 1) := by decide +kernel
theorem dL_law_602 : decode cL_law 602 = .ok (.iconst 5, 1) := by decide +kernel
theorem dL_law_603 : decode cL_law 603 = .ok (.iadd, 1) := by decide +kernel
theorem dL_law_604 : decode cL_law 604 = .ok (.iaload, 1) := by decide +kernel
theorem dL_law_605 : decode cL_law 605 = .ok (.invokevirtual 53, 3) := by decide +kernel
theorem dL_law_608 : decode cL_law 608 = .ok (.aload_n 2, 1) := by decide +kernel
theorem dL_law_609 : decode cL_law 609 = .ok (.aload_n 0, 1) := by decide +kernel
theorem dL_law_610 : decode cL_law 610 = .ok (.iload_n 3, 1) := by decide +kernel
theorem dL_law_611 : decode cL_law 611 = .ok (.iconst 1, 1) := by decide +kernel
theorem dL_law_612 : decode cL_law 612 = .ok (.iadd, 1) := by decide +kernel
theorem dL_law_613 : decode cL_law 613 = .ok (.iaload, 1) := by decide +kernel
theorem dL_law_614 : decode cL_law 614 = .ok (.aload_n 0, 1) := by decide +kernel
theorem dL_law_615 : decode cL_law 615 = .ok (.iload_n 3, 1) := by decide +kernel
theorem dL_law_616 : decode cL_law 616 = .ok (.iconst 2, 1) := by decide +kernel
theorem dL_law_617 : decode cL_law 617 = .ok (.iadd, 1) := by decide +kernel
theorem dL_law_618 : decode cL_law 618 = .ok (.iaload, 1) := by decide +kernel
theorem dL_law_619 : decode cL_law 619 = .ok (.aload_n 0, 1) := by decide +kernel
theorem dL_law_620 : decode cL_law 620 = .ok (.iload_n 3, 1) := by decide +kernel
theorem dL_law_621 : decode cL_law 621 = .ok (.iconst 3, 1) := by decide +kernel
theorem dL_law_622 : decode cL_law 622 = .ok (.iadd, 1) := by decide +kernel
theorem dL_law_623 : decode cL_law 623 = .ok (.iaload, 1) := by decide +kernel
theorem dL_law_624 : decode cL_law 624 = .ok (.aload_n 0, 1) := by decide +kernel
theorem dL_law_625 : decode cL_law 625 = .ok (.iload_n 3, 1) := by decide +kernel
theorem dL_law_626 : decode cL_law 626 = .ok (.iconst 4, 1) := by decide +kernel
theorem dL_law_627 : decode cL_law 627 = .ok (.iadd, 1) := by decide +kernel
theorem dL_law_628 : decode cL_law 628 = .ok (.iaload, 1) := by decide +kernel
theorem dL_law_629 : decode cL_law 629 = .ok (.aload_n 0, 1) := by decide +kernel
theorem dL_law_630 : decode cL_law 630 = .ok (.iload_n 3, 1) := by decide +kernel
theorem dL_law_631 : decode cL_law 631 = .ok (.iconst 5, 1) := by decide +kernel
theorem dL_law_632 : decode cL_law 632 = .ok (.iadd, 1) := by decide +kernel
theorem dL_law_633 : decode cL_law 633 = .ok (.iaload, 1) := by decide +kernel
theorem dL_law_634 : decode cL_law 634 = .ok (.invokevirtual 56, 3) := by decide +kernel
theorem dL_law_637 : decode cL_law 637 = .ok (.if_icmp .eq 1091, 3) := by decide +kernel
theorem dL_law_640 : decode cL_law 640 = .ok (.iconst 0, 1) := by decide +kernel
theorem dL_law_641 : decode cL_law 641 = .ok (.ireturn, 1) := by decide +kernel
theorem dL_law_642 : decode cL_law 642 = .ok (.aload_n 1, 1) := by decide +kernel
theorem dL_law_643 : decode cL_law 643 = .ok (.aload_n 0, 1) := by decide +kernel
theorem dL_law_644 : decode cL_law 644 = .ok (.iload_n 3, 1) := by decide +kernel
theorem dL_law_645 : decode cL_law 645 = .ok (.iconst 1, 1) := by decide +kernel
theorem dL_law_646 : decode cL_law 646 = .ok (.iadd, 1) := by decide +kernel
theorem dL_law_647 : decode cL_law 647 = .ok (.iaload, 1) := by decide +kernel
theorem dL_law_648 : decode cL_law 648 = .ok (.aload_n 0, 1) := by decide +kernel
theorem dL_law_649 : decode cL_law 649 = .ok (.iload_n 3, 1) := by decide +kernel
theorem dL_law_650 : decode cL_law 650 = .ok (.iconst 2, 1) := by decide +kernel
theorem dL_law_651 : decode cL_law 651 = .ok (.iadd, 1) := by decide +kernel
theorem dL_law_652 : decode cL_law 652 = .ok (.iaload, 1) := by decide +kernel
theorem dL_law_653 : decode cL_law 653 = .ok (.aload_n 0, 1) := by decide +kernel
theorem dL_law_654 : decode cL_law 654 = .ok (.iload_n 3, 1) := by decide +kernel
theorem dL_law_655 : decode cL_law 655 = .ok (.iconst 3, 1) := by decide +kernel
theorem dL_law_656 : decode cL_law 656 = .ok (.iadd, 1) := by decide +kernel
theorem dL_law_657 : decode cL_law 657 = .ok (.iaload, 1) := by decide +kernel
theorem dL_law_658 : decode cL_law 658 = .ok (.invokevirtual 57, 3) := by decide +kernel
theorem dL_law_661 : decode cL_law 661 = .ok (.aload_n 2, 1) := by decide +kernel
theorem dL_law_662 : decode cL_law 662 = .ok (.aload_n 0, 1) := by decide +kernel
theorem dL_law_663 : decode cL_law 663 = .ok (.iload_n 3, 1) := by decide +kernel
theorem dL_law_664 : decode cL_law 664 = .ok (.iconst 1, 1) := by decide +kernel
theorem dL_law_665 : decode cL_law 665 = .ok (.iadd, 1) := by decide +kernel
theorem dL_law_666 : decode cL_law 666 = .ok (.iaload, 1) := by decide +kernel
theorem dL_law_667 : decode cL_law 667 = .ok (.aload_n 0, 1) := by decide +kernel
theorem dL_law_668 : decode cL_law 668 = .ok (.iload_n 3, 1) := by decide +kernel
theorem dL_law_669 : decode cL_law 669 = .ok (.iconst 2, 1) := by decide +kernel
theorem dL_law_670 : decode cL_law 670 = .ok (.iadd, 1) := by decide +kernel
theorem dL_law_671 : decode cL_law 671 = .ok (.iaload, 1) := by decide +kernel
theorem dL_law_672 : decode cL_law 672 = .ok (.aload_n 0, 1) := by decide +kernel
theorem dL_law_673 : decode cL_law 673 = .ok (.iload_n 3, 1) := by decide +kernel
theorem dL_law_674 : decode cL_law 674 = .ok (.iconst 3, 1) := by decide +kernel
theorem dL_law_675 : decode cL_law 675 = .ok (.iadd, 1) := by decide +kernel
theorem dL_law_676 : decode cL_law 676 = .ok (.iaload, 1) := by decide +kernel
theorem dL_law_677 : decode cL_law 677 = .ok (.invokevirtual 60, 3) := by decide +kernel
theorem dL_law_680 : decode cL_law 680 = .ok (.if_icmp .eq 1048, 3) := by decide +kernel
theorem dL_law_683 : decode cL_law 683 = .ok (.iconst 0, 1) := by decide +kernel
theorem dL_law_684 : decode cL_law 684 = .ok (.ireturn, 1) := by decide +kernel
theorem dL_law_685 : decode cL_law 685 = .ok (.aload_n 1, 1) := by decide +kernel
theorem dL_law_686 : decode cL_law 686 = .ok (.aload_n 0, 1) := by decide +kernel
theorem dL_law_687 : decode cL_law 687 = .ok (.iload_n 3, 1) := by decide +kernel
theorem dL_law_688 : decode cL_law 688 = .ok (.iconst 1, 1) := by decide +kernel
theorem dL_law_689 : decode cL_law 689 = .ok (.iadd, 1) := by decide +kernel
theorem dL_law_690 : decode cL_law 690 = .ok (.iaload, 1) := by decide +kernel
theorem dL_law_691 : decode cL_law 691 = .ok (.aload_n 0, 1) := by decide +kernel
theorem dL_law_692 : decode cL_law 692 = .ok (.iload_n 3, 1) := by decide +kernel
theorem dL_law_693 : decode cL_law 693 = .ok (.iconst 2, 1) := by decide +kernel
theorem dL_law_694 : decode cL_law 694 = .ok (.iadd, 1) := by decide +kernel
theorem dL_law_695 : decode cL_law 695 = .ok (.iaload, 1) := by decide +kernel
theorem dL_law_696 : decode cL_law 696 = .ok (.invokevirtual 61, 3) := by decide +kernel
theorem dL_law_699 : decode cL_law 699 = .ok (.aload_n 2, 1) := by decide +kernel
theorem dL_law_700 : decode cL_law 700 = .ok (.aload_n 0, 1) := by decide +kernel
theorem dL_law_701 : decode cL_law 701 = .ok (.iload_n 3, 1) := by decide +kernel
theorem dL_law_702 : decode cL_law 702 = .ok (.iconst 1, 1) := by decide +kernel
theorem dL_law_703 : decode cL_law 703 = .ok (.iadd, 1) := by decide +kernel
theorem dL_law_704 : decode cL_law 704 = .ok (.iaload, 1) := by decide +kernel
theorem dL_law_705 : decode cL_law 705 = .ok (.aload_n 0, 1) := by decide +kernel
theorem dL_law_706 : decode cL_law 706 = .ok (.iload_n 3, 1) := by decide +kernel
theorem dL_law_707 : decode cL_law 707 = .ok (.iconst 2, 1) := by decide +kernel
theorem dL_law_708 : decode cL_law 708 = .ok (.iadd, 1) := by decide +kernel
theorem dL_law_709 : decode cL_law 709 = .ok (.iaload, 1) := by decide +kernel
theorem dL_law_710 : decode cL_law 710 = .ok (.invokevirtual 64, 3) := by decide +kernel
theorem dL_law_713 : decode cL_law 713 = .ok (.if_icmp .eq 1015, 3) := by decide +kernel
theorem dL_law_716 : decode cL_law 716 = .ok (.iconst 0, 1) := by decide +kernel
theorem dL_law_717 : decode cL_law 717 = .ok (.ireturn, 1) := by decide +kernel
theorem dL_law_718 : decode cL_law 718 = .ok (.aload_n 1, 1) := by decide +kernel
theorem dL_law_719 : decode cL_law 719 = .ok (.aload_n 0, 1) := by decide +kernel
theorem dL_law_720 : decode cL_law 720 = .ok (.iload_n 3, 1) := by decide +kernel
theorem dL_law_721 : decode cL_law 721 = .ok (.iconst 1, 1) := by decide +kernel
theorem dL_law_722 : decode cL_law 722 = .ok (.iadd, 1) := by decide +kernel
theorem dL_law_723 : decode cL_law 723 = .ok (.iaload, 1) := by decide +kernel
theorem dL_law_724 : decode cL_law 724 = .ok (.invokevirtual 65, 3) := by decide +kernel
theorem dL_law_727 : decode cL_law 727 = .ok (.aload_n 2, 1) := by decide +kernel
theorem dL_law_728 : decode cL_law 728 = .ok (.aload_n 0, 1) := by decide +kernel
theorem dL_law_729 : decode cL_law 729 = .ok (.iload_n 3, 1) := by decide +kernel
theorem dL_law_730 : decode cL_law 730 = .ok (.iconst 1, 1) := by decide +kernel
theorem dL_law_731 : decode cL_law 731 = .ok (.iadd, 1) := by decide +kernel
theorem dL_law_732 : decode cL_law 732 = .ok (.iaload, 1) := by decide +kernel
theorem dL_law_733 : decode cL_law 733 = .ok (.invokevirtual 68, 3) := by decide +kernel
theorem dL_law_736 : decode cL_law 736 = .ok (.if_icmp .eq 992, 3) := by decide +kernel
theorem dL_law_739 : decode cL_law 739 = .ok (.iconst 0, 1) := by decide +kernel
theorem dL_law_740 : decode cL_law 740 = .ok (.ireturn, 1) := by decide +kernel
theorem dL_law_741 : decode cL_law 741 = .ok (.aload_n 1, 1) := by decide +kernel
theorem dL_law_742 : decode cL_law 742 = .ok (.aload_n 0, 1) := by decide +kernel
theorem dL_law_743 : decode cL_law 743 = .ok (.iload_n 3, 1) := by decide +kernel
theorem dL_law_744 : decode cL_law 744 = .ok (.iconst 1, 1) := by decide +kernel
theorem dL_law_745 : decode cL_law 745 = .ok (.iadd, 1) := by decide +kernel
theorem dL_law_746 : decode cL_law 746 = .ok (.iaload, 1) := by decide +kernel
theorem dL_law_747 : decode cL_law 747 = .ok (.aload_n 0, 1) := by decide +kernel
theorem dL_law_748 : decode cL_law 748 = .ok (.iload_n 3, 1) := by decide +kernel
theorem dL_law_749 : decode cL_law 749 = .ok (.iconst 2, 1) := by decide +kernel
theorem dL_law_750 : decode cL_law 750 = .ok (.iadd, 1) := by decide +kernel
theorem dL_law_751 : decode cL_law 751 = .ok (.iaload, 1) := by decide +kernel
theorem dL_law_752 : decode cL_law 752 = .ok (.invokevirtual 69, 3) := by decide +kernel
theorem dL_law_755 : decode cL_law 755 = .ok (.aload_n 2, 1) := by decide +kernel
theorem dL_law_756 : decode cL_law 756 = .ok (.aload_n 0, 1) := by decide +kernel
theorem dL_law_757 : decode cL_law 757 = .ok (.iload_n 3, 1) := by decide +kernel
theorem dL_law_758 : decode cL_law 758 = .ok (.iconst 1, 1) := by decide +kernel
theorem dL_law_759 : decode cL_law 759 = .ok (.iadd, 1) := by decide +kernel
theorem dL_law_760 : decode cL_law 760 = .ok (.iaload, 1) := by decide +kernel
theorem dL_law_761 : decode cL_law 761 = .ok (.aload_n 0, 1) := by decide +kernel
theorem dL_law_762 : decode cL_law 762 = .ok (.iload_n 3, 1) := by decide +kernel
theorem dL_law_763 : decode cL_law 763 = .ok (.iconst 2, 1) := by decide +kernel
theorem dL_law_764 : decode cL_law 764 = .ok (.iadd, 1) := by decide +kernel
theorem dL_law_765 : decode cL_law 765 = .ok (.iaload, 1) := by decide +kernel
theorem dL_law_766 : decode cL_law 766 = .ok (.invokevirtual 72, 3) := by decide +kernel
theorem dL_law_769 : decode cL_law 769 = .ok (.if_icmp .eq 959, 3) := by decide +kernel
theorem dL_law_772 : decode cL_law 772 = .ok (.iconst 0, 1) := by decide +kernel
theorem dL_law_773 : decode cL_law 773 = .ok (.ireturn, 1) := by decide +kernel
theorem dL_law_774 : decode cL_law 774 = .ok (.aload_n 1, 1) := by decide +kernel
theorem dL_law_775 : decode cL_law 775 = .ok (.aload_n 0, 1) := by decide +kernel
theorem dL_law_776 : decode cL_law 776 = .ok (.iload_n 3, 1) := by decide +kernel
theorem dL_law_777 : decode cL_law 777 = .ok (.iconst 1, 1) := by decide +kernel
theorem dL_law_778 : decode cL_law 778 = .ok (.iadd, 1) := by decide +kernel
theorem dL_law_779 : decode cL_law 779 = .ok (.iaload, 1) := by decide +kernel
theorem dL_law_780 : decode cL_law 780 = .ok (.invokevirtual 73, 3) := by decide +kernel
theorem dL_law_783 : decode cL_law 783 = .ok (.aload_n 2, 1) := by decide +kernel
theorem dL_law_784 : decode cL_law 784 = .ok (.aload_n 0, 1) := by decide +kernel
theorem dL_law_785 : decode cL_law 785 = .ok (.iload_n 3, 1) := by decide +kernel
theorem dL_law_786 : decode cL_law 786 = .ok (.iconst 1, 1) := by decide +kernel
theorem dL_law_787 : decode cL_law 787 = .ok (.iadd, 1) := by decide +kernel
theorem dL_law_788 : decode cL_law 788 = .ok (.iaload, 1) := by decide +kernel
theorem dL_law_789 : decode cL_law 789 = .ok (.invokevirtual 76, 3) := by decide +kernel
theorem dL_law_792 : decode cL_law 792 = .ok (.if_icmp .eq 936, 3) := by decide +kernel
theorem dL_law_795 : decode cL_law 795 = .ok (.iconst 0, 1) := by decide +kernel
theorem dL_law_796 : decode cL_law 796 = .ok (.ireturn, 1) := by decide +kernel
theorem dL_law_797 : decode cL_law 797 = .ok (.aload_n 1, 1) := by decide +kernel
theorem dL_law_798 : decode cL_law 798 = .ok (.aload_n 0, 1) := by decide +kernel
theorem dL_law_799 : decode cL_law 799 = .ok (.iload_n 3, 1) := by decide +kernel
theorem dL_law_800 : decode cL_law 800 = .ok (.iconst 1, 1) := by decide +kernel
theorem dL_law_801 : decode cL_law 801 = .ok (.iadd, 1) := by decide +kernel
theorem dL_law_802 : decode cL_law 802 = .ok (.iaload, 1) := by decide +kernel
theorem dL_law_803 : decode cL_law 803 = .ok (.invokevirtual 77, 3) := by decide +kernel
theorem dL_law_806 : decode cL_law 806 = .ok (.aload_n 2, 1) := by decide +kernel
theorem dL_law_807 : decode cL_law 807 = .ok (.aload_n 0, 1) := by decide +kernel
theorem dL_law_808 : decode cL_law 808 = .ok (.iload_n 3, 1) := by decide +kernel
theorem dL_law_809 : decode cL_law 809 = .ok (.iconst 1, 1) := by decide +kernel
theorem dL_law_810 : decode cL_law 810 = .ok (.iadd, 1) := by decide +kernel
theorem dL_law_811 : decode cL_law 811 = .ok (.iaload, 1) := by decide +kernel
theorem dL_law_812 : decode cL_law 812 = .ok (.invokevirtual 80, 3) := by decide +kernel
theorem dL_law_815 : decode cL_law 815 = .ok (.if_icmp .eq 913, 3) := by decide +kernel
theorem dL_law_818 : decode cL_law 818 = .ok (.iconst 0, 1) := by decide +kernel
theorem dL_law_819 : decode cL_law 819 = .ok (.ireturn, 1) := by decide +kernel
theorem dL_law_820 : decode cL_law 820 = .ok (.aload_n 1, 1) := by decide +kernel
theorem dL_law_821 : decode cL_law 821 = .ok (.aload_n 0, 1) := by decide +kernel
theorem dL_law_822 : decode cL_law 822 = .ok (.iload_n 3, 1) := by decide +kernel
theorem dL_law_823 : decode cL_law 823 = .ok (.iconst 1, 1) := by decide +kernel
theorem dL_law_824 : decode cL_law 824 = .ok (.iadd, 1) := by decide +kernel
theorem dL_law_825 : decode cL_law 825 = .ok (.iaload, 1) := by decide +kernel
theorem dL_law_826 : decode cL_law 826 = .ok (.aload_n 0, 1) := by decide +kernel
theorem dL_law_827 : decode cL_law 827 = .ok (.iload_n 3, 1) := by decide +kernel
theorem dL_law_828 : decode cL_law 828 = .ok (.iconst 2, 1) := by decide +kernel
theorem dL_law_829 : decode cL_law 829 = .ok (.iadd, 1) := by decide +kernel
theorem dL_law_830 : decode cL_law 830 = .ok (.iaload, 1) := by decide +kernel
theorem dL_law_831 : decode cL_law 831 = .ok (.invokevirtual 81, 3) := by decide +kernel
theorem dL_law_834 : decode cL_law 834 = .ok (.aload_n 2, 1) := by decide +kernel
theorem dL_law_835 : decode cL_law 835 = .ok (.aload_n 0, 1) := by decide +kernel
theorem dL_law_836 : decode cL_law 836 = .ok (.iload_n 3, 1) := by decide +kernel
theorem dL_law_837 : decode cL_law 837 = .ok (.iconst 1, 1) := by decide +kernel
theorem dL_law_838 : decode cL_law 838 = .ok (.iadd, 1) := by decide +kernel
theorem dL_law_839 : decode cL_law 839 = .ok (.iaload, 1) := by decide +kernel
theorem dL_law_840 : decode cL_law 840 = .ok (.aload_n 0, 1) := by decide +kernel
theorem dL_law_841 : decode cL_law 841 = .ok (.iload_n 3, 1) := by decide +kernel
theorem dL_law_842 : decode cL_law 842 = .ok (.iconst 2, 1) := by decide +kernel
theorem dL_law_843 : decode cL_law 843 = .ok (.iadd, 1) := by decide +kernel
theorem dL_law_844 : decode cL_law 844 = .ok (.iaload, 1) := by decide +kernel
theorem dL_law_845 : decode cL_law 845 = .ok (.invokevirtual 84, 3) := by decide +kernel
theorem dL_law_848 : decode cL_law 848 = .ok (.if_icmp .eq 880, 3) := by decide +kernel
theorem dL_law_851 : decode cL_law 851 = .ok (.iconst 0, 1) := by decide +kernel
theorem dL_law_852 : decode cL_law 852 = .ok (.ireturn, 1) := by decide +kernel
theorem dL_law_853 : decode cL_law 853 = .ok (.aload_n 1, 1) := by decide +kernel
theorem dL_law_854 : decode cL_law 854 = .ok (.aload_n 0, 1) := by decide +kernel
theorem dL_law_855 : decode cL_law 855 = .ok (.iload_n 3, 1) := by decide +kernel
theorem dL_law_856 : decode cL_law 856 = .ok (.iconst 1, 1) := by decide +kernel
theorem dL_law_857 : decode cL_law 857 = .ok (.iadd, 1) := by decide +kernel
theorem dL_law_858 : decode cL_law 858 = .ok (.iaload, 1) := by decide +kernel
theorem dL_law_859 : decode cL_law 859 = .ok (.aload_n 0, 1) := by decide +kernel
theorem dL_law_860 : decode cL_law 860 = .ok (.iload_n 3, 1) := by decide +kernel
theorem dL_law_861 : decode cL_law 861 = .ok (.iconst 2, 1) := by decide +kernel
theorem dL_law_862 : decode cL_law 862 = .ok (.iadd, 1) := by decide +kernel
theorem dL_law_863 : decode cL_law 863 = .ok (.iaload, 1) := by decide +kernel
theorem dL_law_864 : decode cL_law 864 = .ok (.invokevirtual 85, 3) := by decide +kernel
theorem dL_law_867 : decode cL_law 867 = .ok (.aload_n 2, 1) := by decide +kernel
theorem dL_law_868 : decode cL_law 868 = .ok (.aload_n 0, 1) := by decide +kernel
theorem dL_law_869 : decode cL_law 869 = .ok (.iload_n 3, 1) := by decide +kernel
theorem dL_law_870 : decode cL_law 870 = .ok (.iconst 1, 1) := by decide +kernel
theorem dL_law_871 : decode cL_law 871 = .ok (.iadd, 1) := by decide +kernel
theorem dL_law_872 : decode cL_law 872 = .ok (.iaload, 1) := by decide +kernel
theorem dL_law_873 : decode cL_law 873 = .ok (.aload_n 0, 1) := by decide +kernel
theorem dL_law_874 : decode cL_law 874 = .ok (.iload_n 3, 1) := by decide +kernel
theorem dL_law_875 : decode cL_law 875 = .ok (.iconst 2, 1) := by decide +kernel
theorem dL_law_876 : decode cL_law 876 = .ok (.iadd, 1) := by decide +kernel
theorem dL_law_877 : decode cL_law 877 = .ok (.iaload, 1) := by decide +kernel
theorem dL_law_878 : decode cL_law 878 = .ok (.invokevirtual 88, 3) := by decide +kernel
theorem dL_law_881 : decode cL_law 881 = .ok (.if_icmp .eq 847, 3) := by decide +kernel
theorem dL_law_884 : decode cL_law 884 = .ok (.iconst 0, 1) := by decide +kernel
theorem dL_law_885 : decode cL_law 885 = .ok (.ireturn, 1) := by decide +kernel
theorem dL_law_886 : decode cL_law 886 = .ok (.aload_n 1, 1) := by decide +kernel
theorem dL_law_887 : decode cL_law 887 = .ok (.aload_n 0, 1) := by decide +kernel
theorem dL_law_888 : decode cL_law 888 = .ok (.iload_n 3, 1) := by decide +kernel
theorem dL_law_889 : decode cL_law 889 = .ok (.iconst 1, 1) := by decide +kernel
theorem dL_law_890 : decode cL_law 890 = .ok (.iadd, 1) := by decide +kernel
theorem dL_law_891 : decode cL_law 891 = .ok (.iaload, 1) := by decide +kernel
theorem dL_law_892 : decode cL_law 892 = .ok (.aload_n 0, 1) := by decide +kernel
theorem dL_law_893 : decode cL_law 893 = .ok (.iload_n 3, 1) := by decide +kernel
theorem dL_law_894 : decode cL_law 894 = .ok (.iconst 2, 1) := by decide +kernel
theorem dL_law_895 : decode cL_law 895 = .ok (.iadd, 1) := by decide +kernel
theorem dL_law_896 : decode cL_law 896 = .ok (.iaload, 1) := by decide +kernel
theorem dL_law_897 : decode cL_law 897 = .ok (.aload_n 0, 1) := by decide +kernel
theorem dL_law_898 : decode cL_law 898 = .ok (.iload_n 3, 1) := by decide +kernel
theorem dL_law_899 : decode cL_law 899 = .ok (.iconst 3, 1) := by decide +kernel
theorem dL_law_900 : decode cL_law 900 = .ok (.iadd, 1) := by decide +kernel
theorem dL_law_901 : decode cL_law 901 = .ok (.iaload, 1) := by decide +kernel
theorem dL_law_902 : decode cL_law 902 = .ok (.invokevirtual 89, 3) := by decide +kernel
theorem dL_law_905 : decode cL_law 905 = .ok (.aload_n 2, 1) := by decide +kernel
theorem dL_law_906 : decode cL_law 906 = .ok (.aload_n 0, 1) := by decide +kernel
theorem dL_law_907 : decode cL_law 907 = .ok (.iload_n 3, 1) := by decide +kernel
theorem dL_law_908 : decode cL_law 908 = .ok (.iconst 1, 1) := by decide +kernel
theorem dL_law_909 : decode cL_law 909 = .ok (.iadd, 1) := by decide +kernel
theorem dL_law_910 : decode cL_law 910 = .ok (.iaload, 1) := by decide +kernel
theorem dL_law_911 : decode cL_law 911 = .ok (.aload_n 0, 1) := by decide +kernel
theorem dL_law_912 : decode cL_law 912 = .ok (.iload_n 3, 1) := by decide +kernel
theorem dL_law_913 : decode cL_law 913 = .ok (.iconst 2, 1) := by decide +kernel
theorem dL_law_914 : decode cL_law 914 = .ok (.iadd, 1) := by decide +kernel
theorem dL_law_915 : decode cL_law 915 = .ok (.iaload, 1) := by decide +kernel
theorem dL_law_916 : decode cL_law 916 = .ok (.aload_n 0, 1) := by decide +kernel
theorem dL_law_917 : decode cL_law 917 = .ok (.iload_n 3, 1) := by decide +kernel
theorem dL_law_918 : decode cL_law 918 = .ok (.iconst 3, 1) := by decide +kernel
theorem dL_law_919 : decode cL_law 919 = .ok (.iadd, 1) := by decide +kernel
theorem dL_law_920 : decode cL_law 920 = .ok (.iaload, 1) := by decide +kernel
theorem dL_law_921 : decode cL_law 921 = .ok (.invokevirtual 92, 3) := by decide +kernel
theorem dL_law_924 : decode cL_law 924 = .ok (.if_icmp .eq 804, 3) := by decide +kernel
theorem dL_law_927 : decode cL_law 927 = .ok (.iconst 0, 1) := by decide +kernel
theorem dL_law_928 : decode cL_law 928 = .ok (.ireturn, 1) := by decide +kernel
theorem dL_law_929 : decode cL_law 929 = .ok (.aload_n 1, 1) := by decide +kernel
theorem dL_law_930 : decode cL_law 930 = .ok (.aload_n 0, 1) := by decide +kernel
theorem dL_law_931 : decode cL_law 931 = .ok (.iload_n 3, 1) := by decide +kernel
theorem dL_law_932 : decode cL_law 932 = .ok (.iconst 1, 1) := by decide +kernel
theorem dL_law_933 : decode cL_law 933 = .ok (.iadd, 1) := by decide +kernel
theorem dL_law_934 : decode cL_law 934 = .ok (.iaload, 1) := by decide +kernel
theorem dL_law_935 : decode cL_law 935 = .ok (.aload_n 0, 1) := by decide +kernel
theorem dL_law_936 : decode cL_law 936 = .ok (.iload_n 3, 1) := by decide +kernel
theorem dL_law_937 : decode cL_law 937 = .ok (.iconst 2, 1) := by decide +kernel
theorem dL_law_938 : decode cL_law 938 = .ok (.iadd, 1) := by decide +kernel
theorem dL_law_939 : decode cL_law 939 = .ok (.iaload, 1) := by decide +kernel
theorem dL_law_940 : decode cL_law 940 = .ok (.invokevirtual 93, 3) := by decide +kernel
theorem dL_law_943 : decode cL_law 943 = .ok (.aload_n 2, 1) := by decide +kernel
theorem dL_law_944 : decode cL_law 944 = .ok (.aload_n 0, 1) := by decide +kernel
theorem dL_law_945 : decode cL_law 945 = .ok (.iload_n 3, 1) := by decide +kernel
theorem dL_law_946 : decode cL_law 946 = .ok (.iconst 1, 1) := by decide +kernel
theorem dL_law_947 : decode cL_law 947 = .ok (.iadd, 1) := by decide +kernel
theorem dL_law_948 : decode cL_law 948 = .ok (.iaload, 1) := by decide +kernel
theorem dL_law_949 : decode cL_law 949 = .ok (.aload_n 0, 1) := by decide +kernel
theorem dL_law_950 : decode cL_law 950 = .ok (.iload_n 3, 1) := by decide +kernel
theorem dL_law_951 : decode cL_law 951 = .ok (.iconst 2, 1) := by decide +kernel
theorem dL_law_952 : decode cL_law 952 = .ok (.iadd, 1) := by decide +kernel
theorem dL_law_953 : decode cL_law 953 = .ok (.iaload, 1) := by decide +kernel
theorem dL_law_954 : decode cL_law 954 = .ok (.invokevirtual 96, 3) := by decide +kernel
theorem dL_law_957 : decode cL_law 957 = .ok (.if_icmp .eq 771, 3) := by decide +kernel
theorem dL_law_960 : decode cL_law 960 = .ok (.iconst 0, 1) := by decide +kernel
theorem dL_law_961 : decode cL_law 961 = .ok (.ireturn, 1) := by decide +kernel
theorem dL_law_962 : decode cL_law 962 = .ok (.aload_n 1, 1) := by decide +kernel
theorem dL_law_963 : decode cL_law 963 = .ok (.aload_n 0, 1) := by decide +kernel
theorem dL_law_964 : decode cL_law 964 = .ok (.iload_n 3, 1) := by decide +kernel
theorem dL_law_965 : decode cL_law 965 = .ok (.iconst 1, 1) := by decide +kernel
theorem dL_law_966 : decode cL_law 966 = .ok (.iadd, 1) := by decide +kernel
theorem dL_law_967 : decode cL_law 967 = .ok (.iaload, 1) := by decide +kernel
theorem dL_law_968 : decode cL_law 968 = .ok (.invokevirtual 97, 3) := by decide +kernel
theorem dL_law_971 : decode cL_law 971 = .ok (.aload_n 2, 1) := by decide +kernel
theorem dL_law_972 : decode cL_law 972 = .ok (.aload_n 0, 1) := by decide +kernel
theorem dL_law_973 : decode cL_law 973 = .ok (.iload_n 3, 1) := by decide +kernel
theorem dL_law_974 : decode cL_law 974 = .ok (.iconst 1, 1) := by decide +kernel
theorem dL_law_975 : decode cL_law 975 = .ok (.iadd, 1) := by decide +kernel
theorem dL_law_976 : decode cL_law 976 = .ok (.iaload, 1) := by decide +kernel
theorem dL_law_977 : decode cL_law 977 = .ok (.invokevirtual 100, 3) := by decide +kernel
theorem dL_law_980 : decode cL_law 980 = .ok (.if_icmp .eq 748, 3) := by decide +kernel
theorem dL_law_983 : decode cL_law 983 = .ok (.iconst 0, 1) := by decide +kernel
theorem dL_law_984 : decode cL_law 984 = .ok (.ireturn, 1) := by decide +kernel
theorem dL_law_985 : decode cL_law 985 = .ok (.aload_n 1, 1) := by decide +kernel
theorem dL_law_986 : decode cL_law 986 = .ok (.aload_n 0, 1) := by decide +kernel
theorem dL_law_987 : decode cL_law 987 = .ok (.iload_n 3, 1) := by decide +kernel
theorem dL_law_988 : decode cL_law 988 = .ok (.iconst 1, 1) := by decide +kernel
theorem dL_law_989 : decode cL_law 989 = .ok (.iadd, 1) := by decide +kernel
theorem dL_law_990 : decode cL_law 990 = .ok (.iaload, 1) := by decide +kernel
theorem dL_law_991 : decode cL_law 991 = .ok (.invokevirtual 101, 3) := by decide +kernel
theorem dL_law_994 : decode cL_law 994 = .ok (.aload_n 2, 1) := by decide +kernel
theorem dL_law_995 : decode cL_law 995 = .ok (.aload_n 0, 1) := by decide +kernel
theorem dL_law_996 : decode cL_law 996 = .ok (.iload_n 3, 1) := by decide +kernel
theorem dL_law_997 : decode cL_law 997 = .ok (.iconst 1, 1) := by decide +kernel
theorem dL_law_998 : decode cL_law 998 = .ok (.iadd, 1) := by decide +kernel
theorem dL_law_999 : decode cL_law 999 = .ok (.iaload, 1) := by decide +kernel
theorem dL_law_1000 : decode cL_law 1000 = .ok (.invokevirtual 104, 3) := by decide +kernel
theorem dL_law_1003 : decode cL_law 1003 = .ok (.if_icmp .eq 725, 3) := by decide +kernel
theorem dL_law_1006 : decode cL_law 1006 = .ok (.iconst 0, 1) := by decide +kernel
theorem dL_law_1007 : decode cL_law 1007 = .ok (.ireturn, 1) := by decide +kernel
theorem dL_law_1008 : decode cL_law 1008 = .ok (.aload_n 1, 1) := by decide +kernel
theorem dL_law_1009 : decode cL_law 1009 = .ok (.aload_n 0, 1) := by decide +kernel
theorem dL_law_1010 : decode cL_law 1010 = .ok (.iload_n 3, 1) := by decide +kernel
theorem dL_law_1011 : decode cL_law 1011 = .ok (.iconst 1, 1) := by decide +kernel
theorem dL_law_1012 : decode cL_law 1012 = .ok (.iadd, 1) := by decide +kernel
theorem dL_law_1013 : decode cL_law 1013 = .ok (.iaload, 1) := by decide +kernel
theorem dL_law_1014 : decode cL_law 1014 = .ok (.invokevirtual 105, 3) := by decide +kernel
theorem dL_law_1017 : decode cL_law 1017 = .ok (.aload_n 2, 1) := by decide +kernel
theorem dL_law_1018 : decode cL_law 1018 = .ok (.aload_n 0, 1) := by decide +kernel
theorem dL_law_1019 : decode cL_law 1019 = .ok (.iload_n 3, 1) := by decide +kernel
theorem dL_law_1020 : decode cL_law 1020 = .ok (.iconst 1, 1) := by decide +kernel
theorem dL_law_1021 : decode cL_law 1021 = .ok (.iadd, 1) := by decide +kernel
theorem dL_law_1022 : decode cL_law 1022 = .ok (.iaload, 1) := by decide +kernel
theorem dL_law_1023 : decode cL_law 1023 = .ok (.invokevirtual 108, 3) := by decide +kernel
theorem dL_law_1026 : decode cL_law 1026 = .ok (.if_icmp .eq 702, 3) := by decide +kernel
theorem dL_law_1029 : decode cL_law 1029 = .ok (.iconst 0, 1) := by decide +kernel
theorem dL_law_1030 : decode cL_law 1030 = .ok (.ireturn, 1) := by decide +kernel
theorem dL_law_1031 : decode cL_law 1031 = .ok (.aload_n 1, 1) := by decide +kernel
theorem dL_law_1032 : decode cL_law 1032 = .ok (.aload_n 0, 1) := by decide +kernel
theorem dL_law_1033 : decode cL_law 1033 = .ok (.iload_n 3, 1) := by decide +kernel
theorem dL_law_1034 : decode cL_law 1034 = .ok (.iconst 1, 1) := by decide +kernel
theorem dL_law_1035 : decode cL_law 1035 = .ok (.iadd, 1) := by decide +kernel
theorem dL_law_1036 : decode cL_law 1036 = .ok (.iaload, 1) := by decide +kernel
theorem dL_law_1037 : decode cL_law 1037 = .ok (.aload_n 0, 1) := by decide +kernel
theorem dL_law_1038 : decode cL_law 1038 = .ok (.iload_n 3, 1) := by decide +kernel
theorem dL_law_1039 : decode cL_law 1039 = .ok (.iconst 2, 1) := by decide +kernel
theorem dL_law_1040 : decode cL_law 1040 = .ok (.iadd, 1) := by decide +kernel
theorem dL_law_1041 : decode cL_law 1041 = .ok (.iaload, 1) := by decide +kernel
theorem dL_law_1042 : decode cL_law 1042 = .ok (.invokevirtual 109, 3) := by decide +kernel
theorem dL_law_1045 : decode cL_law 1045 = .ok (.aload_n 2, 1) := by decide +kernel
theorem dL_law_1046 : decode cL_law 1046 = .ok (.aload_n 0, 1) := by decide +kernel
theorem dL_law_1047 : decode cL_law 1047 = .ok (.iload_n 3, 1) := by decide +kernel
theorem dL_law_1048 : decode cL_law 1048 = .ok (.iconst 1, 1) := by decide +kernel
theorem dL_law_1049 : decode cL_law 1049 = .ok (.iadd, 1) := by decide +kernel
theorem dL_law_1050 : decode cL_law 1050 = .ok (.iaload, 1) := by decide +kernel
theorem dL_law_1051 : decode cL_law 1051 = .ok (.aload_n 0, 1) := by decide +kernel
theorem dL_law_1052 : decode cL_law 1052 = .ok (.iload_n 3, 1) := by decide +kernel
theorem dL_law_1053 : decode cL_law 1053 = .ok (.iconst 2, 1) := by decide +kernel
theorem dL_law_1054 : decode cL_law 1054 = .ok (.iadd, 1) := by decide +kernel
theorem dL_law_1055 : decode cL_law 1055 = .ok (.iaload, 1) := by decide +kernel
theorem dL_law_1056 : decode cL_law 1056 = .ok (.invokevirtual 112, 3) := by decide +kernel
theorem dL_law_1059 : decode cL_law 1059 = .ok (.if_icmp .eq 669, 3) := by decide +kernel
theorem dL_law_1062 : decode cL_law 1062 = .ok (.iconst 0, 1) := by decide +kernel
theorem dL_law_1063 : decode cL_law 1063 = .ok (.ireturn, 1) := by decide +kernel
theorem dL_law_1064 : decode cL_law 1064 = .ok (.aload_n 1, 1) := by decide +kernel
theorem dL_law_1065 : decode cL_law 1065 = .ok (.invokevirtual 113, 3) := by decide +kernel
theorem dL_law_1068 : decode cL_law 1068 = .ok (.aload_n 2, 1) := by decide +kernel
theorem dL_law_1069 : decode cL_law 1069 = .ok (.invokevirtual 117, 3) := by decide +kernel
theorem dL_law_1072 : decode cL_law 1072 = .ok (.if_icmp .eq 656, 3) := by decide +kernel
theorem dL_law_1075 : decode cL_law 1075 = .ok (.iconst 0, 1) := by decide +kernel
theorem dL_law_1076 : decode cL_law 1076 = .ok (.ireturn, 1) := by decide +kernel
theorem dL_law_1077 : decode cL_law 1077 = .ok (.aload_n 1, 1) := by decide +kernel
theorem dL_law_1078 : decode cL_law 1078 = .ok (.aload_n 0, 1) := by decide +kernel
theorem dL_law_1079 : decode cL_law 1079 = .ok (.iload_n 3, 1) := by decide +kernel
theorem dL_law_1080 : decode cL_law 1080 = .ok (.iconst 1, 1) := by decide +kernel
theorem dL_law_1081 : decode cL_law 1081 = .ok (.iadd, 1) := by decide +kernel
theorem dL_law_1082 : decode cL_law 1082 = .ok (.iaload, 1) := by decide +kernel
theorem dL_law_1083 : decode cL_law 1083 = .ok (.invokevirtual 118, 3) := by decide +kernel
theorem dL_law_1086 : decode cL_law 1086 = .ok (.aload_n 2, 1) := by decide +kernel
theorem dL_law_1087 : decode cL_law 1087 = .ok (.aload_n 0, 1) := by decide +kernel
theorem dL_law_1088 : decode cL_law 1088 = .ok (.iload_n 3, 1) := by decide +kernel
theorem dL_law_1089 : decode cL_law 1089 = .ok (.iconst 1, 1) := by decide +kernel
theorem dL_law_1090 : decode cL_law 1090 = .ok (.iadd, 1) := by decide +kernel
theorem dL_law_1091 : decode cL_law 1091 = .ok (.iaload, 1) := by decide +kernel
theorem dL_law_1092 : decode cL_law 1092 = .ok (.invokevirtual 121, 3) := by decide +kernel
theorem dL_law_1095 : decode cL_law 1095 = .ok (.if_icmp .eq 633, 3) := by decide +kernel
theorem dL_law_1098 : decode cL_law 1098 = .ok (.iconst 0, 1) := by decide +kernel
theorem dL_law_1099 : decode cL_law 1099 = .ok (.ireturn, 1) := by decide +kernel
theorem dL_law_1100 : decode cL_law 1100 = .ok (.aload_n 1, 1) := by decide +kernel
theorem dL_law_1101 : decode cL_law 1101 = .ok (.invokevirtual 122, 3) := by decide +kernel
theorem dL_law_1104 : decode cL_law 1104 = .ok (.aload_n 2, 1) := by decide +kernel
theorem dL_law_1105 : decode cL_law 1105 = .ok (.invokevirtual 125, 3) := by decide +kernel
theorem dL_law_1108 : decode cL_law 1108 = .ok (.if_icmp .eq 620, 3) := by decide +kernel
theorem dL_law_1111 : decode cL_law 1111 = .ok (.iconst 0, 1) := by decide +kernel
theorem dL_law_1112 : decode cL_law 1112 = .ok (.ireturn, 1) := by decide +kernel
theorem dL_law_1113 : decode cL_law 1113 = .ok (.aload_n 1, 1) := by decide +kernel
theorem dL_law_1114 : decode cL_law 1114 = .ok (.aload_n 0, 1) := by decide +kernel
theorem dL_law_1115 : decode cL_law 1115 = .ok (.iload_n 3, 1) := by decide +kernel
theorem dL_law_1116 : decode cL_law 1116 = .ok (.iconst 1, 1) := by decide +kernel
theorem dL_law_1117 : decode cL_law 1117 = .ok (.iadd, 1) := by decide +kernel
theorem dL_law_1118 : decode cL_law 1118 = .ok (.iaload, 1) := by decide +kernel
theorem dL_law_1119 : decode cL_law 1119 = .ok (.invokevirtual 126, 3) := by decide +kernel
theorem dL_law_1122 : decode cL_law 1122 = .ok (.aload_n 2, 1) := by decide +kernel
theorem dL_law_1123 : decode cL_law 1123 = .ok (.aload_n 0, 1) := by decide +kernel
theorem dL_law_1124 : decode cL_law 1124 = .ok (.iload_n 3, 1) := by decide +kernel
theorem dL_law_1125 : decode cL_law 1125 = .ok (.iconst 1, 1) := by decide +kernel
theorem dL_law_1126 : decode cL_law 1126 = .ok (.iadd, 1) := by decide +kernel
theorem dL_law_1127 : decode cL_law 1127 = .ok (.iaload, 1) := by decide +kernel
theorem dL_law_1128 : decode cL_law 1128 = .ok (.invokevirtual 129, 3) := by decide +kernel
theorem dL_law_1131 : decode cL_law 1131 = .ok (.if_icmp .eq 597, 3) := by decide +kernel
theorem dL_law_1134 : decode cL_law 1134 = .ok (.iconst 0, 1) := by decide +kernel
theorem dL_law_1135 : decode cL_law 1135 = .ok (.ireturn, 1) := by decide +kernel
theorem dL_law_1136 : decode cL_law 1136 = .ok (.aload_n 1, 1) := by decide +kernel
theorem dL_law_1137 : decode cL_law 1137 = .ok (.aload_n 0, 1) := by decide +kernel
theorem dL_law_1138 : decode cL_law 1138 = .ok (.iload_n 3, 1) := by decide +kernel
theorem dL_law_1139 : decode cL_law 1139 = .ok (.iconst 1, 1) := by decide +kernel
theorem dL_law_1140 : decode cL_law 1140 = .ok (.iadd, 1) := by decide +kernel
theorem dL_law_1141 : decode cL_law 1141 = .ok (.iaload, 1) := by decide +kernel
theorem dL_law_1142 : decode cL_law 1142 = .ok (.invokevirtual 130, 3) := by decide +kernel
theorem dL_law_1145 : decode cL_law 1145 = .ok (.aload_n 2, 1) := by decide +kernel
theorem dL_law_1146 : decode cL_law 1146 = .ok (.aload_n 0, 1) := by decide +kernel
theorem dL_law_1147 : decode cL_law 1147 = .ok (.iload_n 3, 1) := by decide +kernel
theorem dL_law_1148 : decode cL_law 1148 = .ok (.iconst 1, 1) := by decide +kernel
theorem dL_law_1149 : decode cL_law 1149 = .ok (.iadd, 1) := by decide +kernel
theorem dL_law_1150 : decode cL_law 1150 = .ok (.iaload, 1) := by decide +kernel
theorem dL_law_1151 : decode cL_law 1151 = .ok (.invokevirtual 133, 3) := by decide +kernel
theorem dL_law_1154 : decode cL_law 1154 = .ok (.if_icmp .eq 574, 3) := by decide +kernel
theorem dL_law_1157 : decode cL_law 1157 = .ok (.iconst 0, 1) := by decide +kernel
theorem dL_law_1158 : decode cL_law 1158 = .ok (.ireturn, 1) := by decide +kernel
theorem dL_law_1159 : decode cL_law 1159 = .ok (.aload_n 1, 1) := by decide +kernel
theorem dL_law_1160 : decode cL_law 1160 = .ok (.aload_n 0, 1) := by decide +kernel
theorem dL_law_1161 : decode cL_law 1161 = .ok (.iload_n 3, 1) := by decide +kernel
theorem dL_law_1162 : decode cL_law 1162 = .ok (.iconst 1, 1) := by decide +kernel
theorem dL_law_1163 : decode cL_law 1163 = .ok (.iadd, 1) := by decide +kernel
theorem dL_law_1164 : decode cL_law 1164 = .ok (.iaload, 1) := by decide +kernel
theorem dL_law_1165 : decode cL_law 1165 = .ok (.aload_n 0, 1) := by decide +kernel
theorem dL_law_1166 : decode cL_law 1166 = .ok (.iload_n 3, 1) := by decide +kernel
theorem dL_law_1167 : decode cL_law 1167 = .ok (.iconst 2, 1) := by decide +kernel
theorem dL_law_1168 : decode cL_law 1168 = .ok (.iadd, 1) := by decide +kernel
theorem dL_law_1169 : decode cL_law 1169 = .ok (.iaload, 1) := by decide +kernel
theorem dL_law_1170 : decode cL_law 1170 = .ok (.invokevirtual 134, 3) := by decide +kernel
theorem dL_law_1173 : decode cL_law 1173 = .ok (.aload_n 2, 1) := by decide +kernel
theorem dL_law_1174 : decode cL_law 1174 = .ok (.aload_n 0, 1) := by decide +kernel
theorem dL_law_1175 : decode cL_law 1175 = .ok (.iload_n 3, 1) := by decide +kernel
theorem dL_law_1176 : decode cL_law 1176 = .ok (.iconst 1, 1) := by decide +kernel
theorem dL_law_1177 : decode cL_law 1177 = .ok (.iadd, 1) := by decide +kernel
theorem dL_law_1178 : decode cL_law 1178 = .ok (.iaload, 1) := by decide +kernel
theorem dL_law_1179 : decode cL_law 1179 = .ok (.aload_n 0, 1) := by decide +kernel
theorem dL_law_1180 : decode cL_law 1180 = .ok (.iload_n 3, 1) := by decide +kernel
theorem dL_law_1181 : decode cL_law 1181 = .ok (.iconst 2, 1) := by decide +kernel
theorem dL_law_1182 : decode cL_law 1182 = .ok (.iadd, 1) := by decide +kernel
theorem dL_law_1183 : decode cL_law 1183 = .ok (.iaload, 1) := by decide +kernel
theorem dL_law_1184 : decode cL_law 1184 = .ok (.invokevirtual 137, 3) := by decide +kernel
theorem dL_law_1187 : decode cL_law 1187 = .ok (.if_icmp .eq 541, 3) := by decide +kernel
theorem dL_law_1190 : decode cL_law 1190 = .ok (.iconst 0, 1) := by decide +kernel
theorem dL_law_1191 : decode cL_law 1191 = .ok (.ireturn, 1) := by decide +kernel
theorem dL_law_1192 : decode cL_law 1192 = .ok (.aload_n 1, 1) := by decide +kernel
theorem dL_law_1193 : decode cL_law 1193 = .ok (.aload_n 0, 1) := by decide +kernel
theorem dL_law_1194 : decode cL_law 1194 = .ok (.iload_n 3, 1) := by decide +kernel
theorem dL_law_1195 : decode cL_law 1195 = .ok (.iconst 1, 1) := by decide +kernel
theorem dL_law_1196 : decode cL_law 1196 = .ok (.iadd, 1) := by decide +kernel
theorem dL_law_1197 : decode cL_law 1197 = .ok (.iaload, 1) := by decide +kernel
theorem dL_law_1198 : decode cL_law 1198 = .ok (.aload_n 0, 1) := by decide +kernel
theorem dL_law_1199 : decode cL_law 1199 = .ok (.iload_n 3, 1) := by decide +kernel
theorem dL_law_1200 : decode cL_law 1200 = .ok (.iconst 2, 1) := by decide +kernel
theorem dL_law_1201 : decode cL_law 1201 = .ok (.iadd, 1) := by decide +kernel
theorem dL_law_1202 : decode cL_law 1202 = .ok (.iaload, 1) := by decide +kernel
theorem dL_law_1203 : decode cL_law 1203 = .ok (.invokevirtual 138, 3) := by decide +kernel
theorem dL_law_1206 : decode cL_law 1206 = .ok (.aload_n 2, 1) := by decide +kernel
theorem dL_law_1207 : decode cL_law 1207 = .ok (.aload_n 0, 1) := by decide +kernel
theorem dL_law_1208 : decode cL_law 1208 = .ok (.iload_n 3, 1) := by decide +kernel
theorem dL_law_1209 : decode cL_law 1209 = .ok (.iconst 1, 1) := by decide +kernel
theorem dL_law_1210 : decode cL_law 1210 = .ok (.iadd, 1) := by decide +kernel
theorem dL_law_1211 : decode cL_law 1211 = .ok (.iaload, 1) := by decide +kernel
theorem dL_law_1212 : decode cL_law 1212 = .ok (.aload_n 0, 1) := by decide +kernel
theorem dL_law_1213 : decode cL_law 1213 = .ok (.iload_n 3, 1) := by decide +kernel
theorem dL_law_1214 : decode cL_law 1214 = .ok (.iconst 2, 1) := by decide +kernel
theorem dL_law_1215 : decode cL_law 1215 = .ok (.iadd, 1) := by decide +kernel
theorem dL_law_1216 : decode cL_law 1216 = .ok (.iaload, 1) := by decide +kernel
theorem dL_law_1217 : decode cL_law 1217 = .ok (.invokevirtual 141, 3) := by decide +kernel
theorem dL_law_1220 : decode cL_law 1220 = .ok (.if_icmp .eq 508, 3) := by decide +kernel
theorem dL_law_1223 : decode cL_law 1223 = .ok (.iconst 0, 1) := by decide +kernel
theorem dL_law_1224 : decode cL_law 1224 = .ok (.ireturn, 1) := by decide +kernel
theorem dL_law_1225 : decode cL_law 1225 = .ok (.aload_n 1, 1) := by decide +kernel
theorem dL_law_1226 : decode cL_law 1226 = .ok (.aload_n 0, 1) := by decide +kernel
theorem dL_law_1227 : decode cL_law 1227 = .ok (.iload_n 3, 1) := by decide +kernel
theorem dL_law_1228 : decode cL_law 1228 = .ok (.iconst 1, 1) := by decide +kernel
theorem dL_law_1229 : decode cL_law 1229 = .ok (.iadd, 1) := by decide +kernel
theorem dL_law_1230 : decode cL_law 1230 = .ok (.iaload, 1) := by decide +kernel
theorem dL_law_1231 : decode cL_law 1231 = .ok (.invokevirtual 142, 3) := by decide +kernel
theorem dL_law_1234 : decode cL_law 1234 = .ok (.aload_n 2, 1) := by decide +kernel
theorem dL_law_1235 : decode cL_law 1235 = .ok (.aload_n 0, 1) := by decide +kernel
theorem dL_law_1236 : decode cL_law 1236 = .ok (.iload_n 3, 1) := by decide +kernel
theorem dL_law_1237 : decode cL_law 1237 = .ok (.iconst 1, 1) := by decide +kernel
theorem dL_law_1238 : decode cL_law 1238 = .ok (.iadd, 1) := by decide +kernel
theorem dL_law_1239 : decode cL_law 1239 = .ok (.iaload, 1) := by decide +kernel
theorem dL_law_1240 : decode cL_law 1240 = .ok (.invokevirtual 145, 3) := by decide +kernel
theorem dL_law_1243 : decode cL_law 1243 = .ok (.if_icmp .eq 485, 3) := by decide +kernel
theorem dL_law_1246 : decode cL_law 1246 = .ok (.iconst 0, 1) := by decide +kernel
theorem dL_law_1247 : decode cL_law 1247 = .ok (.ireturn, 1) := by decide +kernel
theorem dL_law_1248 : decode cL_law 1248 = .ok (.aload_n 1, 1) := by decide +kernel
theorem dL_law_1249 : decode cL_law 1249 = .ok (.aload_n 0, 1) := by decide +kernel
theorem dL_law_1250 : decode cL_law 1250 = .ok (.iload_n 3, 1) := by decide +kernel
theorem dL_law_1251 : decode cL_law 1251 = .ok (.iconst 1, 1) := by decide +kernel
theorem dL_law_1252 : decode cL_law 1252 = .ok (.iadd, 1) := by decide +kernel
theorem dL_law_1253 : decode cL_law 1253 = .ok (.iaload, 1) := by decide +kernel
theorem dL_law_1254 : decode cL_law 1254 = .ok (.aload_n 0, 1) := by decide +kernel
theorem dL_law_1255 : decode cL_law 1255 = .ok (.iload_n 3, 1) := by decide +kernel
theorem dL_law_1256 : decode cL_law 1256 = .ok (.iconst 2, 1) := by decide +kernel
theorem dL_law_1257 : decode cL_law 1257 = .ok (.iadd, 1) := by decide +kernel
theorem dL_law_1258 : decode cL_law 1258 = .ok (.iaload, 1) := by decide +kernel
theorem dL_law_1259 : decode cL_law 1259 = .ok (.aload_n 0, 1) := by decide +kernel
theorem dL_law_1260 : decode cL_law 1260 = .ok (.iload_n 3, 1) := by decide +kernel
theorem dL_law_1261 : decode cL_law 1261 = .ok (.iconst 3, 1) := by decide +kernel
theorem dL_law_1262 : decode cL_law 1262 = .ok (.iadd, 1) := by decide +kernel
theorem dL_law_1263 : decode cL_law 1263 = .ok (.iaload, 1) := by decide +kernel
theorem dL_law_1264 : decode cL_law 1264 = .ok (.invokevirtual 146, 3) := by decide +kernel
theorem dL_law_1267 : decode cL_law 1267 = .ok (.aload_n 2, 1) := by decide +kernel
theorem dL_law_1268 : decode cL_law 1268 = .ok (.aload_n 0, 1) := by decide +kernel
theorem dL_law_1269 : decode cL_law 1269 = .ok (.iload_n 3, 1) := by decide +kernel
theorem dL_law_1270 : decode cL_law 1270 = .ok (.iconst 1, 1) := by decide +kernel
theorem dL_law_1271 : decode cL_law 1271 = .ok (.iadd, 1) := by decide +kernel
theorem dL_law_1272 : decode cL_law 1272 = .ok (.iaload, 1) := by decide +kernel
theorem dL_law_1273 : decode cL_law 1273 = .ok (.aload_n 0, 1) := by decide +kernel
theorem dL_law_1274 : decode cL_law 1274 = .ok (.iload_n 3, 1) := by decide +kernel
theorem dL_law_1275 : decode cL_law 1275 = .ok (.iconst 2, 1) := by decide +kernel
theorem dL_law_1276 : decode cL_law 1276 = .ok (.iadd, 1) := by decide +kernel
theorem dL_law_1277 : decode cL_law 1277 = .ok (.iaload, 1) := by decide +kernel
theorem dL_law_1278 : decode cL_law 1278 = .ok (.aload_n 0, 1) := by decide +kernel
theorem dL_law_1279 : decode cL_law 1279 = .ok (.iload_n 3, 1) := by decide +kernel
theorem dL_law_1280 : decode cL_law 1280 = .ok (.iconst 3, 1) := by decide +kernel
theorem dL_law_1281 : decode cL_law 1281 = .ok (.iadd, 1) := by decide +kernel
theorem dL_law_1282 : decode cL_law 1282 = .ok (.iaload, 1) := by decide +kernel
theorem dL_law_1283 : decode cL_law 1283 = .ok (.invokevirtual 149, 3) := by decide +kernel
theorem dL_law_1286 : decode cL_law 1286 = .ok (.if_icmp .eq 442, 3) := by decide +kernel
theorem dL_law_1289 : decode cL_law 1289 = .ok (.iconst 0, 1) := by decide +kernel
theorem dL_law_1290 : decode cL_law 1290 = .ok (.ireturn, 1) := by decide +kernel
theorem dL_law_1291 : decode cL_law 1291 = .ok (.aload_n 1, 1) := by decide +kernel
theorem dL_law_1292 : decode cL_law 1292 = .ok (.aload_n 0, 1) := by decide +kernel
theorem dL_law_1293 : decode cL_law 1293 = .ok (.iload_n 3, 1) := by decide +kernel
theorem dL_law_1294 : decode cL_law 1294 = .ok (.iconst 1, 1) := by decide +kernel
theorem dL_law_1295 : decode cL_law 1295 = .ok (.iadd, 1) := by decide +kernel
theorem dL_law_1296 : decode cL_law 1296 = .ok (.iaload, 1) := by decide +kernel
theorem dL_law_1297 : decode cL_law 1297 = .ok (.invokevirtual 150, 3) := by decide +kernel
theorem dL_law_1300 : decode cL_law 1300 = .ok (.aload_n 2, 1) := by decide +kernel
theorem dL_law_1301 : decode cL_law 1301 = .ok (.aload_n 0, 1) := by decide +kernel
theorem dL_law_1302 : decode cL_law 1302 = .ok (.iload_n 3, 1) := by decide +kernel
theorem dL_law_1303 : decode cL_law 1303 = .ok (.iconst 1, 1) := by decide +kernel
theorem dL_law_1304 : decode cL_law 1304 = .ok (.iadd, 1) := by decide +kernel
theorem dL_law_1305 : decode cL_law 1305 = .ok (.iaload, 1) := by decide +kernel
theorem dL_law_1306 : decode cL_law 1306 = .ok (.invokevirtual 153, 3) := by decide +kernel
theorem dL_law_1309 : decode cL_law 1309 = .ok (.if_icmp .eq 419, 3) := by decide +kernel
theorem dL_law_1312 : decode cL_law 1312 = .ok (.iconst 0, 1) := by decide +kernel
theorem dL_law_1313 : decode cL_law 1313 = .ok (.ireturn, 1) := by decide +kernel
theorem dL_law_1314 : decode cL_law 1314 = .ok (.aload_n 1, 1) := by decide +kernel
theorem dL_law_1315 : decode cL_law 1315 = .ok (.aload_n 0, 1) := by decide +kernel
theorem dL_law_1316 : decode cL_law 1316 = .ok (.iload_n 3, 1) := by decide +kernel
theorem dL_law_1317 : decode cL_law 1317 = .ok (.iconst 1, 1) := by decide +kernel
theorem dL_law_1318 : decode cL_law 1318 = .ok (.iadd, 1) := by decide +kernel
theorem dL_law_1319 : decode cL_law 1319 = .ok (.iaload, 1) := by decide +kernel
theorem dL_law_1320 : decode cL_law 1320 = .ok (.aload_n 0, 1) := by decide +kernel
theorem dL_law_1321 : decode cL_law 1321 = .ok (.iload_n 3, 1) := by decide +kernel
theorem dL_law_1322 : decode cL_law 1322 = .ok (.iconst 2, 1) := by decide +kernel
theorem dL_law_1323 : decode cL_law 1323 = .ok (.iadd, 1) := by decide +kernel
theorem dL_law_1324 : decode cL_law 1324 = .ok (.iaload, 1) := by decide +kernel
theorem dL_law_1325 : decode cL_law 1325 = .ok (.aload_n 0, 1) := by decide +kernel
theorem dL_law_1326 : decode cL_law 1326 = .ok (.iload_n 3, 1) := by decide +kernel
theorem dL_law_1327 : decode cL_law 1327 = .ok (.iconst 3, 1) := by decide +kernel
theorem dL_law_1328 : decode cL_law 1328 = .ok (.iadd, 1) := by decide +kernel
theorem dL_law_1329 : decode cL_law 1329 = .ok (.iaload, 1) := by decide +kernel
theorem dL_law_1330 : decode cL_law 1330 = .ok (.invokevirtual 154, 3) := by decide +kernel
theorem dL_law_1333 : decode cL_law 1333 = .ok (.aload_n 2, 1) := by decide +kernel
theorem dL_law_1334 : decode cL_law 1334 = .ok (.aload_n 0, 1) := by decide +kernel
theorem dL_law_1335 : decode cL_law 1335 = .ok (.iload_n 3, 1) := by decide +kernel
theorem dL_law_1336 : decode cL_law 1336 = .ok (.iconst 1, 1) := by decide +kernel
theorem dL_law_1337 : decode cL_law 1337 = .ok (.iadd, 1) := by decide +kernel
theorem dL_law_1338 : decode cL_law 1338 = .ok (.iaload, 1) := by decide +kernel
theorem dL_law_1339 : decode cL_law 1339 = .ok (.aload_n 0, 1) := by decide +kernel
theorem dL_law_1340 : decode cL_law 1340 = .ok (.iload_n 3, 1) := by decide +kernel
theorem dL_law_1341 : decode cL_law 1341 = .ok (.iconst 2, 1) := by decide +kernel
theorem dL_law_1342 : decode cL_law 1342 = .ok (.iadd, 1) := by decide +kernel
theorem dL_law_1343 : decode cL_law 1343 = .ok (.iaload, 1) := by decide +kernel
theorem dL_law_1344 : decode cL_law 1344 = .ok (.aload_n 0, 1) := by decide +kernel
theorem dL_law_1345 : decode cL_law 1345 = .ok (.iload_n 3, 1) := by decide +kernel
theorem dL_law_1346 : decode cL_law 1346 = .ok (.iconst 3, 1) := by decide +kernel
theorem dL_law_1347 : decode cL_law 1347 = .ok (.iadd, 1) := by decide +kernel
theorem dL_law_1348 : decode cL_law 1348 = .ok (.iaload, 1) := by decide +kernel
theorem dL_law_1349 : decode cL_law 1349 = .ok (.invokevirtual 157, 3) := by decide +kernel
theorem dL_law_1352 : decode cL_law 1352 = .ok (.if_icmp .eq 376, 3) := by decide +kernel
theorem dL_law_1355 : decode cL_law 1355 = .ok (.iconst 0, 1) := by decide +kernel
theorem dL_law_1356 : decode cL_law 1356 = .ok (.ireturn, 1) := by decide +kernel
theorem dL_law_1357 : decode cL_law 1357 = .ok (.aload_n 1, 1) := by decide +kernel
theorem dL_law_1358 : decode cL_law 1358 = .ok (.aload_n 0, 1) := by decide +kernel
theorem dL_law_1359 : decode cL_law 1359 = .ok (.iload_n 3, 1) := by decide +kernel
theorem dL_law_1360 : decode cL_law 1360 = .ok (.iconst 1, 1) := by decide +kernel
theorem dL_law_1361 : decode cL_law 1361 = .ok (.iadd, 1) := by decide +kernel
theorem dL_law_1362 : decode cL_law 1362 = .ok (.iaload, 1) := by decide +kernel
theorem dL_law_1363 : decode cL_law 1363 = .ok (.invokevirtual 158, 3) := by decide +kernel
theorem dL_law_1366 : decode cL_law 1366 = .ok (.aload_n 2, 1) := by decide +kernel
theorem dL_law_1367 : decode cL_law 1367 = .ok (.aload_n 0, 1) := by decide +kernel
theorem dL_law_1368 : decode cL_law 1368 = .ok (.iload_n 3, 1) := by decide +kernel
theorem dL_law_1369 : decode cL_law 1369 = .ok (.iconst 1, 1) := by decide +kernel
theorem dL_law_1370 : decode cL_law 1370 = .ok (.iadd, 1) := by decide +kernel
theorem dL_law_1371 : decode cL_law 1371 = .ok (.iaload, 1) := by decide +kernel
theorem dL_law_1372 : decode cL_law 1372 = .ok (.invokevirtual 161, 3) := by decide +kernel
theorem dL_law_1375 : decode cL_law 1375 = .ok (.if_icmp .eq 353, 3) := by decide +kernel
theorem dL_law_1378 : decode cL_law 1378 = .ok (.iconst 0, 1) := by decide +kernel
theorem dL_law_1379 : decode cL_law 1379 = .ok (.ireturn, 1) := by decide +kernel
theorem dL_law_1380 : decode cL_law 1380 = .ok (.aload_n 1, 1) := by decide +kernel
theorem dL_law_1381 : decode cL_law 1381 = .ok (.aload_n 0, 1) := by decide +kernel
theorem dL_law_1382 : decode cL_law 1382 = .ok (.iload_n 3, 1) := by decide +kernel
theorem dL_law_1383 : decode cL_law 1383 = .ok (.iconst 1, 1) := by decide +kernel
theorem dL_law_1384 : decode cL_law 1384 = .ok (.iadd, 1) := by decide +kernel
theorem dL_law_1385 : decode cL_law 1385 = .ok (.iaload, 1) := by decide +kernel
theorem dL_law_1386 : decode cL_law 1386 = .ok (.aload_n 0, 1) := by decide +kernel
theorem dL_law_1387 : decode cL_law 1387 = .ok (.iload_n 3, 1) := by decide +kernel
theorem dL_law_1388 : decode cL_law 1388 = .ok (.iconst 2, 1) := by decide +kernel
theorem dL_law_1389 : decode cL_law 1389 = .ok (.iadd, 1) := by decide +kernel
theorem dL_law_1390 : decode cL_law 1390 = .ok (.iaload, 1) := by decide +kernel
theorem dL_law_1391 : decode cL_law 1391 = .ok (.aload_n 0, 1) := by decide +kernel
theorem dL_law_1392 : decode cL_law 1392 = .ok (.iload_n 3, 1) := by decide +kernel
theorem dL_law_1393 : decode cL_law 1393 = .ok (.iconst 3, 1) := by decide +kernel
theorem dL_law_1394 : decode cL_law 1394 = .ok (.iadd, 1) := by decide +kernel
theorem dL_law_1395 : decode cL_law 1395 = .ok (.iaload, 1) := by decide +kernel
theorem dL_law_1396 : decode cL_law 1396 = .ok (.invokevirtual 162, 3) := by decide +kernel
theorem dL_law_1399 : decode cL_law 1399 = .ok (.aload_n 2, 1) := by decide +kernel
theorem dL_law_1400 : decode cL_law 1400 = .ok (.aload_n 0, 1) := by decide +kernel
theorem dL_law_1401 : decode cL_law 1401 = .ok (.iload_n 3, 1) := by decide +kernel
theorem dL_law_1402 : decode cL_law 1402 = .ok (.iconst 1, 1) := by decide +kernel
theorem dL_law_1403 : decode cL_law 1403 = .ok (.iadd, 1) := by decide +kernel
theorem dL_law_1404 : decode cL_law 1404 = .ok (.iaload, 1) := by decide +kernel
theorem dL_law_1405 : decode cL_law 1405 = .ok (.aload_n 0, 1) := by decide +kernel
theorem dL_law_1406 : decode cL_law 1406 = .ok (.iload_n 3, 1) := by decide +kernel
theorem dL_law_1407 : decode cL_law 1407 = .ok (.iconst 2, 1) := by decide +kernel
theorem dL_law_1408 : decode cL_law 1408 = .ok (.iadd, 1) := by decide +kernel
theorem dL_law_1409 : decode cL_law 1409 = .ok (.iaload, 1) := by decide +kernel
theorem dL_law_1410 : decode cL_law 1410 = .ok (.aload_n 0, 1) := by decide +kernel
theorem dL_law_1411 : decode cL_law 1411 = .ok (.iload_n 3, 1) := by decide +kernel
theorem dL_law_1412 : decode cL_law 1412 = .ok (.iconst 3, 1) := by decide +kernel
theorem dL_law_1413 : decode cL_law 1413 = .ok (.iadd, 1) := by decide +kernel
theorem dL_law_1414 : decode cL_law 1414 = .ok (.iaload, 1) := by decide +kernel
theorem dL_law_1415 : decode cL_law 1415 = .ok (.invokevirtual 165, 3) := by decide +kernel
theorem dL_law_1418 : decode cL_law 1418 = .ok (.if_icmp .eq 310, 3) := by decide +kernel
theorem dL_law_1421 : decode cL_law 1421 = .ok (.iconst 0, 1) := by decide +kernel
theorem dL_law_1422 : decode cL_law 1422 = .ok (.ireturn, 1) := by decide +kernel
theorem dL_law_1423 : decode cL_law 1423 = .ok (.aload_n 1, 1) := by decide +kernel
theorem dL_law_1424 : decode cL_law 1424 = .ok (.aload_n 0, 1) := by decide +kernel
theorem dL_law_1425 : decode cL_law 1425 = .ok (.iload_n 3, 1) := by decide +kernel
theorem dL_law_1426 : decode cL_law 1426 = .ok (.iconst 1, 1) := by decide +kernel
theorem dL_law_1427 : decode cL_law 1427 = .ok (.iadd, 1) := by decide +kernel
theorem dL_law_1428 : decode cL_law 1428 = .ok (.iaload, 1) := by decide +kernel
theorem dL_law_1429 : decode cL_law 1429 = .ok (.aload_n 0, 1) := by decide +kernel
theorem dL_law_1430 : decode cL_law 1430 = .ok (.iload_n 3, 1) := by decide +kernel
theorem dL_law_1431 : decode cL_law 1431 = .ok (.iconst 2, 1) := by decide +kernel
theorem dL_law_1432 : decode cL_law 1432 = .ok (.iadd, 1) := by decide +kernel
theorem dL_law_1433 : decode cL_law 1433 = .ok (.iaload, 1) := by decide +kernel
theorem dL_law_1434 : decode cL_law 1434 = .ok (.invokevirtual 166, 3) := by decide +kernel
theorem dL_law_1437 : decode cL_law 1437 = .ok (.aload_n 2, 1) := by decide +kernel
theorem dL_law_1438 : decode cL_law 1438 = .ok (.aload_n 0, 1) := by decide +kernel
theorem dL_law_1439 : decode cL_law 1439 = .ok (.iload_n 3, 1) := by decide +kernel
theorem dL_law_1440 : decode cL_law 1440 = .ok (.iconst 1, 1) := by decide +kernel
theorem dL_law_1441 : decode cL_law 1441 = .ok (.iadd, 1) := by decide +kernel
theorem dL_law_1442 : decode cL_law 1442 = .ok (.iaload, 1) := by decide +kernel
theorem dL_law_1443 : decode cL_law 1443 = .ok (.aload_n 0, 1) := by decide +kernel
theorem dL_law_1444 : decode cL_law 1444 = .ok (.iload_n 3, 1) := by decide +kernel
theorem dL_law_1445 : decode cL_law 1445 = .ok (.iconst 2, 1) := by decide +kernel
theorem dL_law_1446 : decode cL_law 1446 = .ok (.iadd, 1) := by decide +kernel
theorem dL_law_1447 : decode cL_law 1447 = .ok (.iaload, 1) := by decide +kernel
theorem dL_law_1448 : decode cL_law 1448 = .ok (.invokevirtual 169, 3) := by decide +kernel
theorem dL_law_1451 : decode cL_law 1451 = .ok (.if_icmp .eq 277, 3) := by decide +kernel
theorem dL_law_1454 : decode cL_law 1454 = .ok (.iconst 0, 1) := by decide +kernel
theorem dL_law_1455 : decode cL_law 1455 = .ok (.ireturn, 1) := by decide +kernel
theorem dL_law_1456 : decode cL_law 1456 = .ok (.aload_n 1, 1) := by decide +kernel
theorem dL_law_1457 : decode cL_law 1457 = .ok (.aload_n 0, 1) := by decide +kernel
theorem dL_law_1458 : decode cL_law 1458 = .ok (.iload_n 3, 1) := by decide +kernel
theorem dL_law_1459 : decode cL_law 1459 = .ok (.iconst 1, 1) := by decide +kernel
theorem dL_law_1460 : decode cL_law 1460 = .ok (.iadd, 1) := by decide +kernel
theorem dL_law_1461 : decode cL_law 1461 = .ok (.iaload, 1) := by decide +kernel
theorem dL_law_1462 : decode cL_law 1462 = .ok (.aload_n 0, 1) := by decide +kernel
theorem dL_law_1463 : decode cL_law 1463 = .ok (.iload_n 3, 1) := by decide +kernel
theorem dL_law_1464 : decode cL_law 1464 = .ok (.iconst 2, 1) := by decide +kernel
theorem dL_law_1465 : decode cL_law 1465 = .ok (.iadd, 1) := by decide +kernel
theorem dL_law_1466 : decode cL_law 1466 = .ok (.iaload, 1) := by decide +kernel
theorem dL_law_1467 : decode cL_law 1467 = .ok (.invokevirtual 170, 3) := by decide +kernel
theorem dL_law_1470 : decode cL_law 1470 = .ok (.aload_n 2, 1) := by decide +kernel
theorem dL_law_1471 : decode cL_law 1471 = .ok (.aload_n 0, 1) := by decide +kernel
theorem dL_law_1472 : decode cL_law 1472 = .ok (.iload_n 3, 1) := by decide +kernel
theorem dL_law_1473 : decode cL_law 1473 = .ok (.iconst 1, 1) := by decide +kernel
theorem dL_law_1474 : decode cL_law 1474 = .ok (.iadd, 1) := by decide +kernel
theorem dL_law_1475 : decode cL_law 1475 = .ok (.iaload, 1) := by decide +kernel
theorem dL_law_1476 : decode cL_law 1476 = .ok (.aload_n 0, 1) := by decide +kernel
theorem dL_law_1477 : decode cL_law 1477 = .ok (.iload_n 3, 1) := by decide +kernel
theorem dL_law_1478 : decode cL_law 1478 = .ok (.iconst 2, 1) := by decide +kernel
theorem dL_law_1479 : decode cL_law 1479 = .ok (.iadd, 1) := by decide +kernel
theorem dL_law_1480 : decode cL_law 1480 = .ok (.iaload, 1) := by decide +kernel
theorem dL_law_1481 : decode cL_law 1481 = .ok (.invokevirtual 173, 3) := by decide +kernel
theorem dL_law_1484 : decode cL_law 1484 = .ok (.if_icmp .eq 244, 3) := by decide +kernel
theorem dL_law_1487 : decode cL_law 1487 = .ok (.iconst 0, 1) := by decide +kernel
theorem dL_law_1488 : decode cL_law 1488 = .ok (.ireturn, 1) := by decide +kernel
theorem dL_law_1489 : decode cL_law 1489 = .ok (.aload_n 1, 1) := by decide +kernel
theorem dL_law_1490 : decode cL_law 1490 = .ok (.invokevirtual 174, 3) := by decide +kernel
theorem dL_law_1493 : decode cL_law 1493 = .ok (.aload_n 2, 1) := by decide +kernel
theorem dL_law_1494 : decode cL_law 1494 = .ok (.invokevirtual 177, 3) := by decide +kernel
theorem dL_law_1497 : decode cL_law 1497 = .ok (.if_icmp .eq 231, 3) := by decide +kernel
theorem dL_law_1500 : decode cL_law 1500 = .ok (.iconst 0, 1) := by decide +kernel
theorem dL_law_1501 : decode cL_law 1501 = .ok (.ireturn, 1) := by decide +kernel
theorem dL_law_1502 : decode cL_law 1502 = .ok (.aload_n 1, 1) := by decide +kernel
theorem dL_law_1503 : decode cL_law 1503 = .ok (.aload_n 0, 1) := by decide +kernel
theorem dL_law_1504 : decode cL_law 1504 = .ok (.iload_n 3, 1) := by decide +kernel
theorem dL_law_1505 : decode cL_law 1505 = .ok (.iconst 1, 1) := by decide +kernel
theorem dL_law_1506 : decode cL_law 1506 = .ok (.iadd, 1) := by decide +kernel
theorem dL_law_1507 : decode cL_law 1507 = .ok (.iaload, 1) := by decide +kernel
theorem dL_law_1508 : decode cL_law 1508 = .ok (.aload_n 0, 1) := by decide +kernel
theorem dL_law_1509 : decode cL_law 1509 = .ok (.iload_n 3, 1) := by decide +kernel
theorem dL_law_1510 : decode cL_law 1510 = .ok (.iconst 2, 1) := by decide +kernel
theorem dL_law_1511 : decode cL_law 1511 = .ok (.iadd, 1) := by decide +kernel
theorem dL_law_1512 : decode cL_law 1512 = .ok (.iaload, 1) := by decide +kernel
theorem dL_law_1513 : decode cL_law 1513 = .ok (.invokevirtual 178, 3) := by decide +kernel
theorem dL_law_1516 : decode cL_law 1516 = .ok (.aload_n 2, 1) := by decide +kernel
theorem dL_law_1517 : decode cL_law 1517 = .ok (.aload_n 0, 1) := by decide +kernel
theorem dL_law_1518 : decode cL_law 1518 = .ok (.iload_n 3, 1) := by decide +kernel
theorem dL_law_1519 : decode cL_law 1519 = .ok (.iconst 1, 1) := by decide +kernel
theorem dL_law_1520 : decode cL_law 1520 = .ok (.iadd, 1) := by decide +kernel
theorem dL_law_1521 : decode cL_law 1521 = .ok (.iaload, 1) := by decide +kernel
theorem dL_law_1522 : decode cL_law 1522 = .ok (.aload_n 0, 1) := by decide +kernel
theorem dL_law_1523 : decode cL_law 1523 = .ok (.iload_n 3, 1) := by decide +kernel
theorem dL_law_1524 : decode cL_law 1524 = .ok (.iconst 2, 1) := by decide +kernel
theorem dL_law_1525 : decode cL_law 1525 = .ok (.iadd, 1) := by decide +kernel
theorem dL_law_1526 : decode cL_law 1526 = .ok (.iaload, 1) := by decide +kernel
theorem dL_law_1527 : decode cL_law 1527 = .ok (.invokevirtual 181, 3) := by decide +kernel
theorem dL_law_1530 : decode cL_law 1530 = .ok (.if_icmp .eq 198, 3) := by decide +kernel
theorem dL_law_1533 : decode cL_law 1533 = .ok (.iconst 0, 1) := by decide +kernel
theorem dL_law_1534 : decode cL_law 1534 = .ok (.ireturn, 1) := by decide +kernel
theorem dL_law_1535 : decode cL_law 1535 = .ok (.aload_n 1, 1) := by decide +kernel
theorem dL_law_1536 : decode cL_law 1536 = .ok (.aload_n 0, 1) := by decide +kernel
theorem dL_law_1537 : decode cL_law 1537 = .ok (.iload_n 3, 1) := by decide +kernel
theorem dL_law_1538 : decode cL_law 1538 = .ok (.iconst 1, 1) := by decide +kernel
theorem dL_law_1539 : decode cL_law 1539 = .ok (.iadd, 1) := by decide +kernel
theorem dL_law_1540 : decode cL_law 1540 = .ok (.iaload, 1) := by decide +kernel
theorem dL_law_1541 : decode cL_law 1541 = .ok (.aload_n 0, 1) := by decide +kernel
theorem dL_law_1542 : decode cL_law 1542 = .ok (.iload_n 3, 1) := by decide +kernel
theorem dL_law_1543 : decode cL_law 1543 = .ok (.iconst 2, 1) := by decide +kernel
theorem dL_law_1544 : decode cL_law 1544 = .ok (.iadd, 1) := by decide +kernel
theorem dL_law_1545 : decode cL_law 1545 = .ok (.iaload, 1) := by decide +kernel
theorem dL_law_1546 : decode cL_law 1546 = .ok (.invokevirtual 182, 3) := by decide +kernel
theorem dL_law_1549 : decode cL_law 1549 = .ok (.aload_n 2, 1) := by decide +kernel
theorem dL_law_1550 : decode cL_law 1550 = .ok (.aload_n 0, 1) := by decide +kernel
theorem dL_law_1551 : decode cL_law 1551 = .ok (.iload_n 3, 1) := by decide +kernel
theorem dL_law_1552 : decode cL_law 1552 = .ok (.iconst 1, 1) := by decide +kernel
theorem dL_law_1553 : decode cL_law 1553 = .ok (.iadd, 1) := by decide +kernel
theorem dL_law_1554 : decode cL_law 1554 = .ok (.iaload, 1) := by decide +kernel
theorem dL_law_1555 : decode cL_law 1555 = .ok (.aload_n 0, 1) := by decide +kernel
theorem dL_law_1556 : decode cL_law 1556 = .ok (.iload_n 3, 1) := by decide +kernel
theorem dL_law_1557 : decode cL_law 1557 = .ok (.iconst 2, 1) := by decide +kernel
theorem dL_law_1558 : decode cL_law 1558 = .ok (.iadd, 1) := by decide +kernel
theorem dL_law_1559 : decode cL_law 1559 = .ok (.iaload, 1) := by decide +kernel
theorem dL_law_1560 : decode cL_law 1560 = .ok (.invokevirtual 185, 3) := by decide +kernel
theorem dL_law_1563 : decode cL_law 1563 = .ok (.if_icmp .eq 165, 3) := by decide +kernel
theorem dL_law_1566 : decode cL_law 1566 = .ok (.iconst 0, 1) := by decide +kernel
theorem dL_law_1567 : decode cL_law 1567 = .ok (.ireturn, 1) := by decide +kernel
theorem dL_law_1568 : decode cL_law 1568 = .ok (.aload_n 1, 1) := by decide +kernel
theorem dL_law_1569 : decode cL_law 1569 = .ok (.aload_n 0, 1) := by decide +kernel
theorem dL_law_1570 : decode cL_law 1570 = .ok (.iload_n 3, 1) := by decide +kernel
theorem dL_law_1571 : decode cL_law 1571 = .ok (.iconst 1, 1) := by decide +kernel
theorem dL_law_1572 : decode cL_law 1572 = .ok (.iadd, 1) := by decide +kernel
theorem dL_law_1573 : decode cL_law 1573 = .ok (.iaload, 1) := by decide +kernel
theorem dL_law_1574 : decode cL_law 1574 = .ok (.aload_n 0, 1) := by decide +kernel
theorem dL_law_1575 : decode cL_law 1575 = .ok (.iload_n 3, 1) := by decide +kernel
theorem dL_law_1576 : decode cL_law 1576 = .ok (.iconst 2, 1) := by decide +kernel
theorem dL_law_1577 : decode cL_law 1577 = .ok (.iadd, 1) := by decide +kernel
theorem dL_law_1578 : decode cL_law 1578 = .ok (.iaload, 1) := by decide +kernel
theorem dL_law_1579 : decode cL_law 1579 = .ok (.invokevirtual 186, 3) := by decide +kernel
theorem dL_law_1582 : decode cL_law 1582 = .ok (.aload_n 2, 1) := by decide +kernel
theorem dL_law_1583 : decode cL_law 1583 = .ok (.aload_n 0, 1) := by decide +kernel
theorem dL_law_1584 : decode cL_law 1584 = .ok (.iload_n 3, 1) := by decide +kernel
theorem dL_law_1585 : decode cL_law 1585 = .ok (.iconst 1, 1) := by decide +kernel
theorem dL_law_1586 : decode cL_law 1586 = .ok (.iadd, 1) := by decide +kernel
theorem dL_law_1587 : decode cL_law 1587 = .ok (.iaload, 1) := by decide +kernel
theorem dL_law_1588 : decode cL_law 1588 = .ok (.aload_n 0, 1) := by decide +kernel
theorem dL_law_1589 : decode cL_law 1589 = .ok (.iload_n 3, 1) := by decide +kernel
theorem dL_law_1590 : decode cL_law 1590 = .ok (.iconst 2, 1) := by decide +kernel
theorem dL_law_1591 : decode cL_law 1591 = .ok (.iadd, 1) := by decide +kernel
theorem dL_law_1592 : decode cL_law 1592 = .ok (.iaload, 1) := by decide +kernel
theorem dL_law_1593 : decode cL_law 1593 = .ok (.invokevirtual 189, 3) := by decide +kernel
theorem dL_law_1596 : decode cL_law 1596 = .ok (.if_icmp .eq 132, 3) := by decide +kernel
theorem dL_law_1599 : decode cL_law 1599 = .ok (.iconst 0, 1) := by decide +kernel
theorem dL_law_1600 : decode cL_law 1600 = .ok (.ireturn, 1) := by decide +kernel
theorem dL_law_1601 : decode cL_law 1601 = .ok (.aload_n 1, 1) := by decide +kernel
theorem dL_law_1602 : decode cL_law 1602 = .ok (.invokevirtual 190, 3) := by decide +kernel
theorem dL_law_1605 : decode cL_law 1605 = .ok (.aload_n 2, 1) := by decide +kernel
theorem dL_law_1606 : decode cL_law 1606 = .ok (.invokevirtual 193, 3) := by decide +kernel
theorem dL_law_1609 : decode cL_law 1609 = .ok (.if_icmp .eq 119, 3) := by decide +kernel
theorem dL_law_1612 : decode cL_law 1612 = .ok (.iconst 0, 1) := by decide +kernel
theorem dL_law_1613 : decode cL_law 1613 = .ok (.ireturn, 1) := by decide +kernel
theorem dL_law_1614 : decode cL_law 1614 = .ok (.aload_n 1, 1) := by decide +kernel
theorem dL_law_1615 : decode cL_law 1615 = .ok (.invokevirtual 194, 3) := by decide +kernel
theorem dL_law_1618 : decode cL_law 1618 = .ok (.aload_n 2, 1) := by decide +kernel
theorem dL_law_1619 : decode cL_law 1619 = .ok (.invokevirtual 197, 3) := by decide +kernel
theorem dL_law_1622 : decode cL_law 1622 = .ok (.if_icmp .eq 106, 3) := by decide +kernel
theorem dL_law_1625 : decode cL_law 1625 = .ok (.iconst 0, 1) := by decide +kernel
theorem dL_law_1626 : decode cL_law 1626 = .ok (.ireturn, 1) := by decide +kernel
theorem dL_law_1627 : decode cL_law 1627 = .ok (.aload_n 1, 1) := by decide +kernel
theorem dL_law_1628 : decode cL_law 1628 = .ok (.invokevirtual 198, 3) := by decide +kernel
theorem dL_law_1631 : decode cL_law 1631 = .ok (.aload_n 2, 1) := by decide +kernel
theorem dL_law_1632 : decode cL_law 1632 = .ok (.invokevirtual 202, 3) := by decide +kernel
theorem dL_law_1635 : decode cL_law 1635 = .ok (.lcmp, 1) := by decide +kernel
theorem dL_law_1636 : decode cL_law 1636 = .ok (.ifCond .eq 92, 3) := by decide +kernel
theorem dL_law_1639 : decode cL_law 1639 = .ok (.iconst 0, 1) := by decide +kernel
theorem dL_law_1640 : decode cL_law 1640 = .ok (.ireturn, 1) := by decide +kernel
theorem dL_law_1641 : decode cL_law 1641 = .ok (.aload_n 1, 1) := by decide +kernel
theorem dL_law_1642 : decode cL_law 1642 = .ok (.invokevirtual 203, 3) := by decide +kernel
theorem dL_law_1645 : decode cL_law 1645 = .ok (.aload_n 2, 1) := by decide +kernel
theorem dL_law_1646 : decode cL_law 1646 = .ok (.invokevirtual 206, 3) := by decide +kernel
theorem dL_law_1649 : decode cL_law 1649 = .ok (.lcmp, 1) := by decide +kernel
theorem dL_law_1650 : decode cL_law 1650 = .ok (.ifCond .eq 78, 3) := by decide +kernel
theorem dL_law_1653 : decode cL_law 1653 = .ok (.iconst 0, 1) := by decide +kernel
theorem dL_law_1654 : decode cL_law 1654 = .ok (.ireturn, 1) := by decide +kernel
theorem dL_law_1655 : decode cL_law 1655 = .ok (.aload_n 1, 1) := by decide +kernel
theorem dL_law_1656 : decode cL_law 1656 = .ok (.aload_n 0, 1) := by decide +kernel
theorem dL_law_1657 : decode cL_law 1657 = .ok (.iload_n 3, 1) := by decide +kernel
theorem dL_law_1658 : decode cL_law 1658 = .ok (.iconst 1, 1) := by decide +kernel
theorem dL_law_1659 : decode cL_law 1659 = .ok (.iadd, 1) := by decide +kernel
theorem dL_law_1660 : decode cL_law 1660 = .ok (.iaload, 1) := by decide +kernel
theorem dL_law_1661 : decode cL_law 1661 = .ok (.invokevirtual 207, 3) := by decide +kernel
theorem dL_law_1664 : decode cL_law 1664 = .ok (.aload_n 2, 1) := by decide +kernel
theorem dL_law_1665 : decode cL_law 1665 = .ok (.aload_n 0, 1) := by decide +kernel
theorem dL_law_1666 : decode cL_law 1666 = .ok (.iload_n 3, 1) := by decide +kernel
theorem dL_law_1667 : decode cL_law 1667 = .ok (.iconst 1, 1) := by decide +kernel
theorem dL_law_1668 : decode cL_law 1668 = .ok (.iadd, 1) := by decide +kernel
theorem dL_law_1669 : decode cL_law 1669 = .ok (.iaload, 1) := by decide +kernel
theorem dL_law_1670 : decode cL_law 1670 = .ok (.invokevirtual 210, 3) := by decide +kernel
theorem dL_law_1673 : decode cL_law 1673 = .ok (.if_icmp .eq 55, 3) := by decide +kernel
theorem dL_law_1676 : decode cL_law 1676 = .ok (.iconst 0, 1) := by decide +kernel
theorem dL_law_1677 : decode cL_law 1677 = .ok (.ireturn, 1) := by decide +kernel
theorem dL_law_1678 : decode cL_law 1678 = .ok (.aload_n 1, 1) := by decide +kernel
theorem dL_law_1679 : decode cL_law 1679 = .ok (.invokevirtual 211, 3) := by decide +kernel
theorem dL_law_1682 : decode cL_law 1682 = .ok (.aload_n 2, 1) := by decide +kernel
theorem dL_law_1683 : decode cL_law 1683 = .ok (.invokevirtual 214, 3) := by decide +kernel
theorem dL_law_1686 : decode cL_law 1686 = .ok (.if_icmp .eq 42, 3) := by decide +kernel
theorem dL_law_1689 : decode cL_law 1689 = .ok (.iconst 0, 1) := by decide +kernel
theorem dL_law_1690 : decode cL_law 1690 = .ok (.ireturn, 1) := by decide +kernel
theorem dL_law_1691 : decode cL_law 1691 = .ok (.aload_n 1, 1) := by decide +kernel
theorem dL_law_1692 : decode cL_law 1692 = .ok (.aload_n 0, 1) := by decide +kernel
theorem dL_law_1693 : decode cL_law 1693 = .ok (.iload_n 3, 1) := by decide +kernel
theorem dL_law_1694 : decode cL_law 1694 = .ok (.iconst 1, 1) := by decide +kernel
theorem dL_law_1695 : decode cL_law 1695 = .ok (.iadd, 1) := by decide +kernel
theorem dL_law_1696 : decode cL_law 1696 = .ok (.iaload, 1) := by decide +kernel
theorem dL_law_1697 : decode cL_law 1697 = .ok (.invokevirtual 215, 3) := by decide +kernel
theorem dL_law_1700 : decode cL_law 1700 = .ok (.aload_n 2, 1) := by decide +kernel
theorem dL_law_1701 : decode cL_law 1701 = .ok (.aload_n 0, 1) := by decide +kernel
theorem dL_law_1702 : decode cL_law 1702 = .ok (.iload_n 3, 1) := by decide +kernel
theorem dL_law_1703 : decode cL_law 1703 = .ok (.iconst 1, 1) := by decide +kernel
theorem dL_law_1704 : decode cL_law 1704 = .ok (.iadd, 1) := by decide +kernel
theorem dL_law_1705 : decode cL_law 1705 = .ok (.iaload, 1) := by decide +kernel
theorem dL_law_1706 : decode cL_law 1706 = .ok (.invokevirtual 218, 3) := by decide +kernel
theorem dL_law_1709 : decode cL_law 1709 = .ok (.if_icmp .eq 19, 3) := by decide +kernel
theorem dL_law_1712 : decode cL_law 1712 = .ok (.iconst 0, 1) := by decide +kernel
theorem dL_law_1713 : decode cL_law 1713 = .ok (.ireturn, 1) := by decide +kernel
theorem dL_law_1714 : decode cL_law 1714 = .ok (.aload_n 1, 1) := by decide +kernel
theorem dL_law_1715 : decode cL_law 1715 = .ok (.invokevirtual 219, 3) := by decide +kernel
theorem dL_law_1718 : decode cL_law 1718 = .ok (.aload_n 2, 1) := by decide +kernel
theorem dL_law_1719 : decode cL_law 1719 = .ok (.invokevirtual 222, 3) := by decide +kernel
theorem dL_law_1722 : decode cL_law 1722 = .ok (.lcmp, 1) := by decide +kernel
theorem dL_law_1723 : decode cL_law 1723 = .ok (.ifCond .eq 5, 3) := by decide +kernel
theorem dL_law_1726 : decode cL_law 1726 = .ok (.iconst 0, 1) := by decide +kernel
theorem dL_law_1727 : decode cL_law 1727 = .ok (.ireturn, 1) := by decide +kernel
theorem dL_law_1728 : decode cL_law 1728 = .ok (.iinc 3 6, 3) := by decide +kernel
theorem dL_law_1731 : decode cL_law 1731 = .ok (.goto (-1713), 3) := by decide +kernel
theorem dL_law_1734 : decode cL_law 1734 = .ok (.iconst 1, 1) := by decide +kernel
theorem dL_law_1735 : decode cL_law 1735 = .ok (.ireturn, 1) := by decide +kernel
end
section
/-! ===== words, contexts, worlds, rows: what every walk here stands on ===== -/
def lw_good : List Cond := lw_tbl.filter goodWord
theorem lw_mem {w : Cond} (i : Nat) (h : tables_1[i]? = some w) (g : goodWord w = true) : w ∈ lw_good := List.mem_filter.mpr ⟨List.mem_append_right _ (List.mem_of_getElem? h), g⟩
theorem lw_memP {w : Cond} (i : Nat) (h : (k2_sels lw_privs)[i]? = some w) (g : goodWord w = true) : w ∈ lw_good := List.mem_filter.mpr ⟨List.mem_append_left _ (List.mem_of_getElem? h), g⟩
theorem lw_gin {w : Cond} (h : w ∈ lw_good) : w ∈ lw_good ∧ ((w.onTables && w.keeps) = true ∨ ∃ ty, w = .arrayClass ty) := ⟨h, good_of_word (List.mem_filter.mp h).2⟩
theorem lw_gV {own C : String} {i : Nat} {y : MethodName} {c : Cond} (h1 : Cond.methodLink own i y ∈ lw_good) (h2 : Cond.instanceMethod y ∈ lw_good) (h3 : Cond.selects C y y ∈ lw_good) (h4 : Cond.initialized C ∈ lw_good) (h5 : c ∈ lw_good) : GoodIn lw_good (wsV own i C y (c :: lw_good)) := by
  intro w hw
  rcases List.mem_append.mp hw with h | h
  · simp only [List.mem_cons, List.not_mem_nil, or_false] at h
    rcases h with rfl | rfl | rfl | rfl
    · exact lw_gin h1
    · exact lw_gin h2
    · exact lw_gin h3
    · exact lw_gin h4
  · rcases List.mem_cons.mp h with rfl | h
    · exact lw_gin h5
    · exact lw_gin h
theorem lw_gN {c : Cond} (h5 : c ∈ lw_good) : GoodIn lw_good (c :: lw_good) := by
  intro w hw
  rcases List.mem_cons.mp hw with rfl | h
  · exact lw_gin h5
  · exact lw_gin h
theorem lw_gS {own : String} {i : Nat} {y : MethodName} {c : Cond} (h1 : Cond.methodLink own i y ∈ lw_good) (h2 : Cond.static y ∈ lw_good) (h4 : Cond.initialized y.cls ∈ lw_good) (h5 : c ∈ lw_good) : GoodIn lw_good (va_wsS own i y (c :: lw_good)) := by
  intro w hw
  rcases List.mem_append.mp hw with h | h
  · simp only [List.mem_cons, List.not_mem_nil, or_false] at h
    rcases h with rfl | rfl | rfl
    · exact lw_gin h1
    · exact lw_gin h2
    · exact lw_gin h4
  · rcases List.mem_cons.mp h with rfl | h
    · exact lw_gin h5
    · exact lw_gin h
/-- the fixed things of a walk -/
abbrev Ctx : Type := Program × Launch × Env × Room × State × MethodId × Array Value × List Frame × Method × Code × Nat × Nat
abbrev xP (x : Ctx) : Program := x.1
abbrev xL (x : Ctx) : Launch := x.2.1
abbrev xE (x : Ctx) : Env := x.2.2.1
abbrev xR (x : Ctx) : Room := x.2.2.2.1
abbrev xS (x : Ctx) : State := x.2.2.2.2.1
abbrev xM (x : Ctx) : MethodId := x.2.2.2.2.2.1
abbrev xA (x : Ctx) : Array Value := x.2.2.2.2.2.2.1
abbrev xB (x : Ctx) : List Frame := x.2.2.2.2.2.2.2.1
abbrev xT (x : Ctx) : Method := x.2.2.2.2.2.2.2.2.1
abbrev xC (x : Ctx) : Code := x.2.2.2.2.2.2.2.2.2.1
abbrev xk (x : Ctx) : Nat := x.2.2.2.2.2.2.2.2.2.2.1
abbrev xn (x : Ctx) : Nat := x.2.2.2.2.2.2.2.2.2.2.2
/-- a store: ints by kind of cell, number, place; longs by place -/
abbrev St : Type := (Nat → Nat → Nat → Int32) × (Nat → Int64)
/-- where a world lies: class numbers, array classes, addresses, what it may change -/
abbrev Wp : Type := va_G × (Nat → ClassId) × (Nat → Nat → Nat) × (Nat → Prop)
abbrev wD (w : Wp) : va_G := w.1
abbrev wd (w : Wp) : Nat → ClassId := w.2.1
abbrev wa (w : Wp) : Nat → Nat → Nat := w.2.2.1
abbrev wA (w : Wp) : Nat → Prop := w.2.2.2
abbrev Cl : Type := (Nat → ClassId) → (Nat → Nat → Nat) → Nat → Nat → (Nat → Int32) → (Nat → Int64) → va_E
/-- a kind of world: which cells it has, what each holds -/
abbrev Wk : Type := List (Nat × Nat) × Cl
def wl (k : Wk) (w : Wp) (σ : St) : va_W := k.1.map (fun q => (wa w q.1 q.2, k.2 (wd w) (wa w) q.1 q.2 (σ.1 q.1 q.2) σ.2))
def sR (σ : St) (kd n : Nat) (f : Nat → Int32) : St := (fun a b => if a = kd ∧ b = n then f else σ.1 a b, σ.2)
def sX (σ : St) (kd n j : Nat) (v : Int32) : St := sR σ kd n (upd (σ.1 kd n) j v)
def sY (σ : St) (j : Nat) (v : Int64) : St := (σ.1, vp_updL σ.2 j v)
theorem sX_at (σ : St) (kd n j : Nat) (v : Int32) (a b c : Nat) : (sX σ kd n j v).1 a b c = if a = kd ∧ b = n ∧ c = j then v else σ.1 a b c := by
  unfold sX sR upd
  dsimp only
  by_cases h : a = kd ∧ b = n
  · obtain ⟨rfl, rfl⟩ := h
    by_cases h2 : c = j <;> simp [h2]
  · have h2 : ¬ (a = kd ∧ b = n ∧ c = j) := fun q => h ⟨q.1, q.2.1⟩
    rw [if_neg h, if_neg h2]
theorem sX_2 (σ : St) (kd n j : Nat) (v : Int32) : (sX σ kd n j v).2 = σ.2 := rfl
theorem sY_1 (σ : St) (j : Nat) (v : Int64) : (sY σ j v).1 = σ.1 := rfl
theorem wl_get {k : Wk} {w : Wp} {σ : St} {q0 kd n : Nat} (h : k.1[q0]? = some (kd, n)) : (wl k w σ)[q0]? = some (wa w kd n, k.2 (wd w) (wa w) kd n (σ.1 kd n) σ.2) := by
  unfold wl
  rw [List.getElem?_map, h]
  rfl
theorem wl_inv {k : Wk} {w : Wp} {σ : St} {q0 : Nat} {z : Nat × va_E} (h : (wl k w σ)[q0]? = some z) : ∃ kd n, k.1[q0]? = some (kd, n) ∧ z = (wa w kd n, k.2 (wd w) (wa w) kd n (σ.1 kd n) σ.2) := by
  unfold wl at h
  rw [List.getElem?_map] at h
  cases hq : k.1[q0]? with
  | none => rw [hq] at h; cases h
  | some q => rw [hq] at h; cases h; exact ⟨q.1, q.2, rfl, rfl⟩
/-- the world's cells are named once -/
def Ko (k : Wk) : Prop := ∀ (i j : Nat) (q : Nat × Nat), k.1[i]? = some q → k.1[j]? = some q → i = j
theorem wl_set {k : Wk} {w : Wp} {σ : St} {q0 kd n : Nat} (hk : Ko k) (h : k.1[q0]? = some (kd, n)) (f : Nat → Int32) : (wl k w σ).set q0 (wa w kd n, k.2 (wd w) (wa w) kd n f σ.2) = wl k w (sR σ kd n f) := by
  apply List.ext_getElem?
  intro i
  by_cases hi : i = q0
  · subst hi
    have hl : i < (wl k w σ).length := (List.getElem?_eq_some_iff.mp (wl_get (w := w) (σ := σ) h)).1
    rw [List.getElem?_set_self hl, wl_get h]
    simp [sR]
  · rw [List.getElem?_set_ne (Ne.symm hi)]
    unfold wl
    rw [List.getElem?_map, List.getElem?_map]
    cases hq : k.1[i]? with
    | none => rfl
    | some q =>
      have hne : ¬ (q.1 = kd ∧ q.2 = n) := fun z => hi (hk i q0 (kd, n) (by rw [hq, ← z.1, ← z.2]) h)
      simp [sR, hne]
theorem wl_setY {k : Wk} {w : Wp} {σ : St} {q0 kd n j : Nat} (hk : Ko k) (h : k.1[q0]? = some (kd, n)) (v : Int64) (hy : ∀ q ∈ k.1, q ≠ (kd, n) → ∀ x y y', k.2 (wd w) (wa w) q.1 q.2 x y = k.2 (wd w) (wa w) q.1 q.2 x y') : (wl k w σ).set q0 (wa w kd n, k.2 (wd w) (wa w) kd n (σ.1 kd n) (vp_updL σ.2 j v)) = wl k w (sY σ j v) := by
  apply List.ext_getElem?
  intro i
  by_cases hi : i = q0
  · subst hi
    have hl : i < (wl k w σ).length := (List.getElem?_eq_some_iff.mp (wl_get (w := w) (σ := σ) h)).1
    rw [List.getElem?_set_self hl, wl_get h]
    rfl
  · rw [List.getElem?_set_ne (Ne.symm hi)]
    unfold wl
    rw [List.getElem?_map, List.getElem?_map]
    cases hq : k.1[i]? with
    | none => rfl
    | some q =>
      have hne : q ≠ (kd, n) := fun z => hi (hk i q0 (kd, n) (by rw [hq, z]) h)
      simp only [Option.map_some, sY]
      rw [hy q (List.mem_of_getElem? hq) hne _ _ (vp_updL σ.2 j v)]
/-- the addresses alone: apart, and of the kind -/
theorem wl_D {k : Wk} {w : Wp} {σ σ' : St} {A : Nat → Prop} (h : va_D A (wl k w σ)) : va_D A (wl k w σ') := by
  have key : ∀ (i : Nat) (z : Nat × va_E), (wl k w σ')[i]? = some z → ∃ z', (wl k w σ)[i]? = some z' ∧ z'.1 = z.1 := by
    intro i z hz
    obtain ⟨kd, n, h1, h2⟩ := wl_inv hz
    exact ⟨_, wl_get h1, by rw [h2]⟩
  refine ⟨fun i j p q hp hq e => ?_, fun i q hq => ?_⟩
  · obtain ⟨p', h1, h2⟩ := key i p hp
    obtain ⟨q', h3, h4⟩ := key j q hq
    exact h.1 i j p' q' h1 h3 (by rw [h2, h4, e])
  · obtain ⟨q', h1, h2⟩ := key i q hq
    rw [← h2]
    exact h.2 i q' h1
abbrev tysA (d : Nat → ClassId) : List (ClassId × FieldType) := [(d 0, .int), (d 1, .byte), (d 2, .boolean), (d 3, .object "QuarrelBook$Row"), (d 4, .object "QuarrelBook$Text"), (d 5, .object "QuarrelBook$Master"), (d 6, .object "QuarrelBook$Saying"), (d 7, .object "QuarrelBook$Move")]
abbrev nk_1 : Cond := .methodLinkNest "QuarrelBook$Book" 55 ⟨"QuarrelBook", "within", "(II)Z"⟩ "QuarrelBook"
abbrev nk_2 : Cond := .methodLinkNest "QuarrelBook$Page" 38 ⟨"QuarrelBook", "within", "(II)Z"⟩ "QuarrelBook"
abbrev nk_3 : Cond := .fieldLinkNest "QuarrelBook$Text" 42 "QuarrelBook" "POWERS_OF_3" "[I" "QuarrelBook"
def pw3 (j : Nat) : Int32 := match j with
  | 0 => 1
  | 1 => 3
  | 2 => 9
  | 3 => 27
  | _ => 81
/-- what is known of the tables, and of what lies outside the world -/
def Kn (w : Wp) (U : State) : Prop := va_K (wD w) vwCl (tysA (wd w)) U ∧ va_Nw nk_1 U ∧ va_Nw nk_2 U ∧ va_Nw nk_3 U ∧ ∃ t : Nat, va_Z "QuarrelBook" "POWERS_OF_3" "[I" (.ref t) (wA w) U U.heap ∧ va_T .int t 5 (fun j => .int (pw3 j)) (wA w) U U.heap
theorem Kn.to {w : Wp} {s U : State} {H : Heap} {locs : List Loc} (h : Kn w s) (hS : va_S (wA w) s.heap H locs) (hU : U.heap = H) (hW : s.WarmedH U.vm) : Kn w U := by
  obtain ⟨h1, h2, h3, h4, t, h5, h6⟩ := h
  refine ⟨va_K.moved hW.alike h1, va_Nw.warmM hW h2, va_Nw.warmM hW h3, va_Nw.warmF hW h4, t, ?_, ?_⟩
  · rw [hU]; exact (h5.kept (fun a p q => hS.2.1 a p q)).moved hW.alike
  · rw [hU]; exact (h6.kept (fun a p q => hS.2.1 a p q)).moved hW.alike
theorem Kn.calling {w : Wp} {U : State} {g : JFrame} {mk : MethodId} {a : Array Value} (h : Kn w U) : Kn w (U.calling g mk a) := by
  obtain ⟨h1, h2, h3, h4, t, h5, h6⟩ := h
  exact ⟨va_K.moved (u := U) (U := U.calling g mk a) (Vm.Alike.refl U.vm) h1, va_Nw.same (u := U) (U := U.calling g mk a) rfl rfl h2, va_Nw.same (u := U) (U := U.calling g mk a) rfl rfl h3, va_Nw.same (u := U) (U := U.calling g mk a) rfl rfl h4, t, va_Z.moved (u := U) (U := U.calling g mk a) (Vm.Alike.refl U.vm) h5, va_T.moved (u := U) (U := U.calling g mk a) (Vm.Alike.refl U.vm) h6⟩
abbrev rmL (lv : Nat) : Room := { frames := lv, cells := 0, slots := 0, locals := 40 * lv }
/-- a world as a method finds it -/
def Wd (k : Wk) (w : Wp) (σ : St) (U : State) : Prop := va_P (wD w) vwCl (wl k w σ) U.heap ∧ Kn w U ∧ va_D (wA w) (wl k w σ)
def Qg (k : Wk) (w : Wp) (rv : Option Value) (σ : St) : Array Value → State → Outcome → State → Prop := fun _ st oc t => oc = .returned rv ∧ va_P (wD w) vwCl (wl k w σ) t.heap ∧ va_F (wA w) st t
/-- a method's contract: from the store σ it answers rv and leaves the store σ' -/
def Cm (l : Launch) (y : MethodName) (c0 : Cond) (lv : Nat) (k : Wk) (w : Wp) (av : List Value) (σ : St) (rv : Option Value) (σ' : St) : Prop :=
  Met l y (c0 :: lw_good) (rmL lv) (va_Pc av (Wd k w σ)) (Qg k w rv σ') 0 0 (wA w)
/-- what holds in a whole walk -/
def Cx (x : Ctx) (k : Wk) (w : Wp) (cc : ByteArray) (nL : Nat) (own : String) (lv : Nat) (ret : Option FieldType) : Prop :=
  (xP x).tables.exec = Jvm.exec ∧ (xC x).code = cc ∧ (xC x).maxLocals = nL ∧ (xS x).vm.findClass own = some (xM x).cls ∧ (∀ q ∈ lw_good, q.before (xA x) (xS x) = true) ∧ (xT x).locks = false ∧ (xT x).sig.returnType = ret ∧ ((xR x).frames = lv ∧ (xR x).locals = 40 * lv ∧ xk x ≤ (xR x).cells ∧ xn x ≤ (xR x).slots) ∧ Kn w (xS x) ∧ (∀ σ, va_D (wA w) (wl k w σ)) ∧ Ko k
abbrev Wx (x : Ctx) (H : Heap) (locs : List Loc) (Q : State → Prop) (g : JFrame) : Prop := W (xP x) (xL x) (xE x) (xR x) (xS x) (xM x) (xA x) (xB x) (xT x) (xC x) H locs (xk x) (xn x) Q g
/-- at pc, with locals L, stack st and the store σ: it comes to Q -/
def V (x : Ctx) (k : Wk) (w : Wp) (nL : Nat) (Q : State → Prop) (σ : St) (pc : Nat) (L : List (Nat × Value)) (st : List Value) : Prop :=
  ∀ (H : Heap) (locs : List Loc) (ls : Array Slot), va_P (wD w) vwCl (wl k w σ) H → va_S (wA w) (xS x).heap H locs → lv_has ls nL L → Wx x H locs Q (F0 (xM x) pc ls st)
/-- what a method must come to -/
abbrev QM (x : Ctx) (k : Wk) (w : Wp) (rv : Option Value) (σ : St) : State → Prop := MQ (xB x) (Qg k w rv σ) (xA x) (xS x) (xk x) (xn x) (wA w)
theorem Cm.of {l : Launch} {y : MethodName} {cc : ByteArray} {nL lv : Nat} {ret : Option FieldType} {own : String} {k : Wk} {w : Wp} {av : List Value} {σ σ' : St} {rv : Option Value} {L : List (Nat × Value)} (hy : plainName y.cls = true) (ho : y.cls = own) (hL : (lg_sl av).length ≤ nL) (hl : lv_args 0 av = L) (hk : Ko k)
    (h : ∀ x : Ctx, xL x = l → Cx x k w cc nL own lv ret → V x k w nL (QM x k w rv σ') σ 0 L []) : Cm l y (.code y cc nL ret) lv k w av σ rv σ' := by
  refine Met.ofW (cc := cc) (maxL := nL) (ret := ret) hy rfl ?_
  intro p e s m args below meth c s₁ B hml hv
  obtain ⟨rfl, hP, hK, hD⟩ := hv
  have hts := atoms_spec (ws := Cond.code y cc nL ret :: lw_good) B.pre
  have hown : s.vm.findClass y.cls = some m.cls := findClass_of_methodNamed B.named
  have hls := lv_entry av (n := nL) hL
  rw [lg_entry_eq]
  rw [hl] at hls
  exact h (p, l, e, rmL lv, s, m, av.toArray, below, meth, c, 0, 0) rfl ⟨B.exec, B.bytes, hml, by rw [← ho]; exact hown, fun q hq => hts q (List.mem_cons_of_mem _ hq), B.notSynchronized, B.returns, ⟨rfl, rfl, Nat.le_refl _, Nat.le_refl _⟩, hK, fun σ => wl_D hD, hk⟩ s.heap [] _ hP va_S.rf hls
section
variable {x : Ctx} {k : Wk} {w : Wp} {cc : ByteArray} {nL lv : Nat} {own : String} {ret : Option FieldType} {Q : State → Prop} {σ σ' : St} {pc : Nat} {L L' : List (Nat × Value)} {st : List Value}
theorem r_sub (ks : List Nat) (hl : lv_pick L ks = L') (h : V x k w nL Q σ pc L' st) : V x k w nL Q σ pc L st := fun H locs ls hP hS hls => h H locs ls hP hS (lv_sub hls ks hl)

theorem r_iconst (C : Cx x k w cc nL own lv ret) {n : Int} {v : Int32} (hd : decode cc pc = .ok (.iconst n, 1)) (hv : Int32.ofInt n = v) (h : V x k w nL Q σ (pc + 1) L (.int v :: st)) : V x k w nL Q σ pc L (st) := fun H locs ls hP hS hl => lv_iconst C.1 C.2.1 hd hv (h H locs ls hP hS hl)
theorem r_bipush (C : Cx x k w cc nL own lv ret) {n : Int} {v : Int32} (hd : decode cc pc = .ok (.bipush n, 2)) (hv : (Int8.ofInt n).toInt32 = v) (h : V x k w nL Q σ (pc + 2) L (.int v :: st)) : V x k w nL Q σ pc L (st) := fun H locs ls hP hS hl => lv_bipush C.1 C.2.1 hd hv (h H locs ls hP hS hl)
theorem r_sipush (C : Cx x k w cc nL own lv ret) {n : Int} {v : Int32} (hd : decode cc pc = .ok (.sipush n, 3)) (hv : (Int16.ofInt n).toInt32 = v) (h : V x k w nL Q σ (pc + 3) L (.int v :: st)) : V x k w nL Q σ pc L (st) := fun H locs ls hP hS hl => lv_sipush C.1 C.2.1 hd hv (h H locs ls hP hS hl)
theorem r_lconst (C : Cx x k w cc nL own lv ret) {n : Fin 2} {v : Int64} (hd : decode cc pc = .ok (.lconst n, 1)) (hv : Int64.ofNat (n : Nat) = v) (h : V x k w nL Q σ (pc + 1) L (.long v :: st)) : V x k w nL Q σ pc L (st) := fun H locs ls hP hS hl => lv_lconst C.1 C.2.1 hd hv (h H locs ls hP hS hl)
theorem r_iload_n (C : Cx x k w cc nL own lv ret) {q : Fin 4} {i : Nat} {v : Int32} (hd : decode cc pc = .ok (.iload_n q, 1)) (hi : (q : Nat) = i) (j : Nat) (hj : L[j]? = some (i, .int v)) (h : V x k w nL Q σ (pc + 1) L (.int v :: st)) : V x k w nL Q σ pc L (st) := fun H locs ls hP hS hl => lv_iload_n C.1 C.2.1 hd hi (lv_at hl j hj) (h H locs ls hP hS hl)
theorem r_iload (C : Cx x k w cc nL own lv ret) {i : Nat} {v : Int32} (hd : decode cc pc = .ok (.iload i, 2)) (j : Nat) (hj : L[j]? = some (i, .int v)) (h : V x k w nL Q σ (pc + 2) L (.int v :: st)) : V x k w nL Q σ pc L (st) := fun H locs ls hP hS hl => lv_iload C.1 C.2.1 hd (lv_at hl j hj) (h H locs ls hP hS hl)
theorem r_istore_n (C : Cx x k w cc nL own lv ret) {q : Fin 4} {i : Nat} {v : Int32} (hd : decode cc pc = .ok (.istore_n q, 1)) (hi : (q : Nat) = i) (hn : i < nL) (hl' : (i, Value.int v) :: L.filter (fun q => !(q.1 == i) && !(q.1 + 1 == i && q.2.category == 2)) = L') (h : V x k w nL Q σ (pc + 1) L' st) : V x k w nL Q σ pc L (.int v :: st) := fun H locs ls hP hS hl => lv_istore_n C.1 C.2.1 hd hi hl hn hl' (fun ls' hls => h H locs ls' hP hS hls)
theorem r_istore (C : Cx x k w cc nL own lv ret) {i : Nat} {v : Int32} (hd : decode cc pc = .ok (.istore i, 2)) (hn : i < nL) (hl' : (i, Value.int v) :: L.filter (fun q => !(q.1 == i) && !(q.1 + 1 == i && q.2.category == 2)) = L') (h : V x k w nL Q σ (pc + 2) L' st) : V x k w nL Q σ pc L (.int v :: st) := fun H locs ls hP hS hl => lv_istore C.1 C.2.1 hd hl hn hl' (fun ls' hls => h H locs ls' hP hS hls)
theorem r_lload_n (C : Cx x k w cc nL own lv ret) {q : Fin 4} {i : Nat} {v : Int64} (hd : decode cc pc = .ok (.lload_n q, 1)) (hi : (q : Nat) = i) (j : Nat) (hj : L[j]? = some (i, .long v)) (h : V x k w nL Q σ (pc + 1) L (.long v :: st)) : V x k w nL Q σ pc L (st) := fun H locs ls hP hS hl => lv_lload_n C.1 C.2.1 hd hi (lv_at hl j hj) (h H locs ls hP hS hl)
theorem r_lload (C : Cx x k w cc nL own lv ret) {i : Nat} {v : Int64} (hd : decode cc pc = .ok (.lload i, 2)) (j : Nat) (hj : L[j]? = some (i, .long v)) (h : V x k w nL Q σ (pc + 2) L (.long v :: st)) : V x k w nL Q σ pc L (st) := fun H locs ls hP hS hl => lv_lload C.1 C.2.1 hd (lv_at hl j hj) (h H locs ls hP hS hl)
theorem r_lstore_n (C : Cx x k w cc nL own lv ret) {q : Fin 4} {i : Nat} {v : Int64} (hd : decode cc pc = .ok (.lstore_n q, 1)) (hi : (q : Nat) = i) (hn : i + 1 < nL) (hl' : (i, Value.long v) :: L.filter (fun q => !(q.1 == i) && (!(q.1 == i + 1) && !(q.1 + 1 == i && q.2.category == 2))) = L') (h : V x k w nL Q σ (pc + 1) L' st) : V x k w nL Q σ pc L (.long v :: st) := fun H locs ls hP hS hl => lv_lstore_n C.1 C.2.1 hd hi hl hn hl' (fun ls' hls => h H locs ls' hP hS hls)
theorem r_lstore (C : Cx x k w cc nL own lv ret) {i : Nat} {v : Int64} (hd : decode cc pc = .ok (.lstore i, 2)) (hn : i + 1 < nL) (hl' : (i, Value.long v) :: L.filter (fun q => !(q.1 == i) && (!(q.1 == i + 1) && !(q.1 + 1 == i && q.2.category == 2))) = L') (h : V x k w nL Q σ (pc + 2) L' st) : V x k w nL Q σ pc L (.long v :: st) := fun H locs ls hP hS hl => lv_lstore C.1 C.2.1 hd hl hn hl' (fun ls' hls => h H locs ls' hP hS hls)
theorem r_aload_n (C : Cx x k w cc nL own lv ret) {q : Fin 4} {i : Nat} {v : Nat} (hd : decode cc pc = .ok (.aload_n q, 1)) (hi : (q : Nat) = i) (j : Nat) (hj : L[j]? = some (i, .ref v)) (h : V x k w nL Q σ (pc + 1) L (.ref v :: st)) : V x k w nL Q σ pc L (st) := fun H locs ls hP hS hl => lv_aload_n C.1 C.2.1 hd hi (lv_at hl j hj) (h H locs ls hP hS hl)
theorem r_aload (C : Cx x k w cc nL own lv ret) {i : Nat} {v : Nat} (hd : decode cc pc = .ok (.aload i, 2)) (j : Nat) (hj : L[j]? = some (i, .ref v)) (h : V x k w nL Q σ (pc + 2) L (.ref v :: st)) : V x k w nL Q σ pc L (st) := fun H locs ls hP hS hl => lv_aload C.1 C.2.1 hd (lv_at hl j hj) (h H locs ls hP hS hl)
theorem r_astore_n (C : Cx x k w cc nL own lv ret) {q : Fin 4} {i : Nat} {v : Nat} (hd : decode cc pc = .ok (.astore_n q, 1)) (hi : (q : Nat) = i) (hn : i < nL) (hl' : (i, Value.ref v) :: L.filter (fun q => !(q.1 == i) && !(q.1 + 1 == i && q.2.category == 2)) = L') (h : V x k w nL Q σ (pc + 1) L' st) : V x k w nL Q σ pc L (.ref v :: st) := fun H locs ls hP hS hl => lv_astore_n C.1 C.2.1 hd hi hl hn hl' (fun ls' hls => h H locs ls' hP hS hls)
theorem r_astore (C : Cx x k w cc nL own lv ret) {i : Nat} {v : Nat} (hd : decode cc pc = .ok (.astore i, 2)) (hn : i < nL) (hl' : (i, Value.ref v) :: L.filter (fun q => !(q.1 == i) && !(q.1 + 1 == i && q.2.category == 2)) = L') (h : V x k w nL Q σ (pc + 2) L' st) : V x k w nL Q σ pc L (.ref v :: st) := fun H locs ls hP hS hl => lv_astore C.1 C.2.1 hd hl hn hl' (fun ls' hls => h H locs ls' hP hS hls)
theorem r_iinc (C : Cx x k w cc nL own lv ret) {i j : Nat} {n : Int} {a v : Int32} (hd : decode cc pc = .ok (.iinc i n, 3)) (hj : L[j]? = some (i, .int a)) (hv : a + Int32.ofInt n = v) (hn : i < nL) (hl' : (i, Value.int v) :: L.filter (fun q => !(q.1 == i) && !(q.1 + 1 == i && q.2.category == 2)) = L') (h : V x k w nL Q σ (pc + 3) L' st) : V x k w nL Q σ pc L st := fun H locs ls hP hS hl => lv_iinc C.1 C.2.1 hd hl hj hv hn hl' (fun ls' hls => h H locs ls' hP hS hls)
theorem r_iadd (C : Cx x k w cc nL own lv ret) {a b : Int32} (hd : decode cc pc = .ok (.iadd, 1))  (h : V x k w nL Q σ (pc + 1) L (.int (a + b) :: st)) : V x k w nL Q σ pc L (.int b :: .int a :: st) := fun H locs ls hP hS hl => lv_iadd C.1 C.2.1 hd (h H locs ls hP hS hl)
theorem r_isub (C : Cx x k w cc nL own lv ret) {a b : Int32} (hd : decode cc pc = .ok (.isub, 1))  (h : V x k w nL Q σ (pc + 1) L (.int (a - b) :: st)) : V x k w nL Q σ pc L (.int b :: .int a :: st) := fun H locs ls hP hS hl => lv_isub C.1 C.2.1 hd (h H locs ls hP hS hl)
theorem r_imul (C : Cx x k w cc nL own lv ret) {a b : Int32} (hd : decode cc pc = .ok (.imul, 1))  (h : V x k w nL Q σ (pc + 1) L (.int (a * b) :: st)) : V x k w nL Q σ pc L (.int b :: .int a :: st) := fun H locs ls hP hS hl => lv_imul C.1 C.2.1 hd (h H locs ls hP hS hl)
theorem r_iand (C : Cx x k w cc nL own lv ret) {a b : Int32} (hd : decode cc pc = .ok (.iand, 1))  (h : V x k w nL Q σ (pc + 1) L (.int (a &&& b) :: st)) : V x k w nL Q σ pc L (.int b :: .int a :: st) := fun H locs ls hP hS hl => lv_iand C.1 C.2.1 hd (h H locs ls hP hS hl)
theorem r_ior (C : Cx x k w cc nL own lv ret) {a b : Int32} (hd : decode cc pc = .ok (.ior, 1))  (h : V x k w nL Q σ (pc + 1) L (.int (a ||| b) :: st)) : V x k w nL Q σ pc L (.int b :: .int a :: st) := fun H locs ls hP hS hl => lv_ior C.1 C.2.1 hd (h H locs ls hP hS hl)
theorem r_ixor (C : Cx x k w cc nL own lv ret) {a b : Int32} (hd : decode cc pc = .ok (.ixor, 1))  (h : V x k w nL Q σ (pc + 1) L (.int (a ^^^ b) :: st)) : V x k w nL Q σ pc L (.int b :: .int a :: st) := fun H locs ls hP hS hl => lv_ixor C.1 C.2.1 hd (h H locs ls hP hS hl)
theorem r_ishl (C : Cx x k w cc nL own lv ret) {a b : Int32} (hd : decode cc pc = .ok (.ishl, 1))  (h : V x k w nL Q σ (pc + 1) L (.int (a <<< (b &&& 31)) :: st)) : V x k w nL Q σ pc L (.int b :: .int a :: st) := fun H locs ls hP hS hl => lv_ishl C.1 C.2.1 hd (h H locs ls hP hS hl)
theorem r_ishr (C : Cx x k w cc nL own lv ret) {a b : Int32} (hd : decode cc pc = .ok (.ishr, 1))  (h : V x k w nL Q σ (pc + 1) L (.int (a >>> (b &&& 31)) :: st)) : V x k w nL Q σ pc L (.int b :: .int a :: st) := fun H locs ls hP hS hl => lv_ishr C.1 C.2.1 hd (h H locs ls hP hS hl)
theorem r_iushr (C : Cx x k w cc nL own lv ret) {a b v : Int32} (hd : decode cc pc = .ok (.iushr, 1)) (hv : (a.toUInt32 >>> (b.toUInt32 &&& Int32.toUInt32 31)).toInt32 = v) (h : V x k w nL Q σ (pc + 1) L (.int v :: st)) : V x k w nL Q σ pc L (.int b :: .int a :: st) := fun H locs ls hP hS hl => lv_iushr C.1 C.2.1 hd hv (h H locs ls hP hS hl)
theorem r_ineg (C : Cx x k w cc nL own lv ret) {a : Int32} (hd : decode cc pc = .ok (.ineg, 1))  (h : V x k w nL Q σ (pc + 1) L (.int (-a) :: st)) : V x k w nL Q σ pc L (.int a :: st) := fun H locs ls hP hS hl => lv_ineg C.1 C.2.1 hd (h H locs ls hP hS hl)
theorem r_ladd (C : Cx x k w cc nL own lv ret) {a b : Int64} (hd : decode cc pc = .ok (.ladd, 1))  (h : V x k w nL Q σ (pc + 1) L (.long (a + b) :: st)) : V x k w nL Q σ pc L (.long b :: .long a :: st) := fun H locs ls hP hS hl => lv_ladd C.1 C.2.1 hd (h H locs ls hP hS hl)
theorem r_lmul (C : Cx x k w cc nL own lv ret) {a b : Int64} (hd : decode cc pc = .ok (.lmul, 1))  (h : V x k w nL Q σ (pc + 1) L (.long (a * b) :: st)) : V x k w nL Q σ pc L (.long b :: .long a :: st) := fun H locs ls hP hS hl => lv_lmul C.1 C.2.1 hd (h H locs ls hP hS hl)
theorem r_idiv (C : Cx x k w cc nL own lv ret) {a b : Int32} (hd : decode cc pc = .ok (.idiv, 1)) (hne : ¬ b = 0) (h : V x k w nL Q σ (pc + 1) L (.int (a / b) :: st)) : V x k w nL Q σ pc L (.int b :: .int a :: st) := fun H locs ls hP hS hl => lv_idiv C.1 C.2.1 hd hne (h H locs ls hP hS hl)
theorem r_irem (C : Cx x k w cc nL own lv ret) {a b : Int32} (hd : decode cc pc = .ok (.irem, 1)) (hne : ¬ b = 0) (h : V x k w nL Q σ (pc + 1) L (.int (a - a / b * b) :: st)) : V x k w nL Q σ pc L (.int b :: .int a :: st) := fun H locs ls hP hS hl => lv_irem C.1 C.2.1 hd hne (h H locs ls hP hS hl)
theorem r_ldiv (C : Cx x k w cc nL own lv ret) {a b : Int64} (hd : decode cc pc = .ok (.ldiv, 1)) (hne : ¬ b = 0) (h : V x k w nL Q σ (pc + 1) L (.long (a / b) :: st)) : V x k w nL Q σ pc L (.long b :: .long a :: st) := fun H locs ls hP hS hl => lv_ldiv C.1 C.2.1 hd hne (h H locs ls hP hS hl)
theorem r_lrem (C : Cx x k w cc nL own lv ret) {a b : Int64} (hd : decode cc pc = .ok (.lrem, 1)) (hne : ¬ b = 0) (h : V x k w nL Q σ (pc + 1) L (.long (a - a / b * b) :: st)) : V x k w nL Q σ pc L (.long b :: .long a :: st) := fun H locs ls hP hS hl => lv_lrem C.1 C.2.1 hd hne (h H locs ls hP hS hl)
theorem r_i2l (C : Cx x k w cc nL own lv ret) {a : Int32} (hd : decode cc pc = .ok (.i2l, 1))  (h : V x k w nL Q σ (pc + 1) L (.long a.toInt64 :: st)) : V x k w nL Q σ pc L (.int a :: st) := fun H locs ls hP hS hl => lv_i2l C.1 C.2.1 hd rfl (h H locs ls hP hS hl)
theorem r_l2i (C : Cx x k w cc nL own lv ret) {a : Int64} (hd : decode cc pc = .ok (.l2i, 1))  (h : V x k w nL Q σ (pc + 1) L (.int a.toInt32 :: st)) : V x k w nL Q σ pc L (.long a :: st) := fun H locs ls hP hS hl => lv_l2i C.1 C.2.1 hd rfl (h H locs ls hP hS hl)
theorem r_i2b (C : Cx x k w cc nL own lv ret) {a : Int32} (hd : decode cc pc = .ok (.i2b, 1))  (h : V x k w nL Q σ (pc + 1) L (.int a.toInt8.toInt32 :: st)) : V x k w nL Q σ pc L (.int a :: st) := fun H locs ls hP hS hl => lv_i2b C.1 C.2.1 hd rfl (h H locs ls hP hS hl)
theorem r_lcmp (C : Cx x k w cc nL own lv ret) {a b : Int64} (hd : decode cc pc = .ok (.lcmp, 1))  (h : V x k w nL Q σ (pc + 1) L (.int (lg_cmp a b) :: st)) : V x k w nL Q σ pc L (.long b :: .long a :: st) := fun H locs ls hP hS hl => W.lcmp C.1 C.2.1 hd (h H locs ls hP hS hl)
theorem r_dup (C : Cx x k w cc nL own lv ret) {a : Value} (hd : decode cc pc = .ok (.dup, 1)) (hc : a.category = 1) (h : V x k w nL Q σ (pc + 1) L (a :: a :: st)) : V x k w nL Q σ pc L (a :: st) := fun H locs ls hP hS hl => lv_dup C.1 C.2.1 hd hc (h H locs ls hP hS hl)
theorem r_pop (C : Cx x k w cc nL own lv ret) {a : Value} (hd : decode cc pc = .ok (.pop, 1)) (hc : a.category = 1) (h : V x k w nL Q σ (pc + 1) L (st)) : V x k w nL Q σ pc L (a :: st) := fun H locs ls hP hS hl => lv_pop C.1 C.2.1 hd hc (h H locs ls hP hS hl)
theorem r_dup2 (C : Cx x k w cc nL own lv ret) {a b : Value} (hd : decode cc pc = .ok (.dup2, 1)) (hc : a.category = 1) (hc2 : b.category = 1) (h : V x k w nL Q σ (pc + 1) L (a :: b :: a :: b :: st)) : V x k w nL Q σ pc L (a :: b :: st) := fun H locs ls hP hS hl => lv_dup2_11 C.1 C.2.1 hd hc hc2 (h H locs ls hP hS hl)
theorem r_goto (C : Cx x k w cc nL own lv ret) {off : Int} {tgt : Nat} (hd : decode cc pc = .ok (.goto off, 3)) (ht : (pc : Int) + off = (tgt : Int)) (h : V x k w nL Q σ tgt L st) : V x k w nL Q σ pc L st := fun H locs ls hP hS hl => lv_goto C.1 C.2.1 hd ht (h H locs ls hP hS hl)
theorem r_icmp_eq (C : Cx x k w cc nL own lv ret) {a b : Int32} {off : Int} {tgt : Nat} (hd : decode cc pc = .ok (.if_icmp .eq off, 3)) (ht : (pc : Int) + off = (tgt : Int)) (h1 : a = b → V x k w nL Q σ tgt L st) (h2 : ¬ a = b → V x k w nL Q σ (pc + 3) L st) : V x k w nL Q σ pc L (.int b :: .int a :: st) := fun H locs ls hP hS hl => lv_icmp_eq C.1 C.2.1 hd ht (fun q => h1 q H locs ls hP hS hl) (fun q => h2 q H locs ls hP hS hl)
theorem r_icmp_ne (C : Cx x k w cc nL own lv ret) {a b : Int32} {off : Int} {tgt : Nat} (hd : decode cc pc = .ok (.if_icmp .ne off, 3)) (ht : (pc : Int) + off = (tgt : Int)) (h1 : ¬ a = b → V x k w nL Q σ tgt L st) (h2 : a = b → V x k w nL Q σ (pc + 3) L st) : V x k w nL Q σ pc L (.int b :: .int a :: st) := fun H locs ls hP hS hl => lv_icmp_ne C.1 C.2.1 hd ht (fun q => h1 q H locs ls hP hS hl) (fun q => h2 q H locs ls hP hS hl)
theorem r_icmp_lt (C : Cx x k w cc nL own lv ret) {a b : Int32} {off : Int} {tgt : Nat} (hd : decode cc pc = .ok (.if_icmp .lt off, 3)) (ht : (pc : Int) + off = (tgt : Int)) (h1 : a < b → V x k w nL Q σ tgt L st) (h2 : ¬ a < b → V x k w nL Q σ (pc + 3) L st) : V x k w nL Q σ pc L (.int b :: .int a :: st) := fun H locs ls hP hS hl => lv_icmp_lt C.1 C.2.1 hd ht (fun q => h1 q H locs ls hP hS hl) (fun q => h2 q H locs ls hP hS hl)
theorem r_icmp_ge (C : Cx x k w cc nL own lv ret) {a b : Int32} {off : Int} {tgt : Nat} (hd : decode cc pc = .ok (.if_icmp .ge off, 3)) (ht : (pc : Int) + off = (tgt : Int)) (h1 : b ≤ a → V x k w nL Q σ tgt L st) (h2 : ¬ b ≤ a → V x k w nL Q σ (pc + 3) L st) : V x k w nL Q σ pc L (.int b :: .int a :: st) := fun H locs ls hP hS hl => lv_icmp_ge C.1 C.2.1 hd ht (fun q => h1 q H locs ls hP hS hl) (fun q => h2 q H locs ls hP hS hl)
theorem r_icmp_gt (C : Cx x k w cc nL own lv ret) {a b : Int32} {off : Int} {tgt : Nat} (hd : decode cc pc = .ok (.if_icmp .gt off, 3)) (ht : (pc : Int) + off = (tgt : Int)) (h1 : b < a → V x k w nL Q σ tgt L st) (h2 : ¬ b < a → V x k w nL Q σ (pc + 3) L st) : V x k w nL Q σ pc L (.int b :: .int a :: st) := fun H locs ls hP hS hl => lv_icmp_gt C.1 C.2.1 hd ht (fun q => h1 q H locs ls hP hS hl) (fun q => h2 q H locs ls hP hS hl)
theorem r_icmp_le (C : Cx x k w cc nL own lv ret) {a b : Int32} {off : Int} {tgt : Nat} (hd : decode cc pc = .ok (.if_icmp .le off, 3)) (ht : (pc : Int) + off = (tgt : Int)) (h1 : a ≤ b → V x k w nL Q σ tgt L st) (h2 : ¬ a ≤ b → V x k w nL Q σ (pc + 3) L st) : V x k w nL Q σ pc L (.int b :: .int a :: st) := fun H locs ls hP hS hl => lv_icmp_le C.1 C.2.1 hd ht (fun q => h1 q H locs ls hP hS hl) (fun q => h2 q H locs ls hP hS hl)
theorem r_if_eq (C : Cx x k w cc nL own lv ret) {a : Int32} {off : Int} {tgt : Nat} (hd : decode cc pc = .ok (.ifCond .eq off, 3)) (ht : (pc : Int) + off = (tgt : Int)) (h1 : a = 0 → V x k w nL Q σ tgt L st) (h2 : ¬ a = 0 → V x k w nL Q σ (pc + 3) L st) : V x k w nL Q σ pc L (.int a :: st) := fun H locs ls hP hS hl => lv_if_eq C.1 C.2.1 hd ht (fun q => h1 q H locs ls hP hS hl) (fun q => h2 q H locs ls hP hS hl)
theorem r_if_ne (C : Cx x k w cc nL own lv ret) {a : Int32} {off : Int} {tgt : Nat} (hd : decode cc pc = .ok (.ifCond .ne off, 3)) (ht : (pc : Int) + off = (tgt : Int)) (h1 : ¬ a = 0 → V x k w nL Q σ tgt L st) (h2 : a = 0 → V x k w nL Q σ (pc + 3) L st) : V x k w nL Q σ pc L (.int a :: st) := fun H locs ls hP hS hl => lv_if_ne C.1 C.2.1 hd ht (fun q => h1 q H locs ls hP hS hl) (fun q => h2 q H locs ls hP hS hl)
theorem r_if_lt (C : Cx x k w cc nL own lv ret) {a : Int32} {off : Int} {tgt : Nat} (hd : decode cc pc = .ok (.ifCond .lt off, 3)) (ht : (pc : Int) + off = (tgt : Int)) (h1 : a < 0 → V x k w nL Q σ tgt L st) (h2 : ¬ a < 0 → V x k w nL Q σ (pc + 3) L st) : V x k w nL Q σ pc L (.int a :: st) := fun H locs ls hP hS hl => lv_if_lt C.1 C.2.1 hd ht (fun q => h1 q H locs ls hP hS hl) (fun q => h2 q H locs ls hP hS hl)
theorem r_if_ge (C : Cx x k w cc nL own lv ret) {a : Int32} {off : Int} {tgt : Nat} (hd : decode cc pc = .ok (.ifCond .ge off, 3)) (ht : (pc : Int) + off = (tgt : Int)) (h1 : 0 ≤ a → V x k w nL Q σ tgt L st) (h2 : ¬ 0 ≤ a → V x k w nL Q σ (pc + 3) L st) : V x k w nL Q σ pc L (.int a :: st) := fun H locs ls hP hS hl => lv_if_ge C.1 C.2.1 hd ht (fun q => h1 q H locs ls hP hS hl) (fun q => h2 q H locs ls hP hS hl)
theorem r_if_gt (C : Cx x k w cc nL own lv ret) {a : Int32} {off : Int} {tgt : Nat} (hd : decode cc pc = .ok (.ifCond .gt off, 3)) (ht : (pc : Int) + off = (tgt : Int)) (h1 : 0 < a → V x k w nL Q σ tgt L st) (h2 : ¬ 0 < a → V x k w nL Q σ (pc + 3) L st) : V x k w nL Q σ pc L (.int a :: st) := fun H locs ls hP hS hl => lv_if_gt C.1 C.2.1 hd ht (fun q => h1 q H locs ls hP hS hl) (fun q => h2 q H locs ls hP hS hl)
theorem r_if_le (C : Cx x k w cc nL own lv ret) {a : Int32} {off : Int} {tgt : Nat} (hd : decode cc pc = .ok (.ifCond .le off, 3)) (ht : (pc : Int) + off = (tgt : Int)) (h1 : a ≤ 0 → V x k w nL Q σ tgt L st) (h2 : ¬ a ≤ 0 → V x k w nL Q σ (pc + 3) L st) : V x k w nL Q σ pc L (.int a :: st) := fun H locs ls hP hS hl => lv_if_le C.1 C.2.1 hd ht (fun q => h1 q H locs ls hP hS hl) (fun q => h2 q H locs ls hP hS hl)
theorem r_ldcw (C : Cx x k w cc nL own lv ret) {idx : Nat} {v : Int32} (hd : decode cc pc = .ok (.ldc_w idx, 3)) (hc : Cond.constant own idx v ∈ lw_good) (h : V x k w nL Q σ (pc + 3) L (.int v :: st)) : V x k w nL Q σ pc L st := fun H locs ls hP hS hl => lv_ldcw C.1 C.2.1 C.2.2.2.1 (C.2.2.2.2.1 _ hc) hd (h H locs ls hP hS hl)
theorem r_ldc (C : Cx x k w cc nL own lv ret) {idx : Nat} {v : Int32} (hd : decode cc pc = .ok (.ldc idx, 2)) (hc : Cond.constant own idx v ∈ lw_good) (h : V x k w nL Q σ (pc + 2) L (.int v :: st)) : V x k w nL Q σ pc L st := fun H locs ls hP hS hl => lv_ldc C.1 C.2.1 C.2.2.2.1 (C.2.2.2.2.1 _ hc) hd (h H locs ls hP hS hl)
theorem r_ldc2 (C : Cx x k w cc nL own lv ret) {idx : Nat} {v : Int64} (hd : decode cc pc = .ok (.ldc2_w idx, 3)) (hc : Cond.constantLong own idx v ∈ lw_good) (h : V x k w nL Q σ (pc + 3) L (.long v :: st)) : V x k w nL Q σ pc L st := fun H locs ls hP hS hl => lv_ldc2 C.1 C.2.1 C.2.2.2.1 (C.2.2.2.2.1 _ hc) hd (h H locs ls hP hS hl)
theorem r_tabIn (C : Cx x k w cc nL own lv ret) {dflt lo hi : Int} {offs : Array Int} {len : Nat} {a v : Int32} {off : Int} {tgt : Nat} (hd : decode cc pc = .ok (.tableswitch dflt lo hi offs, len)) (hv : a = v) (h1 : ¬ v.toInt < lo) (h2 : ¬ hi < v.toInt) (ho : offs[(v.toInt - lo).toNat]? = some off) (ht : (pc : Int) + off = (tgt : Int)) (h : V x k w nL Q σ tgt L st) : V x k w nL Q σ pc L (.int a :: st) := by
  subst hv
  exact fun H locs ls hP hS hl => lv_tableIn C.1 C.2.1 hd h1 h2 ho ht (h H locs ls hP hS hl)
theorem r_tabOut (C : Cx x k w cc nL own lv ret) {dflt lo hi : Int} {offs : Array Int} {len : Nat} {a : Int32} {tgt : Nat} (hd : decode cc pc = .ok (.tableswitch dflt lo hi offs, len)) (h1 : a.toInt < lo ∨ hi < a.toInt) (ht : (pc : Int) + dflt = (tgt : Int)) (h : V x k w nL Q σ tgt L st) : V x k w nL Q σ pc L (.int a :: st) :=
  fun H locs ls hP hS hl => lv_tableOut C.1 C.2.1 hd h1 ht (h H locs ls hP hS hl)
theorem r_look (C : Cx x k w cc nL own lv ret) {dflt : Int} {ps : Array (Int × Int)} {len : Nat} {a : Int32} {off : Int} {tgt : Nat} (hd : decode cc pc = .ok (.lookupswitch dflt ps, len)) (hp : (ps.toList.zip (ps.toList.drop 1)).all (fun (a, next) => a.1 < next.1) = true) (ho : Op.lookupswitch.offset ps.toList dflt a.toInt = off) (ht : (pc : Int) + off = (tgt : Int)) (h : V x k w nL Q σ tgt L st) : V x k w nL Q σ pc L (.int a :: st) :=
  fun H locs ls hP hS hl => lv_lookup C.1 C.2.1 hd hp ho ht (h H locs ls hP hS hl)
/-- getfield: the cell (kd, n) is an object of class ci with the fields fs -/
theorem r_get (C : Cx x k w cc nL own lv ret) {kd n ci idx N : Nat} {Cn ref : String} {T : u_T} {fs : List Value} {v : Value} (hm : (kd, n) ∈ k.1) (he : k.2 (wd w) (wa w) kd n (σ.1 kd n) σ.2 = .inr (ci, fs)) (hc : vwCl[ci]? = some (Cn, T, N)) (hin : ∀ q ∈ u_ws Cn T N, q ∈ lw_good) (j : Nat) (hj : j < N) (hlk : Cond.fieldLink own idx ref (T j).2.1 (T j).2.2.1 ∈ lw_good) (hrf : (T j).1 = ref) (hv : fs[j]? = some v) (hd : decode cc pc = .ok (.getfield idx, 3)) (h : V x k w nL Q σ (pc + 3) L (v :: st)) : V x k w nL Q σ pc L (.ref (wa w kd n) :: st) := by
  obtain ⟨hx, hb, hml, hown, hts, hlo, hr, hR, hK, hD, hko⟩ := C
  obtain ⟨q0, hq0⟩ := List.getElem?_of_mem hm
  intro H locs ls hP hS hl
  have hg := wl_get (w := w) (σ := σ) hq0
  rw [he] at hg
  exact va_get (D := wD w) (T := T) (N := N) hx hb hts hin hown hK.1 hP q0 hg hc j hj (hts _ hlk) (fun z hz => by rw [← hrf]; exact hz) hv hd (h H locs ls hP hS hl)
/-- putfield of an int -/
theorem r_put (C : Cx x k w cc nL own lv ret) {kd n ci idx N : Nat} {Cn ref : String} {T : u_T} {fs : List Value} {v : Int32} {ty : FieldType} (hm : (kd, n) ∈ k.1) (he : k.2 (wd w) (wa w) kd n (σ.1 kd n) σ.2 = .inr (ci, fs)) (hc : vwCl[ci]? = some (Cn, T, N)) (hin : ∀ q ∈ u_ws Cn T N, q ∈ lw_good) (ty0 : Nat → FieldType) (hty : ∀ k, k < N → parseFieldDescriptor (T k).2.2.1 = some (ty0 k)) (hnm : ∀ a, a < N → ∀ b, b < N → a ≠ b → (T a).2.1 ≠ (T b).2.1) (j : Nat) (hj : j < N) (hlk : Cond.fieldLink own idx ref (T j).2.1 (T j).2.2.1 ∈ lw_good) (hrf : (T j).1 = ref) (hfin : (T j).2.2.2 = false) (hde : parseFieldDescriptor (T j).2.2.1 = some ty) (hn : narrow ty (.int v) = .int v) (hfit : fits ty (.int v) = true) (hlf : j < fs.length)
    (hu : k.2 (wd w) (wa w) kd n (upd (σ.1 kd n) j v) σ.2 = .inr (ci, fs.set j (.int v))) (hd : decode cc pc = .ok (.putfield idx, 3)) (h : V x k w nL Q (sX σ kd n j v) (pc + 3) L st) : V x k w nL Q σ pc L (.int v :: .ref (wa w kd n) :: st) := by
  obtain ⟨hx, hb, hml, hown, hts, hlo, hr, hR, hK, hD, hko⟩ := C
  obtain ⟨q0, hq0⟩ := List.getElem?_of_mem hm
  intro H locs ls hP hS hl
  have hg := wl_get (w := w) (σ := σ) hq0
  rw [he] at hg
  refine va_put (D := wD w) (T := T) (N := N) hx hb hts hin ty0 hty hnm hown hK.1 hP (hD σ) hS q0 hg hc j hj (hts _ hlk) (fun z hz => by rw [← hrf]; exact hz) hfin hde hn hfit hlf hd (fun H1 locs1 hP1 _ hS1 => h H1 locs1 ls ?_ hS1 hl)
  rw [← hu, wl_set hko hq0] at hP1
  exact hP1
/-- putfield of a long: the cell (0, 0) -/
theorem r_putL (C : Cx x k w cc nL own lv ret) {ci idx N : Nat} {Cn ref : String} {T : u_T} {fs : List Value} {v : Int64} (hm : (0, 0) ∈ k.1) (he : k.2 (wd w) (wa w) 0 0 (σ.1 0 0) σ.2 = .inr (ci, fs)) (hc : vwCl[ci]? = some (Cn, T, N)) (hin : ∀ q ∈ u_ws Cn T N, q ∈ lw_good) (ty0 : Nat → FieldType) (hty : ∀ k, k < N → parseFieldDescriptor (T k).2.2.1 = some (ty0 k)) (hnm : ∀ a, a < N → ∀ b, b < N → a ≠ b → (T a).2.1 ≠ (T b).2.1) (j : Nat) (hj : j < N) (hlk : Cond.fieldLink own idx ref (T j).2.1 (T j).2.2.1 ∈ lw_good) (hrf : (T j).1 = ref) (hfin : (T j).2.2.2 = false) (hde : parseFieldDescriptor (T j).2.2.1 = some .long) (hlf : j < fs.length)
    (hu : k.2 (wd w) (wa w) 0 0 (σ.1 0 0) (vp_updL σ.2 j v) = .inr (ci, fs.set j (.long v))) (hy : ∀ q ∈ k.1, q ≠ (0, 0) → ∀ x y y', k.2 (wd w) (wa w) q.1 q.2 x y = k.2 (wd w) (wa w) q.1 q.2 x y') (hd : decode cc pc = .ok (.putfield idx, 3)) (h : V x k w nL Q (sY σ j v) (pc + 3) L st) : V x k w nL Q σ pc L (.long v :: .ref (wa w 0 0) :: st) := by
  obtain ⟨hx, hb, hml, hown, hts, hlo, hr, hR, hK, hD, hko⟩ := C
  obtain ⟨q0, hq0⟩ := List.getElem?_of_mem hm
  intro H locs ls hP hS hl
  have hg := wl_get (w := w) (σ := σ) hq0
  rw [he] at hg
  refine va_put (D := wD w) (T := T) (N := N) hx hb hts hin ty0 hty hnm hown hK.1 hP (hD σ) hS q0 hg hc j hj (hts _ hlk) (fun z hz => by rw [← hrf]; exact hz) hfin hde rfl rfl hlf hd (fun H1 locs1 hP1 _ hS1 => h H1 locs1 ls ?_ hS1 hl)
  rw [← hu, wl_setY hko hq0 v hy] at hP1
  exact hP1
/-- an index looked at -/
def inb (i : Int32) (n : Nat) : Bool := decide (¬ i < 0) && decide (i.toNatClampNeg < n)
theorem inb_vp {i : Int32} {n : Nat} (h : inb i n = true) : vp_in i n := by
  simp only [inb, Bool.and_eq_true, decide_eq_true_eq] at h
  rintro (q | q)
  · exact h.1 q
  · omega
theorem inb_lt {i : Int32} {n : Nat} (h : inb i n = true) : i.toNatClampNeg < n := by
  simp only [inb, Bool.and_eq_true, decide_eq_true_eq] at h
  exact h.2
theorem r_iald (C : Cx x k w cc nL own lv ret) {kd n N : Nat} {i : Int32} (hm : (kd, n) ∈ k.1) (he : k.2 (wd w) (wa w) kd n (σ.1 kd n) σ.2 = .inl (wd w 0, N, .inl (σ.1 kd n))) (hi : inb i N = true) (hd : decode cc pc = .ok (.iaload, 1)) (h : V x k w nL Q σ (pc + 1) L (.int (σ.1 kd n i.toNatClampNeg) :: st)) : V x k w nL Q σ pc L (.int i :: .ref (wa w kd n) :: st) := by
  obtain ⟨hx, hb, hml, hown, hts, hlo, hr, hR, hK, hD, hko⟩ := C
  obtain ⟨q0, hq0⟩ := List.getElem?_of_mem hm
  intro H locs ls hP hS hl
  have hg := wl_get (w := w) (σ := σ) hq0
  rw [he] at hg
  exact va_iald hx hb hK.1 hP q0 0 hg rfl (inb_vp hi) hd (h H locs ls hP hS hl)
theorem r_bald (C : Cx x k w cc nL own lv ret) {kd n N : Nat} {i : Int32} (hm : (kd, n) ∈ k.1) (he : k.2 (wd w) (wa w) kd n (σ.1 kd n) σ.2 = .inl (wd w 1, N, .inl (σ.1 kd n))) (hi : inb i N = true) (hd : decode cc pc = .ok (.baload, 1)) (h : V x k w nL Q σ (pc + 1) L (.int (σ.1 kd n i.toNatClampNeg) :: st)) : V x k w nL Q σ pc L (.int i :: .ref (wa w kd n) :: st) := by
  obtain ⟨hx, hb, hml, hown, hts, hlo, hr, hR, hK, hD, hko⟩ := C
  obtain ⟨q0, hq0⟩ := List.getElem?_of_mem hm
  intro H locs ls hP hS hl
  have hg := wl_get (w := w) (σ := σ) hq0
  rw [he] at hg
  exact va_bald hx hb hK.1 hP q0 1 hg rfl (inb_vp hi) hd (h H locs ls hP hS hl)
theorem r_zald (C : Cx x k w cc nL own lv ret) {kd n N : Nat} {i : Int32} (hm : (kd, n) ∈ k.1) (he : k.2 (wd w) (wa w) kd n (σ.1 kd n) σ.2 = .inl (wd w 2, N, .inl (σ.1 kd n))) (hi : inb i N = true) (hd : decode cc pc = .ok (.baload, 1)) (h : V x k w nL Q σ (pc + 1) L (.int (σ.1 kd n i.toNatClampNeg) :: st)) : V x k w nL Q σ pc L (.int i :: .ref (wa w kd n) :: st) := by
  obtain ⟨hx, hb, hml, hown, hts, hlo, hr, hR, hK, hD, hko⟩ := C
  obtain ⟨q0, hq0⟩ := List.getElem?_of_mem hm
  intro H locs ls hP hS hl
  have hg := wl_get (w := w) (σ := σ) hq0
  rw [he] at hg
  exact va_zald hx hb hK.1 hP q0 2 hg rfl (inb_vp hi) hd (h H locs ls hP hS hl)
/-- an array of references: its place j holds the cell (kr, j) -/
theorem r_aald (C : Cx x k w cc nL own lv ret) {kd kr t0 N : Nat} {Cn : String} {i : Int32} (hm : (kd, 0) ∈ k.1) (he : k.2 (wd w) (wa w) kd 0 (σ.1 kd 0) σ.2 = .inl (wd w t0, N, .inr (.inr (.inr (.inr (fun j => some (wa w kr j))))))) (ht : (tysA (wd w))[t0]? = some (wd w t0, .object Cn)) (hi : inb i N = true) (hd : decode cc pc = .ok (.aaload, 1)) (h : V x k w nL Q σ (pc + 1) L (.ref (wa w kr i.toNatClampNeg) :: st)) : V x k w nL Q σ pc L (.int i :: .ref (wa w kd 0) :: st) := by
  obtain ⟨hx, hb, hml, hown, hts, hlo, hr, hR, hK, hD, hko⟩ := C
  obtain ⟨q0, hq0⟩ := List.getElem?_of_mem hm
  intro H locs ls hP hS hl
  have hg := wl_get (w := w) (σ := σ) hq0
  rw [he] at hg
  exact va_aldq hx hb hK.1 hP q0 t0 hg ht (inb_vp hi) hd (h H locs ls hP hS hl)
theorem r_alen (C : Cx x k w cc nL own lv ret) {kd n t0 N : Nat} {ty : FieldType} {f : (Nat → Int32) ⊕ (Nat → Int64) ⊕ (Nat → UInt32) ⊕ (Nat → UInt64) ⊕ (Nat → Option Nat)} {v : Int32} (hm : (kd, n) ∈ k.1) (he : k.2 (wd w) (wa w) kd n (σ.1 kd n) σ.2 = .inl (wd w t0, N, f)) (ht : (tysA (wd w))[t0]? = some (wd w t0, ty)) (hv : Int32.ofNat N = v) (hd : decode cc pc = .ok (.arraylength, 1)) (h : V x k w nL Q σ (pc + 1) L (.int v :: st)) : V x k w nL Q σ pc L (.ref (wa w kd n) :: st) := by
  obtain ⟨hx, hb, hml, hown, hts, hlo, hr, hR, hK, hD, hko⟩ := C
  obtain ⟨q0, hq0⟩ := List.getElem?_of_mem hm
  intro H locs ls hP hS hl
  have hg := wl_get (w := w) (σ := σ) hq0
  rw [he] at hg
  exact va_alen hx hb hK.1 hP q0 t0 hg ht hv hd (h H locs ls hP hS hl)
theorem r_iast (C : Cx x k w cc nL own lv ret) {kd n N : Nat} {i v : Int32} (hm : (kd, n) ∈ k.1) (he : ∀ f, k.2 (wd w) (wa w) kd n f σ.2 = .inl (wd w 0, N, .inl f)) (hi : inb i N = true) (hd : decode cc pc = .ok (.iastore, 1)) (h : V x k w nL Q (sX σ kd n i.toNatClampNeg v) (pc + 1) L st) : V x k w nL Q σ pc L (.int v :: .int i :: .ref (wa w kd n) :: st) := by
  obtain ⟨hx, hb, hml, hown, hts, hlo, hr, hR, hK, hD, hko⟩ := C
  obtain ⟨q0, hq0⟩ := List.getElem?_of_mem hm
  intro H locs ls hP hS hl
  have hg := wl_get (w := w) (σ := σ) hq0
  rw [he] at hg
  refine va_iast hx hb hK.1 hP (hD σ) hS q0 0 hg rfl (inb_vp hi) hd (fun H1 locs1 hP1 _ hS1 => h H1 locs1 ls ?_ hS1 hl)
  rw [← he, wl_set hko hq0] at hP1
  exact hP1
theorem r_bast (C : Cx x k w cc nL own lv ret) {kd n N : Nat} {i v : Int32} (hm : (kd, n) ∈ k.1) (he : ∀ f, k.2 (wd w) (wa w) kd n f σ.2 = .inl (wd w 1, N, .inl f)) (hi : inb i N = true) (hd : decode cc pc = .ok (.bastore, 1)) (h : V x k w nL Q (sX σ kd n i.toNatClampNeg (vp_nar .byte v)) (pc + 1) L st) : V x k w nL Q σ pc L (.int v :: .int i :: .ref (wa w kd n) :: st) := by
  obtain ⟨hx, hb, hml, hown, hts, hlo, hr, hR, hK, hD, hko⟩ := C
  obtain ⟨q0, hq0⟩ := List.getElem?_of_mem hm
  intro H locs ls hP hS hl
  have hg := wl_get (w := w) (σ := σ) hq0
  rw [he] at hg
  refine va_bast hx hb hK.1 hP (hD σ) hS q0 1 hg rfl (inb_vp hi) hd (fun H1 locs1 hP1 _ hS1 => h H1 locs1 ls ?_ hS1 hl)
  rw [← he, wl_set hko hq0] at hP1
  exact hP1
theorem r_zast (C : Cx x k w cc nL own lv ret) {kd n N : Nat} {i v : Int32} (hm : (kd, n) ∈ k.1) (he : ∀ f, k.2 (wd w) (wa w) kd n f σ.2 = .inl (wd w 2, N, .inl f)) (hi : inb i N = true) (hd : decode cc pc = .ok (.bastore, 1)) (h : V x k w nL Q (sX σ kd n i.toNatClampNeg (vp_nar .boolean v)) (pc + 1) L st) : V x k w nL Q σ pc L (.int v :: .int i :: .ref (wa w kd n) :: st) := by
  obtain ⟨hx, hb, hml, hown, hts, hlo, hr, hR, hK, hD, hko⟩ := C
  obtain ⟨q0, hq0⟩ := List.getElem?_of_mem hm
  intro H locs ls hP hS hl
  have hg := wl_get (w := w) (σ := σ) hq0
  rw [he] at hg
  refine va_zast hx hb hK.1 hP (hD σ) hS q0 2 hg rfl (inb_vp hi) hd (fun H1 locs1 hP1 _ hS1 => h H1 locs1 ls ?_ hS1 hl)
  rw [← he, wl_set hko hq0] at hP1
  exact hP1
/-- System.arraycopy between two int rows of the world -/
theorem r_acopy (C : Cx x k w cc nL own (lv + 1) ret) {k0 n0 N0 k1 n1 N1 idx : Nat} {sp dp n : Int32} (hm0 : (k0, n0) ∈ k.1) (hm1 : (k1, n1) ∈ k.1) (he0 : k.2 (wd w) (wa w) k0 n0 (σ.1 k0 n0) σ.2 = .inl (wd w 0, N0, .inl (σ.1 k0 n0))) (he1 : ∀ f, k.2 (wd w) (wa w) k1 n1 f σ.2 = .inl (wd w 0, N1, .inl f)) (hl1 : Cond.methodLink own idx arraycopyName ∈ lw_good) (hl2 : Cond.native arraycopyName ∈ lw_good) (hl3 : Cond.static arraycopyName ∈ lw_good) (hl4 : Cond.initialized "java/lang/System" ∈ lw_good)
    (h1 : ¬ sp < 0) (h2 : ¬ dp < 0) (h3 : ¬ n < 0) (h4 : sp.toNatClampNeg + n.toNatClampNeg ≤ N0) (h5 : dp.toNatClampNeg + n.toNatClampNeg ≤ N1) (hd : decode cc pc = .ok (.invokestatic idx, 3)) (h : V x k w nL Q (sR σ k1 n1 (va_cpy (σ.1 k0 n0) (σ.1 k1 n1) sp.toNatClampNeg dp.toNatClampNeg n.toNatClampNeg)) (pc + 3) L []) : V x k w nL Q σ pc L [.int n, .int dp, .ref (wa w k1 n1), .int sp, .ref (wa w k0 n0)] := by
  obtain ⟨hx, hb, hml, hown, hts, hlo, hr, hR, hK, hD, hko⟩ := C
  obtain ⟨q0, hq0⟩ := List.getElem?_of_mem hm0
  obtain ⟨q1, hq1⟩ := List.getElem?_of_mem hm1
  intro H locs ls hP hS hl
  have hg := wl_get (w := w) (σ := σ) hq0
  rw [he0] at hg
  have hg1 := wl_get (w := w) (σ := σ) hq1
  rw [he1] at hg1
  refine va_copyi hx hb (by rw [hml, hl.1]) hown (hts _ hl1) (hts _ hl2) (hts _ hl3) (hts _ hl4) hK.1 hP (hD σ) hS q0 q1 0 0 hg hg1 rfl rfl rfl h1 h2 h3 h4 h5 (fun _ _ => rfl) (by rw [hR.1]; omega) (by rw [hR.2.1, show nativeFrameWords "java/lang/System" "arraycopy" 5 = 7 from by decide +kernel]; simp only [List.map_nil, List.sum_nil]; omega) hd (fun H1 locs1 hP1 _ hS1 => h H1 locs1 ls ?_ hS1 hl)
  rw [← he1, wl_set hko hq1] at hP1
  exact hP1
/-- behind a call -/
theorem r_back (C : Cx x k w cc nL own lv ret) {st0 rest : List Value} {a : Array Value} {rv : Option Value} (hr : ∀ (H : Heap) (locs : List Loc) (ls : Array Slot), va_P (wD w) vwCl (wl k w σ) H → va_S (wA w) (xS x).heap H locs → lv_has ls nL L → va_Run (xP x) (xL x) (xE x) (xR x) (xS x) (xM x) (xA x) (xB x) (xT x) (xC x) H locs (xk x) (xn x) 0 0 (F0 (xM x) pc ls st0) rest (Qg k w rv σ' a) (wA w))
    (h : V x k w nL Q σ' (pc + 3) L (rv.toList ++ rest)) : V x k w nL Q σ pc L st0 := by
  intro H locs ls hP hS hl T hT X
  obtain ⟨v, st₀, t, T', Lo, h0, X', hL, e1, e2, ⟨hv, hp, hz, hk⟩, sq⟩ := hr H locs ls hP hS hl T hT X
  cases hv
  rw [h0] at hz hk
  obtain ⟨t2, a1, b1⟩ := h T'.heap (locs ++ Lo) ls (by rw [e1]; exact hp) ⟨Nat.le_trans hS.1 (by rw [e1]; exact hz), fun q h1 h2 => by rw [e1, hk q (Nat.lt_of_lt_of_le h1 hS.1) h2]; exact hS.2.1 q h1 h2, fun q hq => by
      rcases List.mem_append.mp hq with h | h
      · exact hS.2.2 q h
      · exact hL q h⟩ hl T' rfl X'
  exact ⟨t2, sq t2 a1, b1⟩
theorem Wd.blind {av : List Value} : FrameBlind (va_Pc av (Wd k w σ)) := fun a U g mk q => ⟨q.1, q.2.1, q.2.2.1.calling, q.2.2.2⟩
theorem Wd.at (hK : Kn w (xS x)) (hD : ∀ σ, va_D (wA w) (wl k w σ)) {H : Heap} {locs : List Loc} (hP : va_P (wD w) vwCl (wl k w σ) H) (hS : va_S (wA w) (xS x).heap H locs) {av : List Value} : ∀ U : State, U.heap = H → (xS x).WarmedH U.vm → va_Pc av (Wd k w σ) av.toArray U := fun U hU hW => ⟨rfl, by rw [hU]; exact hP, hK.to hS hU hW, hD σ⟩
/-- invokevirtual -/
theorem r_callV (C : Cx x k w cc nL own lv ret) {y : MethodName} {bytes : ByteArray} {maxL n idx l2 kd m2 ci : Nat} {rt : Option FieldType} {Cn : String} {As rest : List Value} {rv : Option Value} {q : vw_C} {fs : List Value} (hM : Cm (xL x) y (.code y bytes maxL rt) l2 k w (.ref (wa w kd m2) :: As) σ rv σ') (hm : (kd, m2) ∈ k.1) (he : k.2 (wd w) (wa w) kd m2 (σ.1 kd m2) σ.2 = .inr (ci, fs)) (hc : vwCl[ci]? = some q) (hCn : q.1 = Cn) (h1 : Cond.methodLink own idx y ∈ lw_good) (h2 : Cond.instanceMethod y ∈ lw_good) (h3 : Cond.selects Cn y y ∈ lw_good) (h4 : Cond.initialized Cn ∈ lw_good) (h5 : Cond.code y bytes maxL rt ∈ lw_good)
    (hy : y.cls = Cn ∧ y.cls ≠ "java/lang/invoke/MethodHandle" ∧ y.cls ≠ "java/lang/invoke/VarHandle" ∧ (parseMethodDescriptor y.desc).map (fun d => d.parameters.length) = some n) (hn : As.length = n) (hlv : l2 + 1 ≤ lv) (hml2 : maxL ≤ 21) {st0 : List Value} (hst : st0 = As.reverse ++ .ref (wa w kd m2) :: rest) (hW : (rest.map fun v => v.category).sum ≤ 8) (hd : decode cc pc = .ok (.invokevirtual idx, 3)) (h : V x k w nL Q σ' (pc + 3) L (rv.toList ++ rest)) : V x k w nL Q σ pc L st0 := by
  have C' := C
  obtain ⟨hx, hb, hml, hown, hts, hlo, hr, hR, hK, hD, hko⟩ := C
  obtain ⟨q0, hq0⟩ := List.getElem?_of_mem hm
  subst hCn
  refine r_back C' (a := (Value.ref (wa w kd m2) :: As).toArray) (rest := rest) (rv := rv) (σ' := σ') (fun H locs ls hP hS hl => ?_) h
  have hg := wl_get (w := w) (σ := σ) hq0
  rw [he] at hg
  exact va_runV (As := As) (rest := rest) ⟨hx, hb, hml, hown, hts⟩ hM (cwV n hts (lw_gV h1 h2 h3 h4 h5) rfl rfl rfl hy ⟨by rw [hR.1]; exact hlv, by rw [hR.2.1]; show 8 + (maxL + 11) + 40 * l2 ≤ 40 * lv; omega⟩) ⟨Wd.blind, va_recv hK.1 hP hc hg, Wd.at hK hD hP hS⟩ rfl hn hl.1 hst (lv_room hW) hd ⟨hR.2.2.1, hR.2.2.2⟩
/-- invokestatic -/
theorem r_callS (C : Cx x k w cc nL own lv ret) {y : MethodName} {bytes : ByteArray} {maxL n idx l2 : Nat} {rt : Option FieldType} {As rest : List Value} {rv : Option Value} (hM : Cm (xL x) y (.code y bytes maxL rt) l2 k w As σ rv σ') (h1 : Cond.methodLink own idx y ∈ lw_good) (h2 : Cond.static y ∈ lw_good) (h4 : Cond.initialized y.cls ∈ lw_good) (h5 : Cond.code y bytes maxL rt ∈ lw_good)
    (hy : y.cls ≠ "java/lang/invoke/MethodHandle" ∧ y.cls ≠ "java/lang/invoke/VarHandle" ∧ (parseMethodDescriptor y.desc).map (fun d => d.parameters.length) = some n) (hn : As.length = n) (hlv : l2 + 1 ≤ lv) (hml2 : maxL ≤ 21) {st0 : List Value} (hst : st0 = As.reverse ++ rest) (hW : (rest.map fun v => v.category).sum ≤ 8) (hd : decode cc pc = .ok (.invokestatic idx, 3)) (h : V x k w nL Q σ' (pc + 3) L (rv.toList ++ rest)) : V x k w nL Q σ pc L st0 := by
  have C' := C
  obtain ⟨hx, hb, hml, hown, hts, hlo, hr, hR, hK, hD, hko⟩ := C
  refine r_back C' (a := As.toArray) (rest := rest) (rv := rv) (σ' := σ') (fun H locs ls hP hS hl => ?_) h
  exact va_runS (As := As) (rest := rest) ⟨hx, hb, hml, hown, hts⟩ hM ⟨callB_of n hts (lw_gN h5) rfl rfl rfl (hts _ h4) (hts _ h1) hy ⟨by rw [hR.1]; exact hlv, by rw [hR.2.1]; show 8 + (maxL + 11) + 40 * l2 ≤ 40 * lv; omega⟩, hts _ h2⟩ ⟨Wd.blind, Wd.at hK hD hP hS⟩ rfl hn hl.1 hst (lv_room hW) hd ⟨hR.2.2.1, hR.2.2.2⟩
/-- invokestatic of a private method of the nest -/
theorem r_callSN (C : Cx x k w cc nL own lv ret) {y : MethodName} {host : String} {bytes : ByteArray} {maxL n idx l2 : Nat} {rt : Option FieldType} {As rest : List Value} {rv : Option Value} (hM : Cm (xL x) y (.code y bytes maxL rt) l2 k w As σ rv σ') (h1 : va_Nw (.methodLinkNest own idx y host) (xS x)) (h2 : Cond.static y ∈ lw_good) (h4 : Cond.initialized y.cls ∈ lw_good) (h5 : Cond.code y bytes maxL rt ∈ lw_good)
    (hy : y.cls ≠ "java/lang/invoke/MethodHandle" ∧ y.cls ≠ "java/lang/invoke/VarHandle" ∧ (parseMethodDescriptor y.desc).map (fun d => d.parameters.length) = some n) (hn : As.length = n) (hlv : l2 + 1 ≤ lv) (hml2 : maxL ≤ 21) {st0 : List Value} (hst : st0 = As.reverse ++ rest) (hW : (rest.map fun v => v.category).sum ≤ 8) (hd : decode cc pc = .ok (.invokestatic idx, 3)) (h : V x k w nL Q σ' (pc + 3) L (rv.toList ++ rest)) : V x k w nL Q σ pc L st0 := by
  have C' := C
  obtain ⟨hx, hb, hml, hown, hts, hlo, hr, hR, hK, hD, hko⟩ := C
  refine r_back C' (a := As.toArray) (rest := rest) (rv := rv) (σ' := σ') (fun H locs ls hP hS hl => ?_) h
  exact va_runSN (As := As) (rest := rest) ⟨hx, hb, hml, hown, hts⟩ hM ⟨va_cnB n hts (lw_gN h5) rfl rfl rfl h1 (hts _ h4) hy ⟨by rw [hR.1]; exact hlv, by rw [hR.2.1]; show 8 + (maxL + 11) + 40 * l2 ≤ 40 * lv; omega⟩, hts _ h2, trivial⟩ ⟨Wd.blind, Wd.at hK hD hP hS⟩ rfl hn hl.1 hst (lv_room hW) hd ⟨hR.2.2.1, hR.2.2.2⟩
theorem r_iret (C : Cx x k w cc nL own lv (some .int)) {v : Int32} (hd : decode cc pc = .ok (.ireturn, 1)) : V x k w nL (QM x k w (some (.int v)) σ) σ pc L [.int v] :=
  fun H locs ls hP hS hl => W.iret C.1 C.2.1 C.2.2.2.2.2.2.1 (fun t ht hW => ⟨rfl, by rw [ht]; exact hP, hS.F ht⟩) hS.2.2 hd C.2.2.2.2.2.1
theorem r_zret (C : Cx x k w cc nL own lv (some .boolean)) {v : Int32} (hn : narrow .boolean (.int v) = .int v) (hd : decode cc pc = .ok (.ireturn, 1)) : V x k w nL (QM x k w (some (.int v)) σ) σ pc L [.int v] :=
  fun H locs ls hP hS hl => W.zret C.1 C.2.1 C.2.2.2.2.2.2.1 hn (fun t ht hW => ⟨rfl, by rw [ht]; exact hP, hS.F ht⟩) hS.2.2 hd C.2.2.2.2.2.1
theorem r_lret (C : Cx x k w cc nL own lv (some .long)) {v : Int64} (hd : decode cc pc = .ok (.lreturn, 1)) : V x k w nL (QM x k w (some (.long v)) σ) σ pc L [.long v] :=
  fun H locs ls hP hS hl => W.lret C.1 C.2.1 C.2.2.2.2.2.2.1 (fun t ht hW => ⟨rfl, by rw [ht]; exact hP, hS.F ht⟩) hS.2.2 hd C.2.2.2.2.2.1
theorem r_vret (C : Cx x k w cc nL own lv none) (hd : decode cc pc = .ok (.return_, 1)) : V x k w nL (QM x k w none σ) σ pc L [] :=
  fun H locs ls hP hS hl => W.vret C.1 C.2.1 C.2.2.2.2.2.2.1 (fun t ht hW => ⟨rfl, by rw [ht]; exact hP, hS.F ht⟩) hS.2.2 hd C.2.2.2.2.2.1
theorem r_aret {rt : FieldType} (C : Cx x k w cc nL own lv (some rt)) {a : Nat} (hrt : (∃ n, rt = .object n) ∨ ∃ t, rt = .array t) (hd : decode cc pc = .ok (.areturn, 1)) : V x k w nL (QM x k w (some (.ref a)) σ) σ pc L [.ref a] :=
  fun H locs ls hP hS hl => W.aret C.1 C.2.1 C.2.2.2.2.2.2.1 hrt (Or.inr ⟨a, rfl⟩) (fun t ht hW => ⟨rfl, by rw [ht]; exact hP, hS.F ht⟩) hS.2.2 hd C.2.2.2.2.2.1
/-- a number with 0 or 1 -/
theorem nb_ite {c : Prop} [Decidable c] {a b : Int32} (ha : narrow .boolean (.int a) = .int a) (hb : narrow .boolean (.int b) = .int b) : narrow .boolean (.int (if c then a else b)) = .int (if c then a else b) := by
  split
  · exact ha
  · exact hb
end
theorem nb_01 {v : Int32} (h : v = 0 ∨ v = 1) : narrow .boolean (.int v) = .int v := by
  rcases h with rfl | rfl <;> rfl
theorem ip {α : Type} {c : Prop} [Decidable c] {A B x : α} (h : (if c then A else B) = x) (hc : c) : A = x := (if_pos hc).symm.trans h
theorem iq {α : Type} {c : Prop} [Decidable c] {A B x : α} (h : (if c then A else B) = x) (hc : ¬ c) : B = x := (if_neg hc).symm.trans h
theorem gdE {α : Type} {c : Prop} [Decidable c] {A : Option α} {x : α} (h : (if c then A else none) = some x) : c ∧ A = some x := by
  by_cases hc : c
  · exact ⟨hc, (if_pos hc).symm.trans h⟩
  · rw [if_neg hc] at h; cases h
theorem bdE {α β : Type} {o : Option α} {g : α → Option β} {x : β} (h : Option.bind o g = some x) : ∃ q, o = some q ∧ g q = some x := by
  cases o with
  | none => cases h
  | some q => exact ⟨q, rfl, h⟩
end
section
def clC : Cl := fun d a kd n x y => match kd with
  | 0 => .inr (11, [.ref (a 1 0), .ref (a 2 0), .ref (a 3 0), .ref (a 4 0), .ref (a 5 0), .ref (a 6 0), .int (x 6), .int (x 7), .long (y 8), .long (y 9)])
  | 1 => .inl (d 3, 6, .inr (.inr (.inr (.inr (fun j => some (a 18 j))))))
  | 2 => .inl (d 4, 4, .inr (.inr (.inr (.inr (fun j => some (a 20 j))))))
  | 3 => .inr (1, [.ref (a 7 0), .ref (a 10 0), .ref (a 14 0), .int (x 3), .ref (a 15 0), .int (x 5), .ref (a 16 0), .int (x 7)])
  | 4 => .inr (6, [.ref (a 17 0), .int (x 1), .int (x 2), .int (x 3), .ref (a 3 0)])
  | 5 => .inr (2, [.int (x 0), .ref (a 3 0)])
  | 6 => .inl (d 0, 6, .inl x)
  | 7 => .inr (8, [.ref (a 8 0), .ref (a 9 0)])
  | 8 => .inl (d 0, 244, .inl x)
  | 9 => .inl (d 0, 244, .inl x)
  | 10 => .inr (0, [.int (x 0), .int (x 1), .int (x 2), .ref (a 11 0), .int (x 4), .int (x 5), .int (x 6), .int (x 7), .int (x 8), .ref (a 7 0), .ref (a 12 0), .ref (a 13 0)])
  | 11 => .inl (d 0, 244, .inl x)
  | 12 => .inl (d 0, 244, .inl x)
  | 13 => .inl (d 0, 244, .inl x)
  | 14 => .inl (d 0, 12, .inl x)
  | 15 => .inl (d 5, 8, .inr (.inr (.inr (.inr (fun j => some (a 22 j))))))
  | 16 => .inl (d 6, 24, .inr (.inr (.inr (.inr (fun j => some (a 26 j))))))
  | 17 => .inl (d 7, 40, .inr (.inr (.inr (.inr (fun j => some (a 28 j))))))
  | 18 => .inr (7, [.ref (a 19 n), .int (x 1)])
  | 19 => .inl (d 0, 40, .inl x)
  | 20 => .inr (10, [.ref (a 21 n), .int (x 1), .int (x 2), .int (x 3)])
  | 21 => .inl (d 1, 40, .inl x)
  | 22 => .inr (3, [.int (x 0), .int (x 1), .int (x 2), .int (x 3), .ref (a 23 n), .int (x 5), .ref (a 24 n)])
  | 23 => .inl (d 0, 9, .inl x)
  | 24 => .inr (4, [.int (x 0), .int (x 1), .int (x 2), .int (x 3), .ref (a 25 n), .int (x 5), .int (x 6), .int (x 7)])
  | 25 => .inl (d 0, 244, .inl x)
  | 26 => .inr (9, [.int (x 0), .int (x 1), .int (x 2), .int (x 3), .int (x 4), .ref (a 27 n)])
  | 27 => .inl (d 0, 5, .inl x)
  | 28 => .inr (5, [.int (x 0), .int (x 1), .int (x 2), .int (x 3)])
  | _ => .inr (0, [])
theorem clC_0 (d : Nat → ClassId) (a : Nat → Nat → Nat) (n : Nat) (x : Nat → Int32) (y : Nat → Int64) : clC d a 0 n x y = .inr (11, [.ref (a 1 0), .ref (a 2 0), .ref (a 3 0), .ref (a 4 0), .ref (a 5 0), .ref (a 6 0), .int (x 6), .int (x 7), .long (y 8), .long (y 9)]) := rfl
theorem clC_1 (d : Nat → ClassId) (a : Nat → Nat → Nat) (n : Nat) (x : Nat → Int32) (y : Nat → Int64) : clC d a 1 n x y = .inl (d 3, 6, .inr (.inr (.inr (.inr (fun j => some (a 18 j)))))) := rfl
theorem clC_2 (d : Nat → ClassId) (a : Nat → Nat → Nat) (n : Nat) (x : Nat → Int32) (y : Nat → Int64) : clC d a 2 n x y = .inl (d 4, 4, .inr (.inr (.inr (.inr (fun j => some (a 20 j)))))) := rfl
theorem clC_3 (d : Nat → ClassId) (a : Nat → Nat → Nat) (n : Nat) (x : Nat → Int32) (y : Nat → Int64) : clC d a 3 n x y = .inr (1, [.ref (a 7 0), .ref (a 10 0), .ref (a 14 0), .int (x 3), .ref (a 15 0), .int (x 5), .ref (a 16 0), .int (x 7)]) := rfl
theorem clC_4 (d : Nat → ClassId) (a : Nat → Nat → Nat) (n : Nat) (x : Nat → Int32) (y : Nat → Int64) : clC d a 4 n x y = .inr (6, [.ref (a 17 0), .int (x 1), .int (x 2), .int (x 3), .ref (a 3 0)]) := rfl
theorem clC_5 (d : Nat → ClassId) (a : Nat → Nat → Nat) (n : Nat) (x : Nat → Int32) (y : Nat → Int64) : clC d a 5 n x y = .inr (2, [.int (x 0), .ref (a 3 0)]) := rfl
theorem clC_6 (d : Nat → ClassId) (a : Nat → Nat → Nat) (n : Nat) (x : Nat → Int32) (y : Nat → Int64) : clC d a 6 n x y = .inl (d 0, 6, .inl x) := rfl
theorem clC_7 (d : Nat → ClassId) (a : Nat → Nat → Nat) (n : Nat) (x : Nat → Int32) (y : Nat → Int64) : clC d a 7 n x y = .inr (8, [.ref (a 8 0), .ref (a 9 0)]) := rfl
theorem clC_8 (d : Nat → ClassId) (a : Nat → Nat → Nat) (n : Nat) (x : Nat → Int32) (y : Nat → Int64) : clC d a 8 n x y = .inl (d 0, 244, .inl x) := rfl
theorem clC_9 (d : Nat → ClassId) (a : Nat → Nat → Nat) (n : Nat) (x : Nat → Int32) (y : Nat → Int64) : clC d a 9 n x y = .inl (d 0, 244, .inl x) := rfl
theorem clC_10 (d : Nat → ClassId) (a : Nat → Nat → Nat) (n : Nat) (x : Nat → Int32) (y : Nat → Int64) : clC d a 10 n x y = .inr (0, [.int (x 0), .int (x 1), .int (x 2), .ref (a 11 0), .int (x 4), .int (x 5), .int (x 6), .int (x 7), .int (x 8), .ref (a 7 0), .ref (a 12 0), .ref (a 13 0)]) := rfl
theorem clC_11 (d : Nat → ClassId) (a : Nat → Nat → Nat) (n : Nat) (x : Nat → Int32) (y : Nat → Int64) : clC d a 11 n x y = .inl (d 0, 244, .inl x) := rfl
theorem clC_12 (d : Nat → ClassId) (a : Nat → Nat → Nat) (n : Nat) (x : Nat → Int32) (y : Nat → Int64) : clC d a 12 n x y = .inl (d 0, 244, .inl x) := rfl
theorem clC_13 (d : Nat → ClassId) (a : Nat → Nat → Nat) (n : Nat) (x : Nat → Int32) (y : Nat → Int64) : clC d a 13 n x y = .inl (d 0, 244, .inl x) := rfl
theorem clC_14 (d : Nat → ClassId) (a : Nat → Nat → Nat) (n : Nat) (x : Nat → Int32) (y : Nat → Int64) : clC d a 14 n x y = .inl (d 0, 12, .inl x) := rfl
theorem clC_15 (d : Nat → ClassId) (a : Nat → Nat → Nat) (n : Nat) (x : Nat → Int32) (y : Nat → Int64) : clC d a 15 n x y = .inl (d 5, 8, .inr (.inr (.inr (.inr (fun j => some (a 22 j)))))) := rfl
theorem clC_16 (d : Nat → ClassId) (a : Nat → Nat → Nat) (n : Nat) (x : Nat → Int32) (y : Nat → Int64) : clC d a 16 n x y = .inl (d 6, 24, .inr (.inr (.inr (.inr (fun j => some (a 26 j)))))) := rfl
theorem clC_17 (d : Nat → ClassId) (a : Nat → Nat → Nat) (n : Nat) (x : Nat → Int32) (y : Nat → Int64) : clC d a 17 n x y = .inl (d 7, 40, .inr (.inr (.inr (.inr (fun j => some (a 28 j)))))) := rfl
theorem clC_18 (d : Nat → ClassId) (a : Nat → Nat → Nat) (n : Nat) (x : Nat → Int32) (y : Nat → Int64) : clC d a 18 n x y = .inr (7, [.ref (a 19 n), .int (x 1)]) := rfl
theorem clC_19 (d : Nat → ClassId) (a : Nat → Nat → Nat) (n : Nat) (x : Nat → Int32) (y : Nat → Int64) : clC d a 19 n x y = .inl (d 0, 40, .inl x) := rfl
theorem clC_20 (d : Nat → ClassId) (a : Nat → Nat → Nat) (n : Nat) (x : Nat → Int32) (y : Nat → Int64) : clC d a 20 n x y = .inr (10, [.ref (a 21 n), .int (x 1), .int (x 2), .int (x 3)]) := rfl
theorem clC_21 (d : Nat → ClassId) (a : Nat → Nat → Nat) (n : Nat) (x : Nat → Int32) (y : Nat → Int64) : clC d a 21 n x y = .inl (d 1, 40, .inl x) := rfl
theorem clC_22 (d : Nat → ClassId) (a : Nat → Nat → Nat) (n : Nat) (x : Nat → Int32) (y : Nat → Int64) : clC d a 22 n x y = .inr (3, [.int (x 0), .int (x 1), .int (x 2), .int (x 3), .ref (a 23 n), .int (x 5), .ref (a 24 n)]) := rfl
theorem clC_23 (d : Nat → ClassId) (a : Nat → Nat → Nat) (n : Nat) (x : Nat → Int32) (y : Nat → Int64) : clC d a 23 n x y = .inl (d 0, 9, .inl x) := rfl
theorem clC_24 (d : Nat → ClassId) (a : Nat → Nat → Nat) (n : Nat) (x : Nat → Int32) (y : Nat → Int64) : clC d a 24 n x y = .inr (4, [.int (x 0), .int (x 1), .int (x 2), .int (x 3), .ref (a 25 n), .int (x 5), .int (x 6), .int (x 7)]) := rfl
theorem clC_25 (d : Nat → ClassId) (a : Nat → Nat → Nat) (n : Nat) (x : Nat → Int32) (y : Nat → Int64) : clC d a 25 n x y = .inl (d 0, 244, .inl x) := rfl
theorem clC_26 (d : Nat → ClassId) (a : Nat → Nat → Nat) (n : Nat) (x : Nat → Int32) (y : Nat → Int64) : clC d a 26 n x y = .inr (9, [.int (x 0), .int (x 1), .int (x 2), .int (x 3), .int (x 4), .ref (a 27 n)]) := rfl
theorem clC_27 (d : Nat → ClassId) (a : Nat → Nat → Nat) (n : Nat) (x : Nat → Int32) (y : Nat → Int64) : clC d a 27 n x y = .inl (d 0, 5, .inl x) := rfl
theorem clC_28 (d : Nat → ClassId) (a : Nat → Nat → Nat) (n : Nat) (x : Nat → Int32) (y : Nat → Int64) : clC d a 28 n x y = .inr (5, [.int (x 0), .int (x 1), .int (x 2), .int (x 3)]) := rfl
def clM : Cl := fun d a kd n x y => match kd with
  | 0 => .inr (12, [.int (x 0), .ref (a 1 0), .int (x 2), .long (y 3), .long (y 4), .ref (a 5 0), .ref (a 6 0), .ref (a 7 0), .ref (a 8 0), .ref (a 9 0), .int (x 10), .ref (a 11 0), .int (x 12), .ref (a 13 0), .ref (a 14 0), .ref (a 15 0), .int (x 16), .ref (a 17 0), .ref (a 18 0), .ref (a 19 0), .ref (a 20 0), .ref (a 21 0), .ref (a 22 0), .int (x 23), .ref (a 24 0), .ref (a 25 0), .int (x 26), .int (x 27), .int (x 28), .int (x 29), .int (x 30), .ref (a 31 0), .ref (a 32 0), .int (x 33), .ref (a 34 0), .ref (a 35 0), .ref (a 36 0), .ref (a 37 0), .int (x 38), .ref (a 39 0), .long (y 40)])
  | 1 => .inl (d 0, 6, .inl x)
  | 5 => .inl (d 0, 6, .inl x)
  | 6 => .inl (d 0, 240, .inl x)
  | 7 => .inl (d 0, 40, .inl x)
  | 8 => .inl (d 0, 4, .inl x)
  | 9 => .inl (d 0, 160, .inl x)
  | 11 => .inl (d 0, 12, .inl x)
  | 13 => .inl (d 0, 8, .inl x)
  | 14 => .inl (d 0, 8, .inl x)
  | 15 => .inl (d 0, 8, .inl x)
  | 17 => .inl (d 0, 24, .inl x)
  | 18 => .inl (d 0, 24, .inl x)
  | 19 => .inl (d 0, 24, .inl x)
  | 20 => .inl (d 0, 24, .inl x)
  | 21 => .inl (d 0, 24, .inl x)
  | 22 => .inl (d 0, 120, .inl x)
  | 24 => .inl (d 0, 3, .inl x)
  | 25 => .inl (d 0, 2196, .inl x)
  | 31 => .inl (d 2, 244, .inl x)
  | 32 => .inl (d 0, 8, .inl x)
  | 34 => .inl (d 0, 40, .inl x)
  | 35 => .inl (d 0, 40, .inl x)
  | 36 => .inl (d 0, 40, .inl x)
  | 37 => .inl (d 2, 40, .inl x)
  | 39 => .inl (d 0, 32, .inl x)
  | _ => .inr (0, [])
theorem clM_0 (d : Nat → ClassId) (a : Nat → Nat → Nat) (n : Nat) (x : Nat → Int32) (y : Nat → Int64) : clM d a 0 n x y = .inr (12, [.int (x 0), .ref (a 1 0), .int (x 2), .long (y 3), .long (y 4), .ref (a 5 0), .ref (a 6 0), .ref (a 7 0), .ref (a 8 0), .ref (a 9 0), .int (x 10), .ref (a 11 0), .int (x 12), .ref (a 13 0), .ref (a 14 0), .ref (a 15 0), .int (x 16), .ref (a 17 0), .ref (a 18 0), .ref (a 19 0), .ref (a 20 0), .ref (a 21 0), .ref (a 22 0), .int (x 23), .ref (a 24 0), .ref (a 25 0), .int (x 26), .int (x 27), .int (x 28), .int (x 29), .int (x 30), .ref (a 31 0), .ref (a 32 0), .int (x 33), .ref (a 34 0), .ref (a 35 0), .ref (a 36 0), .ref (a 37 0), .int (x 38), .ref (a 39 0), .long (y 40)]) := rfl
theorem clM_1 (d : Nat → ClassId) (a : Nat → Nat → Nat) (n : Nat) (x : Nat → Int32) (y : Nat → Int64) : clM d a 1 n x y = .inl (d 0, 6, .inl x) := rfl
theorem clM_5 (d : Nat → ClassId) (a : Nat → Nat → Nat) (n : Nat) (x : Nat → Int32) (y : Nat → Int64) : clM d a 5 n x y = .inl (d 0, 6, .inl x) := rfl
theorem clM_6 (d : Nat → ClassId) (a : Nat → Nat → Nat) (n : Nat) (x : Nat → Int32) (y : Nat → Int64) : clM d a 6 n x y = .inl (d 0, 240, .inl x) := rfl
theorem clM_7 (d : Nat → ClassId) (a : Nat → Nat → Nat) (n : Nat) (x : Nat → Int32) (y : Nat → Int64) : clM d a 7 n x y = .inl (d 0, 40, .inl x) := rfl
theorem clM_8 (d : Nat → ClassId) (a : Nat → Nat → Nat) (n : Nat) (x : Nat → Int32) (y : Nat → Int64) : clM d a 8 n x y = .inl (d 0, 4, .inl x) := rfl
theorem clM_9 (d : Nat → ClassId) (a : Nat → Nat → Nat) (n : Nat) (x : Nat → Int32) (y : Nat → Int64) : clM d a 9 n x y = .inl (d 0, 160, .inl x) := rfl
theorem clM_11 (d : Nat → ClassId) (a : Nat → Nat → Nat) (n : Nat) (x : Nat → Int32) (y : Nat → Int64) : clM d a 11 n x y = .inl (d 0, 12, .inl x) := rfl
theorem clM_13 (d : Nat → ClassId) (a : Nat → Nat → Nat) (n : Nat) (x : Nat → Int32) (y : Nat → Int64) : clM d a 13 n x y = .inl (d 0, 8, .inl x) := rfl
theorem clM_14 (d : Nat → ClassId) (a : Nat → Nat → Nat) (n : Nat) (x : Nat → Int32) (y : Nat → Int64) : clM d a 14 n x y = .inl (d 0, 8, .inl x) := rfl
theorem clM_15 (d : Nat → ClassId) (a : Nat → Nat → Nat) (n : Nat) (x : Nat → Int32) (y : Nat → Int64) : clM d a 15 n x y = .inl (d 0, 8, .inl x) := rfl
theorem clM_17 (d : Nat → ClassId) (a : Nat → Nat → Nat) (n : Nat) (x : Nat → Int32) (y : Nat → Int64) : clM d a 17 n x y = .inl (d 0, 24, .inl x) := rfl
theorem clM_18 (d : Nat → ClassId) (a : Nat → Nat → Nat) (n : Nat) (x : Nat → Int32) (y : Nat → Int64) : clM d a 18 n x y = .inl (d 0, 24, .inl x) := rfl
theorem clM_19 (d : Nat → ClassId) (a : Nat → Nat → Nat) (n : Nat) (x : Nat → Int32) (y : Nat → Int64) : clM d a 19 n x y = .inl (d 0, 24, .inl x) := rfl
theorem clM_20 (d : Nat → ClassId) (a : Nat → Nat → Nat) (n : Nat) (x : Nat → Int32) (y : Nat → Int64) : clM d a 20 n x y = .inl (d 0, 24, .inl x) := rfl
theorem clM_21 (d : Nat → ClassId) (a : Nat → Nat → Nat) (n : Nat) (x : Nat → Int32) (y : Nat → Int64) : clM d a 21 n x y = .inl (d 0, 24, .inl x) := rfl
theorem clM_22 (d : Nat → ClassId) (a : Nat → Nat → Nat) (n : Nat) (x : Nat → Int32) (y : Nat → Int64) : clM d a 22 n x y = .inl (d 0, 120, .inl x) := rfl
theorem clM_24 (d : Nat → ClassId) (a : Nat → Nat → Nat) (n : Nat) (x : Nat → Int32) (y : Nat → Int64) : clM d a 24 n x y = .inl (d 0, 3, .inl x) := rfl
theorem clM_25 (d : Nat → ClassId) (a : Nat → Nat → Nat) (n : Nat) (x : Nat → Int32) (y : Nat → Int64) : clM d a 25 n x y = .inl (d 0, 2196, .inl x) := rfl
theorem clM_31 (d : Nat → ClassId) (a : Nat → Nat → Nat) (n : Nat) (x : Nat → Int32) (y : Nat → Int64) : clM d a 31 n x y = .inl (d 2, 244, .inl x) := rfl
theorem clM_32 (d : Nat → ClassId) (a : Nat → Nat → Nat) (n : Nat) (x : Nat → Int32) (y : Nat → Int64) : clM d a 32 n x y = .inl (d 0, 8, .inl x) := rfl
theorem clM_34 (d : Nat → ClassId) (a : Nat → Nat → Nat) (n : Nat) (x : Nat → Int32) (y : Nat → Int64) : clM d a 34 n x y = .inl (d 0, 40, .inl x) := rfl
theorem clM_35 (d : Nat → ClassId) (a : Nat → Nat → Nat) (n : Nat) (x : Nat → Int32) (y : Nat → Int64) : clM d a 35 n x y = .inl (d 0, 40, .inl x) := rfl
theorem clM_36 (d : Nat → ClassId) (a : Nat → Nat → Nat) (n : Nat) (x : Nat → Int32) (y : Nat → Int64) : clM d a 36 n x y = .inl (d 0, 40, .inl x) := rfl
theorem clM_37 (d : Nat → ClassId) (a : Nat → Nat → Nat) (n : Nat) (x : Nat → Int32) (y : Nat → Int64) : clM d a 37 n x y = .inl (d 2, 40, .inl x) := rfl
theorem clM_39 (d : Nat → ClassId) (a : Nat → Nat → Nat) (n : Nat) (x : Nat → Int32) (y : Nat → Int64) : clM d a 39 n x y = .inl (d 0, 32, .inl x) := rfl
def ksC : List (Nat × Nat) := [(0, 0), (1, 0), (2, 0), (3, 0), (4, 0), (5, 0), (6, 0), (7, 0), (8, 0), (9, 0), (10, 0), (11, 0), (12, 0), (13, 0), (14, 0), (15, 0), (16, 0), (17, 0), (18, 0), (18, 1), (18, 2), (18, 3), (18, 4), (18, 5), (19, 0), (19, 1), (19, 2), (19, 3), (19, 4), (19, 5), (20, 0), (20, 1), (20, 2), (20, 3), (21, 0), (21, 1), (21, 2), (21, 3), (22, 0), (22, 1), (22, 2), (22, 3), (22, 4), (22, 5), (22, 6), (22, 7), (23, 0), (23, 1), (23, 2), (23, 3), (23, 4), (23, 5), (23, 6), (23, 7), (24, 0), (24, 1), (24, 2), (24, 3), (24, 4), (24, 5), (24, 6), (24, 7), (25, 0), (25, 1), (25, 2), (25, 3), (25, 4), (25, 5), (25, 6), (25, 7), (26, 0), (26, 1), (26, 2), (26, 3), (26, 4), (26, 5), (26, 6), (26, 7), (26, 8), (26, 9), (26, 10), (26, 11), (26, 12), (26, 13), (26, 14), (26, 15), (26, 16), (26, 17), (26, 18), (26, 19), (26, 20), (26, 21), (26, 22), (26, 23), (27, 0), (27, 1), (27, 2), (27, 3), (27, 4), (27, 5), (27, 6), (27, 7), (27, 8), (27, 9), (27, 10), (27, 11), (27, 12), (27, 13), (27, 14), (27, 15), (27, 16), (27, 17), (27, 18), (27, 19), (27, 20), (27, 21), (27, 22), (27, 23), (28, 0), (28, 1), (28, 2), (28, 3), (28, 4), (28, 5), (28, 6), (28, 7), (28, 8), (28, 9), (28, 10), (28, 11), (28, 12), (28, 13), (28, 14), (28, 15), (28, 16), (28, 17), (28, 18), (28, 19), (28, 20), (28, 21), (28, 22), (28, 23), (28, 24), (28, 25), (28, 26), (28, 27), (28, 28), (28, 29), (28, 30), (28, 31), (28, 32), (28, 33), (28, 34), (28, 35), (28, 36), (28, 37), (28, 38), (28, 39)]
def ksM : List (Nat × Nat) := [(0, 0), (1, 0), (5, 0), (6, 0), (7, 0), (8, 0), (9, 0), (11, 0), (13, 0), (14, 0), (15, 0), (17, 0), (18, 0), (19, 0), (20, 0), (21, 0), (22, 0), (24, 0), (25, 0), (31, 0), (32, 0), (34, 0), (35, 0), (36, 0), (37, 0), (39, 0)]
abbrev WC : Wk := (ksC, clC)
abbrev WM : Wk := (ksM, clM)
theorem Ko_of (l : List (Nat × Nat)) (h : l.Nodup) : ∀ (i j : Nat) (q : Nat × Nat), l[i]? = some q → l[j]? = some q → i = j := by
  intro i j q hi hj
  obtain ⟨h1, e1⟩ := List.getElem?_eq_some_iff.mp hi
  obtain ⟨h2, e2⟩ := List.getElem?_eq_some_iff.mp hj
  exact (List.Nodup.getElem_inj_iff h).mp (e1.trans e2.symm)
set_option maxRecDepth 100000 in
theorem KoC : Ko WC := Ko_of ksC (by decide +kernel)
set_option maxRecDepth 100000 in
theorem KoM : Ko WM := Ko_of ksM (by decide +kernel)
theorem mc_0 : (0, 0) ∈ ksC := by decide +kernel
theorem mc_1 : (1, 0) ∈ ksC := by decide +kernel
theorem mc_2 : (2, 0) ∈ ksC := by decide +kernel
theorem mc_3 : (3, 0) ∈ ksC := by decide +kernel
theorem mc_4 : (4, 0) ∈ ksC := by decide +kernel
theorem mc_5 : (5, 0) ∈ ksC := by decide +kernel
theorem mc_6 : (6, 0) ∈ ksC := by decide +kernel
theorem mc_7 : (7, 0) ∈ ksC := by decide +kernel
theorem mc_8 : (8, 0) ∈ ksC := by decide +kernel
theorem mc_9 : (9, 0) ∈ ksC := by decide +kernel
theorem mc_10 : (10, 0) ∈ ksC := by decide +kernel
theorem mc_11 : (11, 0) ∈ ksC := by decide +kernel
theorem mc_12 : (12, 0) ∈ ksC := by decide +kernel
theorem mc_13 : (13, 0) ∈ ksC := by decide +kernel
theorem mc_14 : (14, 0) ∈ ksC := by decide +kernel
theorem mc_15 : (15, 0) ∈ ksC := by decide +kernel
theorem mc_16 : (16, 0) ∈ ksC := by decide +kernel
theorem mc_17 : (17, 0) ∈ ksC := by decide +kernel
theorem mc_18 {n : Nat} (h : n < 6) : (18, n) ∈ ksC := by
  have q : ∀ i : Fin 6, (18, i.val) ∈ ksC := by decide +kernel
  exact q ⟨n, h⟩
theorem mc_19 {n : Nat} (h : n < 6) : (19, n) ∈ ksC := by
  have q : ∀ i : Fin 6, (19, i.val) ∈ ksC := by decide +kernel
  exact q ⟨n, h⟩
theorem mc_20 {n : Nat} (h : n < 4) : (20, n) ∈ ksC := by
  have q : ∀ i : Fin 4, (20, i.val) ∈ ksC := by decide +kernel
  exact q ⟨n, h⟩
theorem mc_21 {n : Nat} (h : n < 4) : (21, n) ∈ ksC := by
  have q : ∀ i : Fin 4, (21, i.val) ∈ ksC := by decide +kernel
  exact q ⟨n, h⟩
theorem mc_22 {n : Nat} (h : n < 8) : (22, n) ∈ ksC := by
  have q : ∀ i : Fin 8, (22, i.val) ∈ ksC := by decide +kernel
  exact q ⟨n, h⟩
theorem mc_23 {n : Nat} (h : n < 8) : (23, n) ∈ ksC := by
  have q : ∀ i : Fin 8, (23, i.val) ∈ ksC := by decide +kernel
  exact q ⟨n, h⟩
theorem mc_24 {n : Nat} (h : n < 8) : (24, n) ∈ ksC := by
  have q : ∀ i : Fin 8, (24, i.val) ∈ ksC := by decide +kernel
  exact q ⟨n, h⟩
theorem mc_25 {n : Nat} (h : n < 8) : (25, n) ∈ ksC := by
  have q : ∀ i : Fin 8, (25, i.val) ∈ ksC := by decide +kernel
  exact q ⟨n, h⟩
theorem mc_26 {n : Nat} (h : n < 24) : (26, n) ∈ ksC := by
  have q : ∀ i : Fin 24, (26, i.val) ∈ ksC := by decide +kernel
  exact q ⟨n, h⟩
theorem mc_27 {n : Nat} (h : n < 24) : (27, n) ∈ ksC := by
  have q : ∀ i : Fin 24, (27, i.val) ∈ ksC := by decide +kernel
  exact q ⟨n, h⟩
theorem mc_28 {n : Nat} (h : n < 40) : (28, n) ∈ ksC := by
  have q : ∀ i : Fin 40, (28, i.val) ∈ ksC := by decide +kernel
  exact q ⟨n, h⟩
theorem mm_0 : (0, 0) ∈ ksM := by decide +kernel
theorem mm_1 : (1, 0) ∈ ksM := by decide +kernel
theorem mm_5 : (5, 0) ∈ ksM := by decide +kernel
theorem mm_6 : (6, 0) ∈ ksM := by decide +kernel
theorem mm_7 : (7, 0) ∈ ksM := by decide +kernel
theorem mm_8 : (8, 0) ∈ ksM := by decide +kernel
theorem mm_9 : (9, 0) ∈ ksM := by decide +kernel
theorem mm_11 : (11, 0) ∈ ksM := by decide +kernel
theorem mm_13 : (13, 0) ∈ ksM := by decide +kernel
theorem mm_14 : (14, 0) ∈ ksM := by decide +kernel
theorem mm_15 : (15, 0) ∈ ksM := by decide +kernel
theorem mm_17 : (17, 0) ∈ ksM := by decide +kernel
theorem mm_18 : (18, 0) ∈ ksM := by decide +kernel
theorem mm_19 : (19, 0) ∈ ksM := by decide +kernel
theorem mm_20 : (20, 0) ∈ ksM := by decide +kernel
theorem mm_21 : (21, 0) ∈ ksM := by decide +kernel
theorem mm_22 : (22, 0) ∈ ksM := by decide +kernel
theorem mm_24 : (24, 0) ∈ ksM := by decide +kernel
theorem mm_25 : (25, 0) ∈ ksM := by decide +kernel
theorem mm_31 : (31, 0) ∈ ksM := by decide +kernel
theorem mm_32 : (32, 0) ∈ ksM := by decide +kernel
theorem mm_34 : (34, 0) ∈ ksM := by decide +kernel
theorem mm_35 : (35, 0) ∈ ksM := by decide +kernel
theorem mm_36 : (36, 0) ∈ ksM := by decide +kernel
theorem mm_37 : (37, 0) ∈ ksM := by decide +kernel
theorem mm_39 : (39, 0) ∈ ksM := by decide +kernel
theorem hyC (w : Wp) : ∀ q ∈ ksC, q ≠ (0, 0) → ∀ x y y', clC (wd w) (wa w) q.1 q.2 x y = clC (wd w) (wa w) q.1 q.2 x y' := by
  intro q hq hne x y y'
  have hz : q.1 ≠ 0 := by
    have key : ∀ q ∈ ksC, q.1 = 0 → q = (0, 0) := by decide +kernel
    exact fun h => hne (key q hq h)
  unfold clC
  split <;> first | rfl | (rename_i h; exact absurd h hz)
theorem hyM (w : Wp) : ∀ q ∈ ksM, q ≠ (0, 0) → ∀ x y y', clM (wd w) (wa w) q.1 q.2 x y = clM (wd w) (wa w) q.1 q.2 x y' := by
  intro q hq hne x y y'
  have hz : q.1 ≠ 0 := by
    have key : ∀ q ∈ ksM, q.1 = 0 → q = (0, 0) := by decide +kernel
    exact fun h => hne (key q hq h)
  unfold clM
  split <;> first | rfl | (rename_i h; exact absurd h hz)
set_option maxRecDepth 100000 in
theorem iwX0 : ∀ q ∈ u_ws RX0 TX0 12, q ∈ lw_good := by
  have h : (u_ws RX0 TX0 12).all (fun q => decide (q ∈ tables_1) && goodWord q) = true := by decide +kernel
  intro q hq
  have h1 := List.all_eq_true.mp h q hq
  simp only [Bool.and_eq_true, decide_eq_true_eq] at h1
  exact List.mem_filter.mpr ⟨List.mem_append_right _ h1.1, h1.2⟩
set_option maxRecDepth 100000 in
theorem iwX1 : ∀ q ∈ u_ws RX1 TX1 8, q ∈ lw_good := by
  have h : (u_ws RX1 TX1 8).all (fun q => decide (q ∈ tables_1) && goodWord q) = true := by decide +kernel
  intro q hq
  have h1 := List.all_eq_true.mp h q hq
  simp only [Bool.and_eq_true, decide_eq_true_eq] at h1
  exact List.mem_filter.mpr ⟨List.mem_append_right _ h1.1, h1.2⟩
set_option maxRecDepth 100000 in
theorem iwX2 : ∀ q ∈ u_ws RX2 TX2 2, q ∈ lw_good := by
  have h : (u_ws RX2 TX2 2).all (fun q => decide (q ∈ tables_1) && goodWord q) = true := by decide +kernel
  intro q hq
  have h1 := List.all_eq_true.mp h q hq
  simp only [Bool.and_eq_true, decide_eq_true_eq] at h1
  exact List.mem_filter.mpr ⟨List.mem_append_right _ h1.1, h1.2⟩
set_option maxRecDepth 100000 in
theorem iwX3 : ∀ q ∈ u_ws RX3 TX3 7, q ∈ lw_good := by
  have h : (u_ws RX3 TX3 7).all (fun q => decide (q ∈ tables_1) && goodWord q) = true := by decide +kernel
  intro q hq
  have h1 := List.all_eq_true.mp h q hq
  simp only [Bool.and_eq_true, decide_eq_true_eq] at h1
  exact List.mem_filter.mpr ⟨List.mem_append_right _ h1.1, h1.2⟩
set_option maxRecDepth 100000 in
theorem iwX4 : ∀ q ∈ u_ws RX4 TX4 8, q ∈ lw_good := by
  have h : (u_ws RX4 TX4 8).all (fun q => decide (q ∈ tables_1) && goodWord q) = true := by decide +kernel
  intro q hq
  have h1 := List.all_eq_true.mp h q hq
  simp only [Bool.and_eq_true, decide_eq_true_eq] at h1
  exact List.mem_filter.mpr ⟨List.mem_append_right _ h1.1, h1.2⟩
set_option maxRecDepth 100000 in
theorem iwX5 : ∀ q ∈ u_ws RX5 TX5 4, q ∈ lw_good := by
  have h : (u_ws RX5 TX5 4).all (fun q => decide (q ∈ tables_1) && goodWord q) = true := by decide +kernel
  intro q hq
  have h1 := List.all_eq_true.mp h q hq
  simp only [Bool.and_eq_true, decide_eq_true_eq] at h1
  exact List.mem_filter.mpr ⟨List.mem_append_right _ h1.1, h1.2⟩
set_option maxRecDepth 100000 in
theorem iwX6 : ∀ q ∈ u_ws RX6 TX6 5, q ∈ lw_good := by
  have h : (u_ws RX6 TX6 5).all (fun q => decide (q ∈ tables_1) && goodWord q) = true := by decide +kernel
  intro q hq
  have h1 := List.all_eq_true.mp h q hq
  simp only [Bool.and_eq_true, decide_eq_true_eq] at h1
  exact List.mem_filter.mpr ⟨List.mem_append_right _ h1.1, h1.2⟩
set_option maxRecDepth 100000 in
theorem iwX7 : ∀ q ∈ u_ws RX7 TX7 2, q ∈ lw_good := by
  have h : (u_ws RX7 TX7 2).all (fun q => decide (q ∈ tables_1) && goodWord q) = true := by decide +kernel
  intro q hq
  have h1 := List.all_eq_true.mp h q hq
  simp only [Bool.and_eq_true, decide_eq_true_eq] at h1
  exact List.mem_filter.mpr ⟨List.mem_append_right _ h1.1, h1.2⟩
set_option maxRecDepth 100000 in
theorem iwX8 : ∀ q ∈ u_ws RX8 TX8 2, q ∈ lw_good := by
  have h : (u_ws RX8 TX8 2).all (fun q => decide (q ∈ tables_1) && goodWord q) = true := by decide +kernel
  intro q hq
  have h1 := List.all_eq_true.mp h q hq
  simp only [Bool.and_eq_true, decide_eq_true_eq] at h1
  exact List.mem_filter.mpr ⟨List.mem_append_right _ h1.1, h1.2⟩
set_option maxRecDepth 100000 in
theorem iwX9 : ∀ q ∈ u_ws RX9 TX9 6, q ∈ lw_good := by
  have h : (u_ws RX9 TX9 6).all (fun q => decide (q ∈ tables_1) && goodWord q) = true := by decide +kernel
  intro q hq
  have h1 := List.all_eq_true.mp h q hq
  simp only [Bool.and_eq_true, decide_eq_true_eq] at h1
  exact List.mem_filter.mpr ⟨List.mem_append_right _ h1.1, h1.2⟩
set_option maxRecDepth 100000 in
theorem iwX10 : ∀ q ∈ u_ws RX10 TX10 4, q ∈ lw_good := by
  have h : (u_ws RX10 TX10 4).all (fun q => decide (q ∈ tables_1) && goodWord q) = true := by decide +kernel
  intro q hq
  have h1 := List.all_eq_true.mp h q hq
  simp only [Bool.and_eq_true, decide_eq_true_eq] at h1
  exact List.mem_filter.mpr ⟨List.mem_append_right _ h1.1, h1.2⟩
set_option maxRecDepth 100000 in
theorem iwX11 : ∀ q ∈ u_ws RX11 TX11 10, q ∈ lw_good := by
  have h : (u_ws RX11 TX11 10).all (fun q => decide (q ∈ tables_1) && goodWord q) = true := by decide +kernel
  intro q hq
  have h1 := List.all_eq_true.mp h q hq
  simp only [Bool.and_eq_true, decide_eq_true_eq] at h1
  exact List.mem_filter.mpr ⟨List.mem_append_right _ h1.1, h1.2⟩
set_option maxRecDepth 100000 in
theorem iwX12 : ∀ q ∈ u_ws RX12 TX12 41, q ∈ lw_good := by
  have h : (u_ws RX12 TX12 41).all (fun q => decide (q ∈ tables_1) && goodWord q) = true := by decide +kernel
  intro q hq
  have h1 := List.all_eq_true.mp h q hq
  simp only [Bool.and_eq_true, decide_eq_true_eq] at h1
  exact List.mem_filter.mpr ⟨List.mem_append_right _ h1.1, h1.2⟩
end
