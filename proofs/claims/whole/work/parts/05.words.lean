set_option maxRecDepth 100000 in
theorem q_14 : (Jvm.Cond.initialized "QuarrelBookModel") ∈ lw_good := lw_mem 14 (by decide +kernel) rfl
set_option maxRecDepth 100000 in
theorem q_970 : (Jvm.Cond.fieldLink "QuarrelBookModel" (90 : Nat) "QuarrelBookModel" "finding" "I") ∈ lw_good := lw_mem 970 (by decide +kernel) rfl
set_option maxRecDepth 100000 in
theorem q_971 : (Jvm.Cond.fieldLink "QuarrelBookModel" (7 : Nat) "QuarrelBookModel" "findings" "[I") ∈ lw_good := lw_mem 971 (by decide +kernel) rfl
set_option maxRecDepth 100000 in
theorem q_972 : (Jvm.Cond.fieldLink "QuarrelBookModel" (94 : Nat) "QuarrelBookModel" "asked" "I") ∈ lw_good := lw_mem 972 (by decide +kernel) rfl
set_option maxRecDepth 100000 in
theorem q_973 : (Jvm.Cond.fieldLink "QuarrelBookModel" (259 : Nat) "QuarrelBookModel" "upper" "J") ∈ lw_good := lw_mem 973 (by decide +kernel) rfl
set_option maxRecDepth 100000 in
theorem q_974 : (Jvm.Cond.fieldLink "QuarrelBookModel" (13 : Nat) "QuarrelBookModel" "lower" "J") ∈ lw_good := lw_mem 974 (by decide +kernel) rfl
set_option maxRecDepth 100000 in
theorem q_975 : (Jvm.Cond.fieldLink "QuarrelBookModel" (17 : Nat) "QuarrelBookModel" "sizes" "[I") ∈ lw_good := lw_mem 975 (by decide +kernel) rfl
set_option maxRecDepth 100000 in
theorem q_976 : (Jvm.Cond.fieldLink "QuarrelBookModel" (20 : Nat) "QuarrelBookModel" "rows" "[I") ∈ lw_good := lw_mem 976 (by decide +kernel) rfl
set_option maxRecDepth 100000 in
theorem q_977 : (Jvm.Cond.fieldLink "QuarrelBookModel" (23 : Nat) "QuarrelBookModel" "moving" "[I") ∈ lw_good := lw_mem 977 (by decide +kernel) rfl
set_option maxRecDepth 100000 in
theorem q_978 : (Jvm.Cond.fieldLink "QuarrelBookModel" (26 : Nat) "QuarrelBookModel" "lengths" "[I") ∈ lw_good := lw_mem 978 (by decide +kernel) rfl
set_option maxRecDepth 100000 in
theorem q_979 : (Jvm.Cond.fieldLink "QuarrelBookModel" (29 : Nat) "QuarrelBookModel" "texts" "[I") ∈ lw_good := lw_mem 979 (by decide +kernel) rfl
set_option maxRecDepth 100000 in
theorem q_980 : (Jvm.Cond.fieldLink "QuarrelBookModel" (125 : Nat) "QuarrelBookModel" "caseMany" "I") ∈ lw_good := lw_mem 980 (by decide +kernel) rfl
set_option maxRecDepth 100000 in
theorem q_981 : (Jvm.Cond.fieldLink "QuarrelBookModel" (32 : Nat) "QuarrelBookModel" "cases" "[I") ∈ lw_good := lw_mem 981 (by decide +kernel) rfl
set_option maxRecDepth 100000 in
theorem q_982 : (Jvm.Cond.fieldLink "QuarrelBookModel" (128 : Nat) "QuarrelBookModel" "masterMany" "I") ∈ lw_good := lw_mem 982 (by decide +kernel) rfl
set_option maxRecDepth 100000 in
theorem q_983 : (Jvm.Cond.fieldLink "QuarrelBookModel" (35 : Nat) "QuarrelBookModel" "born" "[I") ∈ lw_good := lw_mem 983 (by decide +kernel) rfl
set_option maxRecDepth 100000 in
theorem q_984 : (Jvm.Cond.fieldLink "QuarrelBookModel" (38 : Nat) "QuarrelBookModel" "dies" "[I") ∈ lw_good := lw_mem 984 (by decide +kernel) rfl
set_option maxRecDepth 100000 in
theorem q_985 : (Jvm.Cond.fieldLink "QuarrelBookModel" (41 : Nat) "QuarrelBookModel" "teacher" "[I") ∈ lw_good := lw_mem 985 (by decide +kernel) rfl
set_option maxRecDepth 100000 in
theorem q_986 : (Jvm.Cond.fieldLink "QuarrelBookModel" (131 : Nat) "QuarrelBookModel" "sayingMany" "I") ∈ lw_good := lw_mem 986 (by decide +kernel) rfl
set_option maxRecDepth 100000 in
theorem q_987 : (Jvm.Cond.fieldLink "QuarrelBookModel" (44 : Nat) "QuarrelBookModel" "masterOf" "[I") ∈ lw_good := lw_mem 987 (by decide +kernel) rfl
set_option maxRecDepth 100000 in
theorem q_988 : (Jvm.Cond.fieldLink "QuarrelBookModel" (47 : Nat) "QuarrelBookModel" "caseOf" "[I") ∈ lw_good := lw_mem 988 (by decide +kernel) rfl
set_option maxRecDepth 100000 in
theorem q_989 : (Jvm.Cond.fieldLink "QuarrelBookModel" (50 : Nat) "QuarrelBookModel" "yearOf" "[I") ∈ lw_good := lw_mem 989 (by decide +kernel) rfl
set_option maxRecDepth 100000 in
theorem q_990 : (Jvm.Cond.fieldLink "QuarrelBookModel" (53 : Nat) "QuarrelBookModel" "answerOf" "[I") ∈ lw_good := lw_mem 990 (by decide +kernel) rfl
set_option maxRecDepth 100000 in
theorem q_991 : (Jvm.Cond.fieldLink "QuarrelBookModel" (56 : Nat) "QuarrelBookModel" "because" "[I") ∈ lw_good := lw_mem 991 (by decide +kernel) rfl
set_option maxRecDepth 100000 in
theorem q_992 : (Jvm.Cond.fieldLink "QuarrelBookModel" (59 : Nat) "QuarrelBookModel" "copies" "[I") ∈ lw_good := lw_mem 992 (by decide +kernel) rfl
set_option maxRecDepth 100000 in
theorem q_993 : (Jvm.Cond.fieldLink "QuarrelBookModel" (172 : Nat) "QuarrelBookModel" "readRule" "I") ∈ lw_good := lw_mem 993 (by decide +kernel) rfl
set_option maxRecDepth 100000 in
theorem q_994 : (Jvm.Cond.fieldLink "QuarrelBookModel" (62 : Nat) "QuarrelBookModel" "price" "[I") ∈ lw_good := lw_mem 994 (by decide +kernel) rfl
set_option maxRecDepth 100000 in
theorem q_995 : (Jvm.Cond.fieldLink "QuarrelBookModel" (65 : Nat) "QuarrelBookModel" "table" "[I") ∈ lw_good := lw_mem 995 (by decide +kernel) rfl
set_option maxRecDepth 100000 in
theorem q_996 : (Jvm.Cond.fieldLink "QuarrelBookModel" (205 : Nat) "QuarrelBookModel" "rowsOf" "I") ∈ lw_good := lw_mem 996 (by decide +kernel) rfl
set_option maxRecDepth 100000 in
theorem q_997 : (Jvm.Cond.fieldLink "QuarrelBookModel" (225 : Nat) "QuarrelBookModel" "settledSum" "I") ∈ lw_good := lw_mem 997 (by decide +kernel) rfl
set_option maxRecDepth 100000 in
theorem q_998 : (Jvm.Cond.fieldLink "QuarrelBookModel" (212 : Nat) "QuarrelBookModel" "lesser" "I") ∈ lw_good := lw_mem 998 (by decide +kernel) rfl
set_option maxRecDepth 100000 in
theorem q_999 : (Jvm.Cond.fieldLink "QuarrelBookModel" (215 : Nat) "QuarrelBookModel" "greater" "I") ∈ lw_good := lw_mem 999 (by decide +kernel) rfl
set_option maxRecDepth 100000 in
theorem q_1000 : (Jvm.Cond.fieldLink "QuarrelBookModel" (219 : Nat) "QuarrelBookModel" "oneSum" "I") ∈ lw_good := lw_mem 1000 (by decide +kernel) rfl
set_option maxRecDepth 100000 in
theorem q_1001 : (Jvm.Cond.fieldLink "QuarrelBookModel" (68 : Nat) "QuarrelBookModel" "isCheap" "[Z") ∈ lw_good := lw_mem 1001 (by decide +kernel) rfl
set_option maxRecDepth 100000 in
theorem q_1002 : (Jvm.Cond.fieldLink "QuarrelBookModel" (72 : Nat) "QuarrelBookModel" "ruleOf" "[I") ∈ lw_good := lw_mem 1002 (by decide +kernel) rfl
set_option maxRecDepth 100000 in
theorem q_1003 : (Jvm.Cond.fieldLink "QuarrelBookModel" (265 : Nat) "QuarrelBookModel" "moveMany" "I") ∈ lw_good := lw_mem 1003 (by decide +kernel) rfl
set_option maxRecDepth 100000 in
theorem q_1004 : (Jvm.Cond.fieldLink "QuarrelBookModel" (75 : Nat) "QuarrelBookModel" "moveKind" "[I") ∈ lw_good := lw_mem 1004 (by decide +kernel) rfl
set_option maxRecDepth 100000 in
theorem q_1005 : (Jvm.Cond.fieldLink "QuarrelBookModel" (78 : Nat) "QuarrelBookModel" "moveOf" "[I") ∈ lw_good := lw_mem 1005 (by decide +kernel) rfl
set_option maxRecDepth 100000 in
theorem q_1006 : (Jvm.Cond.fieldLink "QuarrelBookModel" (81 : Nat) "QuarrelBookModel" "moveV" "[I") ∈ lw_good := lw_mem 1006 (by decide +kernel) rfl
set_option maxRecDepth 100000 in
theorem q_1007 : (Jvm.Cond.fieldLink "QuarrelBookModel" (84 : Nat) "QuarrelBookModel" "isOpen" "[Z") ∈ lw_good := lw_mem 1007 (by decide +kernel) rfl
set_option maxRecDepth 100000 in
theorem q_1008 : (Jvm.Cond.fieldLink "QuarrelBookModel" (274 : Nat) "QuarrelBookModel" "votesFor" "I") ∈ lw_good := lw_mem 1008 (by decide +kernel) rfl
set_option maxRecDepth 100000 in
theorem q_1009 : (Jvm.Cond.fieldLink "QuarrelBookModel" (87 : Nat) "QuarrelBookModel" "doubts" "[I") ∈ lw_good := lw_mem 1009 (by decide +kernel) rfl
set_option maxRecDepth 100000 in
theorem q_1010 : (Jvm.Cond.fieldLink "QuarrelBookModel" (288 : Nat) "QuarrelBookModel" "h" "J") ∈ lw_good := lw_mem 1010 (by decide +kernel) rfl
set_option maxRecDepth 100000 in
theorem q_1099 : (Jvm.Cond.methodLink "QuarrelBookModel" (101 : Nat) ({ cls := "QuarrelBookModel", name := "isRow", desc := "(I)Z" } : Jvm.MethodName)) ∈ lw_good := lw_mem 1099 (by decide +kernel) rfl
set_option maxRecDepth 100000 in
theorem q_1100 : (Jvm.Cond.static ({ cls := "QuarrelBookModel", name := "isRow", desc := "(I)Z" } : Jvm.MethodName)) ∈ lw_good := lw_mem 1100 (by decide +kernel) rfl
set_option maxRecDepth 100000 in
theorem q_1101 : (Jvm.Cond.code ({ cls := "QuarrelBookModel", name := "isRow", desc := "(I)Z" } : Jvm.MethodName) prog_14_method_7_code (1 : Nat) (Option.some Jvm.ClassFile.FieldType.boolean)) ∈ lw_good := lw_mem 1101 (by decide +kernel) rfl
set_option maxRecDepth 100000 in
theorem q_1102 : (Jvm.Cond.methodLink "QuarrelBookModel" (97 : Nat) ({ cls := "QuarrelBookModel", name := "in", desc := "(III)Z" } : Jvm.MethodName)) ∈ lw_good := lw_mem 1102 (by decide +kernel) rfl
set_option maxRecDepth 100000 in
theorem q_1103 : (Jvm.Cond.static ({ cls := "QuarrelBookModel", name := "in", desc := "(III)Z" } : Jvm.MethodName)) ∈ lw_good := lw_mem 1103 (by decide +kernel) rfl
set_option maxRecDepth 100000 in
theorem q_1104 : (Jvm.Cond.code ({ cls := "QuarrelBookModel", name := "in", desc := "(III)Z" } : Jvm.MethodName) prog_14_method_3_code (3 : Nat) (Option.some Jvm.ClassFile.FieldType.boolean)) ∈ lw_good := lw_mem 1104 (by decide +kernel) rfl
set_option maxRecDepth 100000 in
theorem q_1105 : (Jvm.Cond.methodLink "QuarrelBookModel" (105 : Nat) ({ cls := "QuarrelBookModel", name := "meets", desc := "(I)I" } : Jvm.MethodName)) ∈ lw_good := lw_mem 1105 (by decide +kernel) rfl
set_option maxRecDepth 100000 in
theorem q_1107 : (Jvm.Cond.instanceMethod ({ cls := "QuarrelBookModel", name := "meets", desc := "(I)I" } : Jvm.MethodName)) ∈ lw_good := lw_mem 1107 (by decide +kernel) rfl
set_option maxRecDepth 100000 in
theorem q_1108 : (Jvm.Cond.code ({ cls := "QuarrelBookModel", name := "meets", desc := "(I)I" } : Jvm.MethodName) prog_14_method_4_code (2 : Nat) (Option.some Jvm.ClassFile.FieldType.int)) ∈ lw_good := lw_mem 1108 (by decide +kernel) rfl
set_option maxRecDepth 100000 in
theorem q_1113 : (Jvm.Cond.methodLink "QuarrelBookModel" (112 : Nat) ({ cls := "QuarrelBookModel", name := "askedRow", desc := "(I)I" } : Jvm.MethodName)) ∈ lw_good := lw_mem 1113 (by decide +kernel) rfl
set_option maxRecDepth 100000 in
theorem q_1115 : (Jvm.Cond.instanceMethod ({ cls := "QuarrelBookModel", name := "askedRow", desc := "(I)I" } : Jvm.MethodName)) ∈ lw_good := lw_mem 1115 (by decide +kernel) rfl
set_option maxRecDepth 100000 in
theorem q_1116 : (Jvm.Cond.code ({ cls := "QuarrelBookModel", name := "askedRow", desc := "(I)I" } : Jvm.MethodName) prog_14_method_9_code (2 : Nat) (Option.some Jvm.ClassFile.FieldType.int)) ∈ lw_good := lw_mem 1116 (by decide +kernel) rfl
set_option maxRecDepth 100000 in
theorem q_1117 : (Jvm.Cond.methodLink "QuarrelBookModel" (115 : Nat) ({ cls := "QuarrelBookModel", name := "rowAt", desc := "(II)I" } : Jvm.MethodName)) ∈ lw_good := lw_mem 1117 (by decide +kernel) rfl
set_option maxRecDepth 100000 in
theorem q_1119 : (Jvm.Cond.instanceMethod ({ cls := "QuarrelBookModel", name := "rowAt", desc := "(II)I" } : Jvm.MethodName)) ∈ lw_good := lw_mem 1119 (by decide +kernel) rfl
set_option maxRecDepth 100000 in
theorem q_1120 : (Jvm.Cond.code ({ cls := "QuarrelBookModel", name := "rowAt", desc := "(II)I" } : Jvm.MethodName) prog_14_method_11_code (3 : Nat) (Option.some Jvm.ClassFile.FieldType.int)) ∈ lw_good := lw_mem 1120 (by decide +kernel) rfl
set_option maxRecDepth 100000 in
theorem q_1133 : (Jvm.Cond.methodLink "QuarrelBookModel" (119 : Nat) ({ cls := "QuarrelBookModel", name := "ask", desc := "(II)I" } : Jvm.MethodName)) ∈ lw_good := lw_mem 1133 (by decide +kernel) rfl
set_option maxRecDepth 100000 in
theorem q_1135 : (Jvm.Cond.instanceMethod ({ cls := "QuarrelBookModel", name := "ask", desc := "(II)I" } : Jvm.MethodName)) ∈ lw_good := lw_mem 1135 (by decide +kernel) rfl
set_option maxRecDepth 100000 in
theorem q_1136 : (Jvm.Cond.code ({ cls := "QuarrelBookModel", name := "ask", desc := "(II)I" } : Jvm.MethodName) prog_14_method_5_code (3 : Nat) (Option.some Jvm.ClassFile.FieldType.int)) ∈ lw_good := lw_mem 1136 (by decide +kernel) rfl
set_option maxRecDepth 100000 in
theorem q_1141 : (Jvm.Cond.methodLink "QuarrelBookModel" (109 : Nat) ({ cls := "QuarrelBookModel", name := "isText", desc := "(I)Z" } : Jvm.MethodName)) ∈ lw_good := lw_mem 1141 (by decide +kernel) rfl
set_option maxRecDepth 100000 in
theorem q_1142 : (Jvm.Cond.static ({ cls := "QuarrelBookModel", name := "isText", desc := "(I)Z" } : Jvm.MethodName)) ∈ lw_good := lw_mem 1142 (by decide +kernel) rfl
set_option maxRecDepth 100000 in
theorem q_1143 : (Jvm.Cond.code ({ cls := "QuarrelBookModel", name := "isText", desc := "(I)Z" } : Jvm.MethodName) prog_14_method_8_code (1 : Nat) (Option.some Jvm.ClassFile.FieldType.boolean)) ∈ lw_good := lw_mem 1143 (by decide +kernel) rfl
set_option maxRecDepth 100000 in
theorem q_1148 : (Jvm.Cond.methodLink "QuarrelBookModel" (122 : Nat) ({ cls := "QuarrelBookModel", name := "askedText", desc := "(I)I" } : Jvm.MethodName)) ∈ lw_good := lw_mem 1148 (by decide +kernel) rfl
set_option maxRecDepth 100000 in
theorem q_1150 : (Jvm.Cond.instanceMethod ({ cls := "QuarrelBookModel", name := "askedText", desc := "(I)I" } : Jvm.MethodName)) ∈ lw_good := lw_mem 1150 (by decide +kernel) rfl
set_option maxRecDepth 100000 in
theorem q_1151 : (Jvm.Cond.code ({ cls := "QuarrelBookModel", name := "askedText", desc := "(I)I" } : Jvm.MethodName) prog_14_method_10_code (2 : Nat) (Option.some Jvm.ClassFile.FieldType.int)) ∈ lw_good := lw_mem 1151 (by decide +kernel) rfl
set_option maxRecDepth 100000 in
theorem q_1156 : (Jvm.Cond.methodLink "QuarrelBookModel" (134 : Nat) ({ cls := "QuarrelBookModel", name := "isSet", desc := "(I)Z" } : Jvm.MethodName)) ∈ lw_good := lw_mem 1156 (by decide +kernel) rfl
set_option maxRecDepth 100000 in
theorem q_1157 : (Jvm.Cond.static ({ cls := "QuarrelBookModel", name := "isSet", desc := "(I)Z" } : Jvm.MethodName)) ∈ lw_good := lw_mem 1157 (by decide +kernel) rfl
set_option maxRecDepth 100000 in
theorem q_1158 : (Jvm.Cond.code ({ cls := "QuarrelBookModel", name := "isSet", desc := "(I)Z" } : Jvm.MethodName) prog_14_method_23_code (1 : Nat) (Option.some Jvm.ClassFile.FieldType.boolean)) ∈ lw_good := lw_mem 1158 (by decide +kernel) rfl
set_option maxRecDepth 100000 in
theorem q_1163 : (Jvm.Cond.methodLink "QuarrelBookModel" (137 : Nat) ({ cls := "QuarrelBookModel", name := "isMaster", desc := "(I)Z" } : Jvm.MethodName)) ∈ lw_good := lw_mem 1163 (by decide +kernel) rfl
set_option maxRecDepth 100000 in
theorem q_1165 : (Jvm.Cond.instanceMethod ({ cls := "QuarrelBookModel", name := "isMaster", desc := "(I)Z" } : Jvm.MethodName)) ∈ lw_good := lw_mem 1165 (by decide +kernel) rfl
set_option maxRecDepth 100000 in
theorem q_1166 : (Jvm.Cond.code ({ cls := "QuarrelBookModel", name := "isMaster", desc := "(I)Z" } : Jvm.MethodName) prog_14_method_20_code (2 : Nat) (Option.some Jvm.ClassFile.FieldType.boolean)) ∈ lw_good := lw_mem 1166 (by decide +kernel) rfl
set_option maxRecDepth 100000 in
theorem q_1171 : (Jvm.Cond.methodLink "QuarrelBookModel" (140 : Nat) ({ cls := "QuarrelBookModel", name := "isOf", desc := "(II)Z" } : Jvm.MethodName)) ∈ lw_good := lw_mem 1171 (by decide +kernel) rfl
set_option maxRecDepth 100000 in
theorem q_1173 : (Jvm.Cond.instanceMethod ({ cls := "QuarrelBookModel", name := "isOf", desc := "(II)Z" } : Jvm.MethodName)) ∈ lw_good := lw_mem 1173 (by decide +kernel) rfl
set_option maxRecDepth 100000 in
theorem q_1174 : (Jvm.Cond.code ({ cls := "QuarrelBookModel", name := "isOf", desc := "(II)Z" } : Jvm.MethodName) prog_14_method_28_code (3 : Nat) (Option.some Jvm.ClassFile.FieldType.boolean)) ∈ lw_good := lw_mem 1174 (by decide +kernel) rfl
set_option maxRecDepth 100000 in
theorem q_1175 : (Jvm.Cond.methodLink "QuarrelBookModel" (144 : Nat) ({ cls := "QuarrelBookModel", name := "isCase", desc := "(I)Z" } : Jvm.MethodName)) ∈ lw_good := lw_mem 1175 (by decide +kernel) rfl
set_option maxRecDepth 100000 in
theorem q_1177 : (Jvm.Cond.instanceMethod ({ cls := "QuarrelBookModel", name := "isCase", desc := "(I)Z" } : Jvm.MethodName)) ∈ lw_good := lw_mem 1177 (by decide +kernel) rfl
set_option maxRecDepth 100000 in
theorem q_1178 : (Jvm.Cond.code ({ cls := "QuarrelBookModel", name := "isCase", desc := "(I)Z" } : Jvm.MethodName) prog_14_method_19_code (2 : Nat) (Option.some Jvm.ClassFile.FieldType.boolean)) ∈ lw_good := lw_mem 1178 (by decide +kernel) rfl
set_option maxRecDepth 100000 in
theorem q_1179 : (Jvm.Cond.methodLink "QuarrelBookModel" (147 : Nat) ({ cls := "QuarrelBookModel", name := "isTrait", desc := "(I)Z" } : Jvm.MethodName)) ∈ lw_good := lw_mem 1179 (by decide +kernel) rfl
set_option maxRecDepth 100000 in
theorem q_1180 : (Jvm.Cond.static ({ cls := "QuarrelBookModel", name := "isTrait", desc := "(I)Z" } : Jvm.MethodName)) ∈ lw_good := lw_mem 1180 (by decide +kernel) rfl
set_option maxRecDepth 100000 in
theorem q_1181 : (Jvm.Cond.code ({ cls := "QuarrelBookModel", name := "isTrait", desc := "(I)Z" } : Jvm.MethodName) prog_14_method_22_code (1 : Nat) (Option.some Jvm.ClassFile.FieldType.boolean)) ∈ lw_good := lw_mem 1181 (by decide +kernel) rfl
set_option maxRecDepth 100000 in
theorem q_1182 : (Jvm.Cond.methodLink "QuarrelBookModel" (150 : Nat) ({ cls := "QuarrelBookModel", name := "sayingsOf", desc := "(I)I" } : Jvm.MethodName)) ∈ lw_good := lw_mem 1182 (by decide +kernel) rfl
set_option maxRecDepth 100000 in
theorem q_1184 : (Jvm.Cond.instanceMethod ({ cls := "QuarrelBookModel", name := "sayingsOf", desc := "(I)I" } : Jvm.MethodName)) ∈ lw_good := lw_mem 1184 (by decide +kernel) rfl
set_option maxRecDepth 100000 in
theorem q_1185 : (Jvm.Cond.code ({ cls := "QuarrelBookModel", name := "sayingsOf", desc := "(I)I" } : Jvm.MethodName) prog_14_method_26_code (4 : Nat) (Option.some Jvm.ClassFile.FieldType.int)) ∈ lw_good := lw_mem 1185 (by decide +kernel) rfl
set_option maxRecDepth 100000 in
theorem q_1186 : (Jvm.Cond.methodLink "QuarrelBookModel" (153 : Nat) ({ cls := "QuarrelBookModel", name := "newSaying", desc := "(IIIII)I" } : Jvm.MethodName)) ∈ lw_good := lw_mem 1186 (by decide +kernel) rfl
set_option maxRecDepth 100000 in
theorem q_1188 : (Jvm.Cond.instanceMethod ({ cls := "QuarrelBookModel", name := "newSaying", desc := "(IIIII)I" } : Jvm.MethodName)) ∈ lw_good := lw_mem 1188 (by decide +kernel) rfl
set_option maxRecDepth 100000 in
theorem q_1189 : (Jvm.Cond.code ({ cls := "QuarrelBookModel", name := "newSaying", desc := "(IIIII)I" } : Jvm.MethodName) prog_14_method_27_code (8 : Nat) (Option.some Jvm.ClassFile.FieldType.int)) ∈ lw_good := lw_mem 1189 (by decide +kernel) rfl
set_option maxRecDepth 100000 in
theorem q_1198 : (Jvm.Cond.methodLink "QuarrelBookModel" (157 : Nat) ({ cls := "QuarrelBookModel", name := "isSaying", desc := "(I)Z" } : Jvm.MethodName)) ∈ lw_good := lw_mem 1198 (by decide +kernel) rfl
set_option maxRecDepth 100000 in
theorem q_1200 : (Jvm.Cond.instanceMethod ({ cls := "QuarrelBookModel", name := "isSaying", desc := "(I)Z" } : Jvm.MethodName)) ∈ lw_good := lw_mem 1200 (by decide +kernel) rfl
set_option maxRecDepth 100000 in
theorem q_1201 : (Jvm.Cond.code ({ cls := "QuarrelBookModel", name := "isSaying", desc := "(I)Z" } : Jvm.MethodName) prog_14_method_21_code (2 : Nat) (Option.some Jvm.ClassFile.FieldType.boolean)) ∈ lw_good := lw_mem 1201 (by decide +kernel) rfl
set_option maxRecDepth 100000 in
theorem q_1202 : (Jvm.Cond.methodLink "QuarrelBookModel" (160 : Nat) ({ cls := "QuarrelBookModel", name := "sayingTells", desc := "(II)I" } : Jvm.MethodName)) ∈ lw_good := lw_mem 1202 (by decide +kernel) rfl
set_option maxRecDepth 100000 in
theorem q_1204 : (Jvm.Cond.instanceMethod ({ cls := "QuarrelBookModel", name := "sayingTells", desc := "(II)I" } : Jvm.MethodName)) ∈ lw_good := lw_mem 1204 (by decide +kernel) rfl
set_option maxRecDepth 100000 in
theorem q_1205 : (Jvm.Cond.code ({ cls := "QuarrelBookModel", name := "sayingTells", desc := "(II)I" } : Jvm.MethodName) prog_14_method_31_code (3 : Nat) (Option.some Jvm.ClassFile.FieldType.int)) ∈ lw_good := lw_mem 1205 (by decide +kernel) rfl
set_option maxRecDepth 100000 in
theorem q_1214 : (Jvm.Cond.methodLink "QuarrelBookModel" (166 : Nat) ({ cls := "QuarrelBookModel", name := "lifeTells", desc := "(II)I" } : Jvm.MethodName)) ∈ lw_good := lw_mem 1214 (by decide +kernel) rfl
set_option maxRecDepth 100000 in
theorem q_1216 : (Jvm.Cond.instanceMethod ({ cls := "QuarrelBookModel", name := "lifeTells", desc := "(II)I" } : Jvm.MethodName)) ∈ lw_good := lw_mem 1216 (by decide +kernel) rfl
set_option maxRecDepth 100000 in
theorem q_1217 : (Jvm.Cond.code ({ cls := "QuarrelBookModel", name := "lifeTells", desc := "(II)I" } : Jvm.MethodName) prog_14_method_35_code (3 : Nat) (Option.some Jvm.ClassFile.FieldType.int)) ∈ lw_good := lw_mem 1217 (by decide +kernel) rfl
set_option maxRecDepth 100000 in
theorem q_1218 : (Jvm.Cond.methodLink "QuarrelBookModel" (163 : Nat) ({ cls := "QuarrelBookModel", name := "pupils", desc := "(I)I" } : Jvm.MethodName)) ∈ lw_good := lw_mem 1218 (by decide +kernel) rfl
set_option maxRecDepth 100000 in
theorem q_1220 : (Jvm.Cond.instanceMethod ({ cls := "QuarrelBookModel", name := "pupils", desc := "(I)I" } : Jvm.MethodName)) ∈ lw_good := lw_mem 1220 (by decide +kernel) rfl
set_option maxRecDepth 100000 in
theorem q_1221 : (Jvm.Cond.code ({ cls := "QuarrelBookModel", name := "pupils", desc := "(I)I" } : Jvm.MethodName) prog_14_method_34_code (6 : Nat) (Option.some Jvm.ClassFile.FieldType.int)) ∈ lw_good := lw_mem 1221 (by decide +kernel) rfl
set_option maxRecDepth 100000 in
theorem q_1223 : (Jvm.Cond.instanceMethod ({ cls := "QuarrelBookModel", name := "fault", desc := "(I)I" } : Jvm.MethodName)) ∈ lw_good := lw_mem 1223 (by decide +kernel) rfl
set_option maxRecDepth 100000 in
theorem q_1224 : (Jvm.Cond.selects "QuarrelBookModel" ({ cls := "QuarrelBookModel", name := "fault", desc := "(I)I" } : Jvm.MethodName) ({ cls := "QuarrelBookModel", name := "fault", desc := "(I)I" } : Jvm.MethodName)) ∈ lw_good := lw_mem 1224 (by decide +kernel) rfl
set_option maxRecDepth 100000 in
theorem q_1225 : (Jvm.Cond.code ({ cls := "QuarrelBookModel", name := "fault", desc := "(I)I" } : Jvm.MethodName) prog_14_method_40_code (3 : Nat) (Option.some Jvm.ClassFile.FieldType.int)) ∈ lw_good := lw_mem 1225 (by decide +kernel) rfl
set_option maxRecDepth 100000 in
theorem q_1226 : (Jvm.Cond.methodLink "QuarrelBookModel" (178 : Nat) ({ cls := "QuarrelBookModel", name := "goesOn", desc := "(I)I" } : Jvm.MethodName)) ∈ lw_good := lw_mem 1226 (by decide +kernel) rfl
set_option maxRecDepth 100000 in
theorem q_1228 : (Jvm.Cond.instanceMethod ({ cls := "QuarrelBookModel", name := "goesOn", desc := "(I)I" } : Jvm.MethodName)) ∈ lw_good := lw_mem 1228 (by decide +kernel) rfl
set_option maxRecDepth 100000 in
theorem q_1229 : (Jvm.Cond.code ({ cls := "QuarrelBookModel", name := "goesOn", desc := "(I)I" } : Jvm.MethodName) prog_14_method_39_code (8 : Nat) (Option.some Jvm.ClassFile.FieldType.int)) ∈ lw_good := lw_mem 1229 (by decide +kernel) rfl
set_option maxRecDepth 100000 in
theorem q_1230 : (Jvm.Cond.methodLink "QuarrelBookModel" (169 : Nat) ({ cls := "QuarrelBookModel", name := "byteAt", desc := "(II)I" } : Jvm.MethodName)) ∈ lw_good := lw_mem 1230 (by decide +kernel) rfl
set_option maxRecDepth 100000 in
theorem q_1232 : (Jvm.Cond.instanceMethod ({ cls := "QuarrelBookModel", name := "byteAt", desc := "(II)I" } : Jvm.MethodName)) ∈ lw_good := lw_mem 1232 (by decide +kernel) rfl
set_option maxRecDepth 100000 in
theorem q_1233 : (Jvm.Cond.code ({ cls := "QuarrelBookModel", name := "byteAt", desc := "(II)I" } : Jvm.MethodName) prog_14_method_37_code (3 : Nat) (Option.some Jvm.ClassFile.FieldType.int)) ∈ lw_good := lw_mem 1233 (by decide +kernel) rfl
set_option maxRecDepth 100000 in
theorem q_1234 : (Jvm.Cond.methodLink "QuarrelBookModel" (175 : Nat) ({ cls := "QuarrelBookModel", name := "power", desc := "(I)I" } : Jvm.MethodName)) ∈ lw_good := lw_mem 1234 (by decide +kernel) rfl
set_option maxRecDepth 100000 in
theorem q_1235 : (Jvm.Cond.static ({ cls := "QuarrelBookModel", name := "power", desc := "(I)I" } : Jvm.MethodName)) ∈ lw_good := lw_mem 1235 (by decide +kernel) rfl
set_option maxRecDepth 100000 in
theorem q_1236 : (Jvm.Cond.code ({ cls := "QuarrelBookModel", name := "power", desc := "(I)I" } : Jvm.MethodName) prog_14_method_38_code (3 : Nat) (Option.some Jvm.ClassFile.FieldType.int)) ∈ lw_good := lw_mem 1236 (by decide +kernel) rfl
set_option maxRecDepth 100000 in
theorem q_1241 : (Jvm.Cond.methodLink "QuarrelBookModel" (181 : Nat) ({ cls := "QuarrelBookModel", name := "fault", desc := "(I)I" } : Jvm.MethodName)) ∈ lw_good := lw_mem 1241 (by decide +kernel) rfl
set_option maxRecDepth 100000 in
theorem q_1246 : (Jvm.Cond.methodLink "QuarrelBookModel" (190 : Nat) ({ cls := "QuarrelBookModel", name := "isRule", desc := "(I)Z" } : Jvm.MethodName)) ∈ lw_good := lw_mem 1246 (by decide +kernel) rfl
set_option maxRecDepth 100000 in
theorem q_1247 : (Jvm.Cond.static ({ cls := "QuarrelBookModel", name := "isRule", desc := "(I)Z" } : Jvm.MethodName)) ∈ lw_good := lw_mem 1247 (by decide +kernel) rfl
set_option maxRecDepth 100000 in
theorem q_1248 : (Jvm.Cond.code ({ cls := "QuarrelBookModel", name := "isRule", desc := "(I)Z" } : Jvm.MethodName) prog_14_method_42_code (1 : Nat) (Option.some Jvm.ClassFile.FieldType.boolean)) ∈ lw_good := lw_mem 1248 (by decide +kernel) rfl
set_option maxRecDepth 100000 in
theorem q_1249 : (Jvm.Cond.methodLink "QuarrelBookModel" (193 : Nat) ({ cls := "QuarrelBookModel", name := "answer", desc := "(II)I" } : Jvm.MethodName)) ∈ lw_good := lw_mem 1249 (by decide +kernel) rfl
set_option maxRecDepth 100000 in
theorem q_1250 : (Jvm.Cond.static ({ cls := "QuarrelBookModel", name := "answer", desc := "(II)I" } : Jvm.MethodName)) ∈ lw_good := lw_mem 1250 (by decide +kernel) rfl
set_option maxRecDepth 100000 in
theorem q_1251 : (Jvm.Cond.code ({ cls := "QuarrelBookModel", name := "answer", desc := "(II)I" } : Jvm.MethodName) prog_14_method_44_code (5 : Nat) (Option.some Jvm.ClassFile.FieldType.int)) ∈ lw_good := lw_mem 1251 (by decide +kernel) rfl
set_option maxRecDepth 100000 in
theorem q_1252 : (Jvm.Cond.methodLink "QuarrelBookModel" (184 : Nat) ({ cls := "QuarrelBookModel", name := "figure", desc := "(II)I" } : Jvm.MethodName)) ∈ lw_good := lw_mem 1252 (by decide +kernel) rfl
set_option maxRecDepth 100000 in
theorem q_1253 : (Jvm.Cond.static ({ cls := "QuarrelBookModel", name := "figure", desc := "(II)I" } : Jvm.MethodName)) ∈ lw_good := lw_mem 1253 (by decide +kernel) rfl
set_option maxRecDepth 100000 in
theorem q_1254 : (Jvm.Cond.code ({ cls := "QuarrelBookModel", name := "figure", desc := "(II)I" } : Jvm.MethodName) prog_14_method_43_code (2 : Nat) (Option.some Jvm.ClassFile.FieldType.int)) ∈ lw_good := lw_mem 1254 (by decide +kernel) rfl
set_option maxRecDepth 100000 in
theorem q_1255 : (Jvm.Cond.methodLink "QuarrelBookModel" (187 : Nat) ({ cls := "QuarrelBookModel", name := "has", desc := "(II)Z" } : Jvm.MethodName)) ∈ lw_good := lw_mem 1255 (by decide +kernel) rfl
set_option maxRecDepth 100000 in
theorem q_1256 : (Jvm.Cond.static ({ cls := "QuarrelBookModel", name := "has", desc := "(II)Z" } : Jvm.MethodName)) ∈ lw_good := lw_mem 1256 (by decide +kernel) rfl
set_option maxRecDepth 100000 in
theorem q_1257 : (Jvm.Cond.code ({ cls := "QuarrelBookModel", name := "has", desc := "(II)Z" } : Jvm.MethodName) prog_14_method_6_code (2 : Nat) (Option.some Jvm.ClassFile.FieldType.boolean)) ∈ lw_good := lw_mem 1257 (by decide +kernel) rfl
set_option maxRecDepth 100000 in
theorem q_1262 : (Jvm.Cond.methodLink "QuarrelBookModel" (196 : Nat) ({ cls := "QuarrelBookModel", name := "doesFit", desc := "(III)Z" } : Jvm.MethodName)) ∈ lw_good := lw_mem 1262 (by decide +kernel) rfl
set_option maxRecDepth 100000 in
theorem q_1264 : (Jvm.Cond.instanceMethod ({ cls := "QuarrelBookModel", name := "doesFit", desc := "(III)Z" } : Jvm.MethodName)) ∈ lw_good := lw_mem 1264 (by decide +kernel) rfl
set_option maxRecDepth 100000 in
theorem q_1265 : (Jvm.Cond.code ({ cls := "QuarrelBookModel", name := "doesFit", desc := "(III)Z" } : Jvm.MethodName) prog_14_method_46_code (4 : Nat) (Option.some Jvm.ClassFile.FieldType.boolean)) ∈ lw_good := lw_mem 1265 (by decide +kernel) rfl
set_option maxRecDepth 100000 in
theorem q_1270 : (Jvm.Cond.methodLink "QuarrelBookModel" (199 : Nat) ({ cls := "QuarrelBookModel", name := "isPrice", desc := "(I)Z" } : Jvm.MethodName)) ∈ lw_good := lw_mem 1270 (by decide +kernel) rfl
set_option maxRecDepth 100000 in
theorem q_1271 : (Jvm.Cond.static ({ cls := "QuarrelBookModel", name := "isPrice", desc := "(I)Z" } : Jvm.MethodName)) ∈ lw_good := lw_mem 1271 (by decide +kernel) rfl
set_option maxRecDepth 100000 in
theorem q_1272 : (Jvm.Cond.code ({ cls := "QuarrelBookModel", name := "isPrice", desc := "(I)Z" } : Jvm.MethodName) prog_14_method_48_code (1 : Nat) (Option.some Jvm.ClassFile.FieldType.boolean)) ∈ lw_good := lw_mem 1272 (by decide +kernel) rfl
set_option maxRecDepth 100000 in
theorem q_1277 : (Jvm.Cond.methodLink "QuarrelBookModel" (202 : Nat) ({ cls := "QuarrelBookModel", name := "costOf", desc := "(II)I" } : Jvm.MethodName)) ∈ lw_good := lw_mem 1277 (by decide +kernel) rfl
set_option maxRecDepth 100000 in
theorem q_1279 : (Jvm.Cond.instanceMethod ({ cls := "QuarrelBookModel", name := "costOf", desc := "(II)I" } : Jvm.MethodName)) ∈ lw_good := lw_mem 1279 (by decide +kernel) rfl
set_option maxRecDepth 100000 in
theorem q_1280 : (Jvm.Cond.code ({ cls := "QuarrelBookModel", name := "costOf", desc := "(II)I" } : Jvm.MethodName) prog_14_method_50_code (6 : Nat) (Option.some Jvm.ClassFile.FieldType.int)) ∈ lw_good := lw_mem 1280 (by decide +kernel) rfl
set_option maxRecDepth 100000 in
theorem q_1285 : (Jvm.Cond.methodLink "QuarrelBookModel" (231 : Nat) ({ cls := "QuarrelBookModel", name := "settles", desc := "(I)V" } : Jvm.MethodName)) ∈ lw_good := lw_mem 1285 (by decide +kernel) rfl
set_option maxRecDepth 100000 in
theorem q_1287 : (Jvm.Cond.instanceMethod ({ cls := "QuarrelBookModel", name := "settles", desc := "(I)V" } : Jvm.MethodName)) ∈ lw_good := lw_mem 1287 (by decide +kernel) rfl
set_option maxRecDepth 100000 in
theorem q_1288 : (Jvm.Cond.code ({ cls := "QuarrelBookModel", name := "settles", desc := "(I)V" } : Jvm.MethodName) prog_14_method_55_code (5 : Nat) (Option.none : Option Jvm.ClassFile.FieldType)) ∈ lw_good := lw_mem 1288 (by decide +kernel) rfl
set_option maxRecDepth 100000 in
theorem q_1289 : (Jvm.Cond.methodLink "QuarrelBookModel" (208 : Nat) ({ cls := "QuarrelBookModel", name := "setTable", desc := "(I)V" } : Jvm.MethodName)) ∈ lw_good := lw_mem 1289 (by decide +kernel) rfl
set_option maxRecDepth 100000 in
theorem q_1291 : (Jvm.Cond.instanceMethod ({ cls := "QuarrelBookModel", name := "setTable", desc := "(I)V" } : Jvm.MethodName)) ∈ lw_good := lw_mem 1291 (by decide +kernel) rfl
set_option maxRecDepth 100000 in
theorem q_1292 : (Jvm.Cond.code ({ cls := "QuarrelBookModel", name := "setTable", desc := "(I)V" } : Jvm.MethodName) prog_14_method_52_code (4 : Nat) (Option.none : Option Jvm.ClassFile.FieldType)) ∈ lw_good := lw_mem 1292 (by decide +kernel) rfl
set_option maxRecDepth 100000 in
theorem q_1293 : (Jvm.Cond.constant "QuarrelBookModel" (218 : Nat) (1000000 : Int32)) ∈ lw_good := lw_mem 1293 (by decide +kernel) rfl
set_option maxRecDepth 100000 in
theorem q_1294 : (Jvm.Cond.methodLink "QuarrelBookModel" (222 : Nat) ({ cls := "QuarrelBookModel", name := "sumBy", desc := "(I)I" } : Jvm.MethodName)) ∈ lw_good := lw_mem 1294 (by decide +kernel) rfl
set_option maxRecDepth 100000 in
theorem q_1296 : (Jvm.Cond.instanceMethod ({ cls := "QuarrelBookModel", name := "sumBy", desc := "(I)I" } : Jvm.MethodName)) ∈ lw_good := lw_mem 1296 (by decide +kernel) rfl
set_option maxRecDepth 100000 in
theorem q_1297 : (Jvm.Cond.code ({ cls := "QuarrelBookModel", name := "sumBy", desc := "(I)I" } : Jvm.MethodName) prog_14_method_53_code (4 : Nat) (Option.some Jvm.ClassFile.FieldType.int)) ∈ lw_good := lw_mem 1297 (by decide +kernel) rfl
set_option maxRecDepth 100000 in
theorem q_1298 : (Jvm.Cond.methodLink "QuarrelBookModel" (228 : Nat) ({ cls := "QuarrelBookModel", name := "sumByTwo", desc := "(II)I" } : Jvm.MethodName)) ∈ lw_good := lw_mem 1298 (by decide +kernel) rfl
set_option maxRecDepth 100000 in
theorem q_1300 : (Jvm.Cond.instanceMethod ({ cls := "QuarrelBookModel", name := "sumByTwo", desc := "(II)I" } : Jvm.MethodName)) ∈ lw_good := lw_mem 1300 (by decide +kernel) rfl
set_option maxRecDepth 100000 in
theorem q_1301 : (Jvm.Cond.code ({ cls := "QuarrelBookModel", name := "sumByTwo", desc := "(II)I" } : Jvm.MethodName) prog_14_method_54_code (7 : Nat) (Option.some Jvm.ClassFile.FieldType.int)) ∈ lw_good := lw_mem 1301 (by decide +kernel) rfl
set_option maxRecDepth 100000 in
theorem q_1310 : (Jvm.Cond.methodLink "QuarrelBookModel" (234 : Nat) ({ cls := "QuarrelBookModel", name := "setCheap", desc := "(I)V" } : Jvm.MethodName)) ∈ lw_good := lw_mem 1310 (by decide +kernel) rfl
set_option maxRecDepth 100000 in
theorem q_1312 : (Jvm.Cond.instanceMethod ({ cls := "QuarrelBookModel", name := "setCheap", desc := "(I)V" } : Jvm.MethodName)) ∈ lw_good := lw_mem 1312 (by decide +kernel) rfl
set_option maxRecDepth 100000 in
theorem q_1313 : (Jvm.Cond.code ({ cls := "QuarrelBookModel", name := "setCheap", desc := "(I)V" } : Jvm.MethodName) prog_14_method_58_code (5 : Nat) (Option.none : Option Jvm.ClassFile.FieldType)) ∈ lw_good := lw_mem 1313 (by decide +kernel) rfl
set_option maxRecDepth 100000 in
theorem q_1326 : (Jvm.Cond.methodLink "QuarrelBookModel" (237 : Nat) ({ cls := "QuarrelBookModel", name := "setRules", desc := "()V" } : Jvm.MethodName)) ∈ lw_good := lw_mem 1326 (by decide +kernel) rfl
set_option maxRecDepth 100000 in
theorem q_1328 : (Jvm.Cond.instanceMethod ({ cls := "QuarrelBookModel", name := "setRules", desc := "()V" } : Jvm.MethodName)) ∈ lw_good := lw_mem 1328 (by decide +kernel) rfl
set_option maxRecDepth 100000 in
theorem q_1329 : (Jvm.Cond.code ({ cls := "QuarrelBookModel", name := "setRules", desc := "()V" } : Jvm.MethodName) prog_14_method_62_code (2 : Nat) (Option.none : Option Jvm.ClassFile.FieldType)) ∈ lw_good := lw_mem 1329 (by decide +kernel) rfl
set_option maxRecDepth 100000 in
theorem q_1330 : (Jvm.Cond.methodLink "QuarrelBookModel" (240 : Nat) ({ cls := "QuarrelBookModel", name := "againstOf", desc := "(I)I" } : Jvm.MethodName)) ∈ lw_good := lw_mem 1330 (by decide +kernel) rfl
set_option maxRecDepth 100000 in
theorem q_1332 : (Jvm.Cond.instanceMethod ({ cls := "QuarrelBookModel", name := "againstOf", desc := "(I)I" } : Jvm.MethodName)) ∈ lw_good := lw_mem 1332 (by decide +kernel) rfl
set_option maxRecDepth 100000 in
theorem q_1333 : (Jvm.Cond.code ({ cls := "QuarrelBookModel", name := "againstOf", desc := "(I)I" } : Jvm.MethodName) prog_14_method_63_code (4 : Nat) (Option.some Jvm.ClassFile.FieldType.int)) ∈ lw_good := lw_mem 1333 (by decide +kernel) rfl
set_option maxRecDepth 100000 in
theorem q_1342 : (Jvm.Cond.methodLink "QuarrelBookModel" (246 : Nat) ({ cls := "QuarrelBookModel", name := "freshOf", desc := "(II)I" } : Jvm.MethodName)) ∈ lw_good := lw_mem 1342 (by decide +kernel) rfl
set_option maxRecDepth 100000 in
theorem q_1344 : (Jvm.Cond.instanceMethod ({ cls := "QuarrelBookModel", name := "freshOf", desc := "(II)I" } : Jvm.MethodName)) ∈ lw_good := lw_mem 1344 (by decide +kernel) rfl
set_option maxRecDepth 100000 in
theorem q_1345 : (Jvm.Cond.code ({ cls := "QuarrelBookModel", name := "freshOf", desc := "(II)I" } : Jvm.MethodName) prog_14_method_66_code (3 : Nat) (Option.some Jvm.ClassFile.FieldType.int)) ∈ lw_good := lw_mem 1345 (by decide +kernel) rfl
set_option maxRecDepth 100000 in
theorem q_1346 : (Jvm.Cond.methodLink "QuarrelBookModel" (243 : Nat) ({ cls := "QuarrelBookModel", name := "freshNow", desc := "(I)I" } : Jvm.MethodName)) ∈ lw_good := lw_mem 1346 (by decide +kernel) rfl
set_option maxRecDepth 100000 in
theorem q_1348 : (Jvm.Cond.instanceMethod ({ cls := "QuarrelBookModel", name := "freshNow", desc := "(I)I" } : Jvm.MethodName)) ∈ lw_good := lw_mem 1348 (by decide +kernel) rfl
set_option maxRecDepth 100000 in
theorem q_1349 : (Jvm.Cond.code ({ cls := "QuarrelBookModel", name := "freshNow", desc := "(I)I" } : Jvm.MethodName) prog_14_method_67_code (5 : Nat) (Option.some Jvm.ClassFile.FieldType.int)) ∈ lw_good := lw_mem 1349 (by decide +kernel) rfl
set_option maxRecDepth 100000 in
theorem q_1354 : (Jvm.Cond.methodLink "QuarrelBookModel" (249 : Nat) ({ cls := "QuarrelBookModel", name := "leastIn", desc := "(III)I" } : Jvm.MethodName)) ∈ lw_good := lw_mem 1354 (by decide +kernel) rfl
set_option maxRecDepth 100000 in
theorem q_1356 : (Jvm.Cond.instanceMethod ({ cls := "QuarrelBookModel", name := "leastIn", desc := "(III)I" } : Jvm.MethodName)) ∈ lw_good := lw_mem 1356 (by decide +kernel) rfl
set_option maxRecDepth 100000 in
theorem q_1357 : (Jvm.Cond.code ({ cls := "QuarrelBookModel", name := "leastIn", desc := "(III)I" } : Jvm.MethodName) prog_14_method_69_code (9 : Nat) (Option.some Jvm.ClassFile.FieldType.int)) ∈ lw_good := lw_mem 1357 (by decide +kernel) rfl
set_option maxRecDepth 100000 in
theorem q_1358 : (Jvm.Cond.methodLink "QuarrelBookModel" (253 : Nat) ({ cls := "QuarrelBookModel", name := "isSaid", desc := "(II)Z" } : Jvm.MethodName)) ∈ lw_good := lw_mem 1358 (by decide +kernel) rfl
set_option maxRecDepth 100000 in
theorem q_1360 : (Jvm.Cond.instanceMethod ({ cls := "QuarrelBookModel", name := "isSaid", desc := "(II)Z" } : Jvm.MethodName)) ∈ lw_good := lw_mem 1360 (by decide +kernel) rfl
set_option maxRecDepth 100000 in
theorem q_1361 : (Jvm.Cond.code ({ cls := "QuarrelBookModel", name := "isSaid", desc := "(II)Z" } : Jvm.MethodName) prog_14_method_70_code (5 : Nat) (Option.some Jvm.ClassFile.FieldType.boolean)) ∈ lw_good := lw_mem 1361 (by decide +kernel) rfl
set_option maxRecDepth 100000 in
theorem q_1366 : (Jvm.Cond.methodLink "QuarrelBookModel" (256 : Nat) ({ cls := "QuarrelBookModel", name := "bits", desc := "(I)I" } : Jvm.MethodName)) ∈ lw_good := lw_mem 1366 (by decide +kernel) rfl
set_option maxRecDepth 100000 in
theorem q_1367 : (Jvm.Cond.static ({ cls := "QuarrelBookModel", name := "bits", desc := "(I)I" } : Jvm.MethodName)) ∈ lw_good := lw_mem 1367 (by decide +kernel) rfl
set_option maxRecDepth 100000 in
theorem q_1368 : (Jvm.Cond.code ({ cls := "QuarrelBookModel", name := "bits", desc := "(I)I" } : Jvm.MethodName) prog_14_method_73_code (3 : Nat) (Option.some Jvm.ClassFile.FieldType.int)) ∈ lw_good := lw_mem 1368 (by decide +kernel) rfl
set_option maxRecDepth 100000 in
theorem q_1397 : (Jvm.Cond.methodLink "QuarrelBookModel" (262 : Nat) ({ cls := "QuarrelBookModel", name := "isMove", desc := "(III)Z" } : Jvm.MethodName)) ∈ lw_good := lw_mem 1397 (by decide +kernel) rfl
set_option maxRecDepth 100000 in
theorem q_1399 : (Jvm.Cond.instanceMethod ({ cls := "QuarrelBookModel", name := "isMove", desc := "(III)Z" } : Jvm.MethodName)) ∈ lw_good := lw_mem 1399 (by decide +kernel) rfl
set_option maxRecDepth 100000 in
theorem q_1400 : (Jvm.Cond.code ({ cls := "QuarrelBookModel", name := "isMove", desc := "(III)Z" } : Jvm.MethodName) prog_14_method_80_code (4 : Nat) (Option.some Jvm.ClassFile.FieldType.boolean)) ∈ lw_good := lw_mem 1400 (by decide +kernel) rfl
set_option maxRecDepth 100000 in
theorem q_1405 : (Jvm.Cond.methodLink "QuarrelBookModel" (268 : Nat) ({ cls := "QuarrelBookModel", name := "moveTells", desc := "(II)I" } : Jvm.MethodName)) ∈ lw_good := lw_mem 1405 (by decide +kernel) rfl
set_option maxRecDepth 100000 in
theorem q_1407 : (Jvm.Cond.instanceMethod ({ cls := "QuarrelBookModel", name := "moveTells", desc := "(II)I" } : Jvm.MethodName)) ∈ lw_good := lw_mem 1407 (by decide +kernel) rfl
set_option maxRecDepth 100000 in
theorem q_1408 : (Jvm.Cond.code ({ cls := "QuarrelBookModel", name := "moveTells", desc := "(II)I" } : Jvm.MethodName) prog_14_method_82_code (3 : Nat) (Option.some Jvm.ClassFile.FieldType.int)) ∈ lw_good := lw_mem 1408 (by decide +kernel) rfl
set_option maxRecDepth 100000 in
theorem q_1417 : (Jvm.Cond.methodLink "QuarrelBookModel" (271 : Nat) ({ cls := "QuarrelBookModel", name := "doesAnswer", desc := "(II)Z" } : Jvm.MethodName)) ∈ lw_good := lw_mem 1417 (by decide +kernel) rfl
set_option maxRecDepth 100000 in
theorem q_1419 : (Jvm.Cond.instanceMethod ({ cls := "QuarrelBookModel", name := "doesAnswer", desc := "(II)Z" } : Jvm.MethodName)) ∈ lw_good := lw_mem 1419 (by decide +kernel) rfl
set_option maxRecDepth 100000 in
theorem q_1420 : (Jvm.Cond.code ({ cls := "QuarrelBookModel", name := "doesAnswer", desc := "(II)Z" } : Jvm.MethodName) prog_14_method_85_code (7 : Nat) (Option.some Jvm.ClassFile.FieldType.boolean)) ∈ lw_good := lw_mem 1420 (by decide +kernel) rfl
set_option maxRecDepth 100000 in
theorem q_1425 : (Jvm.Cond.methodLink "QuarrelBookModel" (277 : Nat) ({ cls := "QuarrelBookModel", name := "isBy", desc := "(I)Z" } : Jvm.MethodName)) ∈ lw_good := lw_mem 1425 (by decide +kernel) rfl
set_option maxRecDepth 100000 in
theorem q_1426 : (Jvm.Cond.static ({ cls := "QuarrelBookModel", name := "isBy", desc := "(I)Z" } : Jvm.MethodName)) ∈ lw_good := lw_mem 1426 (by decide +kernel) rfl
set_option maxRecDepth 100000 in
theorem q_1427 : (Jvm.Cond.code ({ cls := "QuarrelBookModel", name := "isBy", desc := "(I)Z" } : Jvm.MethodName) prog_14_method_88_code (1 : Nat) (Option.some Jvm.ClassFile.FieldType.boolean)) ∈ lw_good := lw_mem 1427 (by decide +kernel) rfl
set_option maxRecDepth 100000 in
theorem q_1428 : (Jvm.Cond.methodLink "QuarrelBookModel" (280 : Nat) ({ cls := "QuarrelBookModel", name := "lawOf", desc := "(II)I" } : Jvm.MethodName)) ∈ lw_good := lw_mem 1428 (by decide +kernel) rfl
set_option maxRecDepth 100000 in
theorem q_1430 : (Jvm.Cond.instanceMethod ({ cls := "QuarrelBookModel", name := "lawOf", desc := "(II)I" } : Jvm.MethodName)) ∈ lw_good := lw_mem 1430 (by decide +kernel) rfl
set_option maxRecDepth 100000 in
theorem q_1431 : (Jvm.Cond.code ({ cls := "QuarrelBookModel", name := "lawOf", desc := "(II)I" } : Jvm.MethodName) prog_14_method_87_code (7 : Nat) (Option.some Jvm.ClassFile.FieldType.int)) ∈ lw_good := lw_mem 1431 (by decide +kernel) rfl
set_option maxRecDepth 100000 in
theorem q_1460 : (Jvm.Cond.methodLink "QuarrelBookModel" (283 : Nat) ({ cls := "QuarrelBookModel", name := "counts", desc := "(I)I" } : Jvm.MethodName)) ∈ lw_good := lw_mem 1460 (by decide +kernel) rfl
set_option maxRecDepth 100000 in
theorem q_1462 : (Jvm.Cond.instanceMethod ({ cls := "QuarrelBookModel", name := "counts", desc := "(I)I" } : Jvm.MethodName)) ∈ lw_good := lw_mem 1462 (by decide +kernel) rfl
set_option maxRecDepth 100000 in
theorem q_1463 : (Jvm.Cond.code ({ cls := "QuarrelBookModel", name := "counts", desc := "(I)I" } : Jvm.MethodName) prog_14_method_96_code (4 : Nat) (Option.some Jvm.ClassFile.FieldType.int)) ∈ lw_good := lw_mem 1463 (by decide +kernel) rfl
set_option maxRecDepth 100000 in
theorem q_1476 : (Jvm.Cond.constantLong "QuarrelBookModel" (294 : Nat) (17 : Int64)) ∈ lw_good := lw_mem 1476 (by decide +kernel) rfl
set_option maxRecDepth 100000 in
theorem q_1477 : (Jvm.Cond.methodLink "QuarrelBookModel" (291 : Nat) ({ cls := "QuarrelBookModel", name := "mix", desc := "(I)V" } : Jvm.MethodName)) ∈ lw_good := lw_mem 1477 (by decide +kernel) rfl
set_option maxRecDepth 100000 in
theorem q_1479 : (Jvm.Cond.instanceMethod ({ cls := "QuarrelBookModel", name := "mix", desc := "(I)V" } : Jvm.MethodName)) ∈ lw_good := lw_mem 1479 (by decide +kernel) rfl
set_option maxRecDepth 100000 in
theorem q_1480 : (Jvm.Cond.code ({ cls := "QuarrelBookModel", name := "mix", desc := "(I)V" } : Jvm.MethodName) prog_14_method_100_code (2 : Nat) (Option.none : Option Jvm.ClassFile.FieldType)) ∈ lw_good := lw_mem 1480 (by decide +kernel) rfl
set_option maxRecDepth 100000 in
theorem q_1481 : (Jvm.Cond.constantLong "QuarrelBookModel" (286 : Nat) (31 : Int64)) ∈ lw_good := lw_mem 1481 (by decide +kernel) rfl
set_option maxRecDepth 100000 in
theorem q_1482 : (Jvm.Cond.methodLink "QuarrelBookModel" (296 : Nat) ({ cls := "QuarrelBookModel", name := "mixSayings", desc := "()V" } : Jvm.MethodName)) ∈ lw_good := lw_mem 1482 (by decide +kernel) rfl
set_option maxRecDepth 100000 in
theorem q_1484 : (Jvm.Cond.instanceMethod ({ cls := "QuarrelBookModel", name := "mixSayings", desc := "()V" } : Jvm.MethodName)) ∈ lw_good := lw_mem 1484 (by decide +kernel) rfl
set_option maxRecDepth 100000 in
theorem q_1485 : (Jvm.Cond.code ({ cls := "QuarrelBookModel", name := "mixSayings", desc := "()V" } : Jvm.MethodName) prog_14_method_101_code (3 : Nat) (Option.none : Option Jvm.ClassFile.FieldType)) ∈ lw_good := lw_mem 1485 (by decide +kernel) rfl
set_option maxRecDepth 100000 in
theorem qp_18 : (Jvm.Cond.selects "QuarrelBookModel" ({ cls := "QuarrelBookModel", name := "meets", desc := "(I)I" } : Jvm.MethodName) ({ cls := "QuarrelBookModel", name := "meets", desc := "(I)I" } : Jvm.MethodName)) ∈ lw_good := lw_memP 18 (by decide +kernel) rfl
set_option maxRecDepth 100000 in
theorem qp_19 : (Jvm.Cond.selects "QuarrelBookModel" ({ cls := "QuarrelBookModel", name := "askedRow", desc := "(I)I" } : Jvm.MethodName) ({ cls := "QuarrelBookModel", name := "askedRow", desc := "(I)I" } : Jvm.MethodName)) ∈ lw_good := lw_memP 19 (by decide +kernel) rfl
set_option maxRecDepth 100000 in
theorem qp_20 : (Jvm.Cond.selects "QuarrelBookModel" ({ cls := "QuarrelBookModel", name := "rowAt", desc := "(II)I" } : Jvm.MethodName) ({ cls := "QuarrelBookModel", name := "rowAt", desc := "(II)I" } : Jvm.MethodName)) ∈ lw_good := lw_memP 20 (by decide +kernel) rfl
set_option maxRecDepth 100000 in
theorem qp_21 : (Jvm.Cond.selects "QuarrelBookModel" ({ cls := "QuarrelBookModel", name := "ask", desc := "(II)I" } : Jvm.MethodName) ({ cls := "QuarrelBookModel", name := "ask", desc := "(II)I" } : Jvm.MethodName)) ∈ lw_good := lw_memP 21 (by decide +kernel) rfl
set_option maxRecDepth 100000 in
theorem qp_22 : (Jvm.Cond.selects "QuarrelBookModel" ({ cls := "QuarrelBookModel", name := "askedText", desc := "(I)I" } : Jvm.MethodName) ({ cls := "QuarrelBookModel", name := "askedText", desc := "(I)I" } : Jvm.MethodName)) ∈ lw_good := lw_memP 22 (by decide +kernel) rfl
set_option maxRecDepth 100000 in
theorem qp_23 : (Jvm.Cond.selects "QuarrelBookModel" ({ cls := "QuarrelBookModel", name := "isMaster", desc := "(I)Z" } : Jvm.MethodName) ({ cls := "QuarrelBookModel", name := "isMaster", desc := "(I)Z" } : Jvm.MethodName)) ∈ lw_good := lw_memP 23 (by decide +kernel) rfl
set_option maxRecDepth 100000 in
theorem qp_24 : (Jvm.Cond.selects "QuarrelBookModel" ({ cls := "QuarrelBookModel", name := "isOf", desc := "(II)Z" } : Jvm.MethodName) ({ cls := "QuarrelBookModel", name := "isOf", desc := "(II)Z" } : Jvm.MethodName)) ∈ lw_good := lw_memP 24 (by decide +kernel) rfl
set_option maxRecDepth 100000 in
theorem qp_25 : (Jvm.Cond.selects "QuarrelBookModel" ({ cls := "QuarrelBookModel", name := "isCase", desc := "(I)Z" } : Jvm.MethodName) ({ cls := "QuarrelBookModel", name := "isCase", desc := "(I)Z" } : Jvm.MethodName)) ∈ lw_good := lw_memP 25 (by decide +kernel) rfl
set_option maxRecDepth 100000 in
theorem qp_26 : (Jvm.Cond.selects "QuarrelBookModel" ({ cls := "QuarrelBookModel", name := "sayingsOf", desc := "(I)I" } : Jvm.MethodName) ({ cls := "QuarrelBookModel", name := "sayingsOf", desc := "(I)I" } : Jvm.MethodName)) ∈ lw_good := lw_memP 26 (by decide +kernel) rfl
set_option maxRecDepth 100000 in
theorem qp_27 : (Jvm.Cond.selects "QuarrelBookModel" ({ cls := "QuarrelBookModel", name := "newSaying", desc := "(IIIII)I" } : Jvm.MethodName) ({ cls := "QuarrelBookModel", name := "newSaying", desc := "(IIIII)I" } : Jvm.MethodName)) ∈ lw_good := lw_memP 27 (by decide +kernel) rfl
set_option maxRecDepth 100000 in
theorem qp_28 : (Jvm.Cond.selects "QuarrelBookModel" ({ cls := "QuarrelBookModel", name := "isSaying", desc := "(I)Z" } : Jvm.MethodName) ({ cls := "QuarrelBookModel", name := "isSaying", desc := "(I)Z" } : Jvm.MethodName)) ∈ lw_good := lw_memP 28 (by decide +kernel) rfl
set_option maxRecDepth 100000 in
theorem qp_29 : (Jvm.Cond.selects "QuarrelBookModel" ({ cls := "QuarrelBookModel", name := "sayingTells", desc := "(II)I" } : Jvm.MethodName) ({ cls := "QuarrelBookModel", name := "sayingTells", desc := "(II)I" } : Jvm.MethodName)) ∈ lw_good := lw_memP 29 (by decide +kernel) rfl
set_option maxRecDepth 100000 in
theorem qp_30 : (Jvm.Cond.selects "QuarrelBookModel" ({ cls := "QuarrelBookModel", name := "lifeTells", desc := "(II)I" } : Jvm.MethodName) ({ cls := "QuarrelBookModel", name := "lifeTells", desc := "(II)I" } : Jvm.MethodName)) ∈ lw_good := lw_memP 30 (by decide +kernel) rfl
set_option maxRecDepth 100000 in
theorem qp_31 : (Jvm.Cond.selects "QuarrelBookModel" ({ cls := "QuarrelBookModel", name := "pupils", desc := "(I)I" } : Jvm.MethodName) ({ cls := "QuarrelBookModel", name := "pupils", desc := "(I)I" } : Jvm.MethodName)) ∈ lw_good := lw_memP 31 (by decide +kernel) rfl
set_option maxRecDepth 100000 in
theorem qp_32 : (Jvm.Cond.selects "QuarrelBookModel" ({ cls := "QuarrelBookModel", name := "goesOn", desc := "(I)I" } : Jvm.MethodName) ({ cls := "QuarrelBookModel", name := "goesOn", desc := "(I)I" } : Jvm.MethodName)) ∈ lw_good := lw_memP 32 (by decide +kernel) rfl
set_option maxRecDepth 100000 in
theorem qp_33 : (Jvm.Cond.selects "QuarrelBookModel" ({ cls := "QuarrelBookModel", name := "byteAt", desc := "(II)I" } : Jvm.MethodName) ({ cls := "QuarrelBookModel", name := "byteAt", desc := "(II)I" } : Jvm.MethodName)) ∈ lw_good := lw_memP 33 (by decide +kernel) rfl
set_option maxRecDepth 100000 in
theorem qp_34 : (Jvm.Cond.selects "QuarrelBookModel" ({ cls := "QuarrelBookModel", name := "doesFit", desc := "(III)Z" } : Jvm.MethodName) ({ cls := "QuarrelBookModel", name := "doesFit", desc := "(III)Z" } : Jvm.MethodName)) ∈ lw_good := lw_memP 34 (by decide +kernel) rfl
set_option maxRecDepth 100000 in
theorem qp_35 : (Jvm.Cond.selects "QuarrelBookModel" ({ cls := "QuarrelBookModel", name := "costOf", desc := "(II)I" } : Jvm.MethodName) ({ cls := "QuarrelBookModel", name := "costOf", desc := "(II)I" } : Jvm.MethodName)) ∈ lw_good := lw_memP 35 (by decide +kernel) rfl
set_option maxRecDepth 100000 in
theorem qp_36 : (Jvm.Cond.selects "QuarrelBookModel" ({ cls := "QuarrelBookModel", name := "settles", desc := "(I)V" } : Jvm.MethodName) ({ cls := "QuarrelBookModel", name := "settles", desc := "(I)V" } : Jvm.MethodName)) ∈ lw_good := lw_memP 36 (by decide +kernel) rfl
set_option maxRecDepth 100000 in
theorem qp_37 : (Jvm.Cond.selects "QuarrelBookModel" ({ cls := "QuarrelBookModel", name := "setTable", desc := "(I)V" } : Jvm.MethodName) ({ cls := "QuarrelBookModel", name := "setTable", desc := "(I)V" } : Jvm.MethodName)) ∈ lw_good := lw_memP 37 (by decide +kernel) rfl
set_option maxRecDepth 100000 in
theorem qp_38 : (Jvm.Cond.selects "QuarrelBookModel" ({ cls := "QuarrelBookModel", name := "sumBy", desc := "(I)I" } : Jvm.MethodName) ({ cls := "QuarrelBookModel", name := "sumBy", desc := "(I)I" } : Jvm.MethodName)) ∈ lw_good := lw_memP 38 (by decide +kernel) rfl
set_option maxRecDepth 100000 in
theorem qp_39 : (Jvm.Cond.selects "QuarrelBookModel" ({ cls := "QuarrelBookModel", name := "sumByTwo", desc := "(II)I" } : Jvm.MethodName) ({ cls := "QuarrelBookModel", name := "sumByTwo", desc := "(II)I" } : Jvm.MethodName)) ∈ lw_good := lw_memP 39 (by decide +kernel) rfl
set_option maxRecDepth 100000 in
theorem qp_40 : (Jvm.Cond.selects "QuarrelBookModel" ({ cls := "QuarrelBookModel", name := "setCheap", desc := "(I)V" } : Jvm.MethodName) ({ cls := "QuarrelBookModel", name := "setCheap", desc := "(I)V" } : Jvm.MethodName)) ∈ lw_good := lw_memP 40 (by decide +kernel) rfl
set_option maxRecDepth 100000 in
theorem qp_41 : (Jvm.Cond.selects "QuarrelBookModel" ({ cls := "QuarrelBookModel", name := "setRules", desc := "()V" } : Jvm.MethodName) ({ cls := "QuarrelBookModel", name := "setRules", desc := "()V" } : Jvm.MethodName)) ∈ lw_good := lw_memP 41 (by decide +kernel) rfl
set_option maxRecDepth 100000 in
theorem qp_42 : (Jvm.Cond.selects "QuarrelBookModel" ({ cls := "QuarrelBookModel", name := "againstOf", desc := "(I)I" } : Jvm.MethodName) ({ cls := "QuarrelBookModel", name := "againstOf", desc := "(I)I" } : Jvm.MethodName)) ∈ lw_good := lw_memP 42 (by decide +kernel) rfl
set_option maxRecDepth 100000 in
theorem qp_43 : (Jvm.Cond.selects "QuarrelBookModel" ({ cls := "QuarrelBookModel", name := "freshOf", desc := "(II)I" } : Jvm.MethodName) ({ cls := "QuarrelBookModel", name := "freshOf", desc := "(II)I" } : Jvm.MethodName)) ∈ lw_good := lw_memP 43 (by decide +kernel) rfl
set_option maxRecDepth 100000 in
theorem qp_44 : (Jvm.Cond.selects "QuarrelBookModel" ({ cls := "QuarrelBookModel", name := "freshNow", desc := "(I)I" } : Jvm.MethodName) ({ cls := "QuarrelBookModel", name := "freshNow", desc := "(I)I" } : Jvm.MethodName)) ∈ lw_good := lw_memP 44 (by decide +kernel) rfl
set_option maxRecDepth 100000 in
theorem qp_45 : (Jvm.Cond.selects "QuarrelBookModel" ({ cls := "QuarrelBookModel", name := "leastIn", desc := "(III)I" } : Jvm.MethodName) ({ cls := "QuarrelBookModel", name := "leastIn", desc := "(III)I" } : Jvm.MethodName)) ∈ lw_good := lw_memP 45 (by decide +kernel) rfl
set_option maxRecDepth 100000 in
theorem qp_46 : (Jvm.Cond.selects "QuarrelBookModel" ({ cls := "QuarrelBookModel", name := "isSaid", desc := "(II)Z" } : Jvm.MethodName) ({ cls := "QuarrelBookModel", name := "isSaid", desc := "(II)Z" } : Jvm.MethodName)) ∈ lw_good := lw_memP 46 (by decide +kernel) rfl
set_option maxRecDepth 100000 in
theorem qp_47 : (Jvm.Cond.selects "QuarrelBookModel" ({ cls := "QuarrelBookModel", name := "isMove", desc := "(III)Z" } : Jvm.MethodName) ({ cls := "QuarrelBookModel", name := "isMove", desc := "(III)Z" } : Jvm.MethodName)) ∈ lw_good := lw_memP 47 (by decide +kernel) rfl
set_option maxRecDepth 100000 in
theorem qp_48 : (Jvm.Cond.selects "QuarrelBookModel" ({ cls := "QuarrelBookModel", name := "moveTells", desc := "(II)I" } : Jvm.MethodName) ({ cls := "QuarrelBookModel", name := "moveTells", desc := "(II)I" } : Jvm.MethodName)) ∈ lw_good := lw_memP 48 (by decide +kernel) rfl
set_option maxRecDepth 100000 in
theorem qp_49 : (Jvm.Cond.selects "QuarrelBookModel" ({ cls := "QuarrelBookModel", name := "doesAnswer", desc := "(II)Z" } : Jvm.MethodName) ({ cls := "QuarrelBookModel", name := "doesAnswer", desc := "(II)Z" } : Jvm.MethodName)) ∈ lw_good := lw_memP 49 (by decide +kernel) rfl
set_option maxRecDepth 100000 in
theorem qp_50 : (Jvm.Cond.selects "QuarrelBookModel" ({ cls := "QuarrelBookModel", name := "lawOf", desc := "(II)I" } : Jvm.MethodName) ({ cls := "QuarrelBookModel", name := "lawOf", desc := "(II)I" } : Jvm.MethodName)) ∈ lw_good := lw_memP 50 (by decide +kernel) rfl
set_option maxRecDepth 100000 in
theorem qp_51 : (Jvm.Cond.selects "QuarrelBookModel" ({ cls := "QuarrelBookModel", name := "counts", desc := "(I)I" } : Jvm.MethodName) ({ cls := "QuarrelBookModel", name := "counts", desc := "(I)I" } : Jvm.MethodName)) ∈ lw_good := lw_memP 51 (by decide +kernel) rfl
set_option maxRecDepth 100000 in
theorem qp_52 : (Jvm.Cond.selects "QuarrelBookModel" ({ cls := "QuarrelBookModel", name := "mix", desc := "(I)V" } : Jvm.MethodName) ({ cls := "QuarrelBookModel", name := "mix", desc := "(I)V" } : Jvm.MethodName)) ∈ lw_good := lw_memP 52 (by decide +kernel) rfl
set_option maxRecDepth 100000 in
theorem qp_53 : (Jvm.Cond.selects "QuarrelBookModel" ({ cls := "QuarrelBookModel", name := "mixSayings", desc := "()V" } : Jvm.MethodName) ({ cls := "QuarrelBookModel", name := "mixSayings", desc := "()V" } : Jvm.MethodName)) ∈ lw_good := lw_memP 53 (by decide +kernel) rfl
