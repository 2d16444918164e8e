set_option maxRecDepth 100000 in
theorem q_1 : (Jvm.Cond.initialized "QuarrelBook") ∈ lw_good := lw_mem 1 (by decide +kernel) rfl
set_option maxRecDepth 100000 in
theorem q_2 : (Jvm.Cond.initialized "QuarrelBook$Book") ∈ lw_good := lw_mem 2 (by decide +kernel) rfl
set_option maxRecDepth 100000 in
theorem q_3 : (Jvm.Cond.initialized "QuarrelBook$Rules") ∈ lw_good := lw_mem 3 (by decide +kernel) rfl
set_option maxRecDepth 100000 in
theorem q_4 : (Jvm.Cond.initialized "QuarrelBook$Bench") ∈ lw_good := lw_mem 4 (by decide +kernel) rfl
set_option maxRecDepth 100000 in
theorem q_5 : (Jvm.Cond.initialized "QuarrelBook$Master") ∈ lw_good := lw_mem 5 (by decide +kernel) rfl
set_option maxRecDepth 100000 in
theorem q_6 : (Jvm.Cond.initialized "QuarrelBook$Mind") ∈ lw_good := lw_mem 6 (by decide +kernel) rfl
set_option maxRecDepth 100000 in
theorem q_7 : (Jvm.Cond.initialized "QuarrelBook$Saying") ∈ lw_good := lw_mem 7 (by decide +kernel) rfl
set_option maxRecDepth 100000 in
theorem q_8 : (Jvm.Cond.initialized "java/util/Arrays") ∈ lw_good := lw_mem 8 (by decide +kernel) rfl
set_option maxRecDepth 100000 in
theorem q_9 : (Jvm.Cond.initialized "QuarrelBook$Page") ∈ lw_good := lw_mem 9 (by decide +kernel) rfl
set_option maxRecDepth 100000 in
theorem q_10 : (Jvm.Cond.initialized "QuarrelBook$Move") ∈ lw_good := lw_mem 10 (by decide +kernel) rfl
set_option maxRecDepth 100000 in
theorem q_11 : (Jvm.Cond.initialized "QuarrelBook$Court") ∈ lw_good := lw_mem 11 (by decide +kernel) rfl
set_option maxRecDepth 100000 in
theorem q_12 : (Jvm.Cond.initialized "QuarrelBook$Row") ∈ lw_good := lw_mem 12 (by decide +kernel) rfl
set_option maxRecDepth 100000 in
theorem q_13 : (Jvm.Cond.initialized "QuarrelBook$Text") ∈ lw_good := lw_mem 13 (by decide +kernel) rfl
set_option maxRecDepth 100000 in
theorem q_14 : (Jvm.Cond.initialized "QuarrelBookModel") ∈ lw_good := lw_mem 14 (by decide +kernel) rfl
set_option maxRecDepth 100000 in
theorem q_15 : (Jvm.Cond.initialized "java/lang/System") ∈ lw_good := lw_mem 15 (by decide +kernel) rfl
set_option maxRecDepth 100000 in
theorem q_16 : (Jvm.Cond.initialized "java/lang/Math") ∈ lw_good := lw_mem 16 (by decide +kernel) rfl
set_option maxRecDepth 100000 in
theorem q_17 : (Jvm.Cond.initialized "java/lang/Integer") ∈ lw_good := lw_mem 17 (by decide +kernel) rfl
set_option maxRecDepth 100000 in
theorem q_46 : (Jvm.Cond.fieldLink "QuarrelBook$Rules" (9 : Nat) "QuarrelBook$Rules" "owed" "[I") ∈ lw_good := lw_mem 46 (by decide +kernel) rfl
set_option maxRecDepth 100000 in
theorem q_47 : (Jvm.Cond.fieldLink "QuarrelBook$Mind" (49 : Nat) "QuarrelBook$Rules" "owed" "[I") ∈ lw_good := lw_mem 47 (by decide +kernel) rfl
set_option maxRecDepth 100000 in
theorem q_48 : (Jvm.Cond.fieldLink "QuarrelBook$Rules" (15 : Nat) "QuarrelBook$Rules" "looked" "[I") ∈ lw_good := lw_mem 48 (by decide +kernel) rfl
set_option maxRecDepth 100000 in
theorem q_61 : (Jvm.Cond.fieldLink "QuarrelBook$Bench" (9 : Nat) "QuarrelBook$Bench" "amended" "I") ∈ lw_good := lw_mem 61 (by decide +kernel) rfl
set_option maxRecDepth 100000 in
theorem q_62 : (Jvm.Cond.fieldLink "QuarrelBook$Book" (106 : Nat) "QuarrelBook$Bench" "amended" "I") ∈ lw_good := lw_mem 62 (by decide +kernel) rfl
set_option maxRecDepth 100000 in
theorem q_63 : (Jvm.Cond.fieldLink "QuarrelBook$Bench" (15 : Nat) "QuarrelBook$Bench" "standing" "I") ∈ lw_good := lw_mem 63 (by decide +kernel) rfl
set_option maxRecDepth 100000 in
theorem q_64 : (Jvm.Cond.fieldLink "QuarrelBook$Book" (109 : Nat) "QuarrelBook$Bench" "standing" "I") ∈ lw_good := lw_mem 64 (by decide +kernel) rfl
set_option maxRecDepth 100000 in
theorem q_65 : (Jvm.Cond.fieldLink "QuarrelBook$Bench" (18 : Nat) "QuarrelBook$Bench" "two" "I") ∈ lw_good := lw_mem 65 (by decide +kernel) rfl
set_option maxRecDepth 100000 in
theorem q_66 : (Jvm.Cond.fieldLink "QuarrelBook$Book" (112 : Nat) "QuarrelBook$Bench" "two" "I") ∈ lw_good := lw_mem 66 (by decide +kernel) rfl
set_option maxRecDepth 100000 in
theorem q_67 : (Jvm.Cond.fieldLink "QuarrelBook$Bench" (21 : Nat) "QuarrelBook$Bench" "sums" "[I") ∈ lw_good := lw_mem 67 (by decide +kernel) rfl
set_option maxRecDepth 100000 in
theorem q_68 : (Jvm.Cond.fieldLink "QuarrelBook$Mind" (43 : Nat) "QuarrelBook$Bench" "sums" "[I") ∈ lw_good := lw_mem 68 (by decide +kernel) rfl
set_option maxRecDepth 100000 in
theorem q_69 : (Jvm.Cond.fieldLink "QuarrelBook$Bench" (25 : Nat) "QuarrelBook$Bench" "least" "I") ∈ lw_good := lw_mem 69 (by decide +kernel) rfl
set_option maxRecDepth 100000 in
theorem q_70 : (Jvm.Cond.fieldLink "QuarrelBook$Mind" (46 : Nat) "QuarrelBook$Bench" "least" "I") ∈ lw_good := lw_mem 70 (by decide +kernel) rfl
set_option maxRecDepth 100000 in
theorem q_71 : (Jvm.Cond.fieldLink "QuarrelBook$Bench" (28 : Nat) "QuarrelBook$Bench" "sum" "I") ∈ lw_good := lw_mem 71 (by decide +kernel) rfl
set_option maxRecDepth 100000 in
theorem q_72 : (Jvm.Cond.fieldLink "QuarrelBook$Mind" (38 : Nat) "QuarrelBook$Bench" "sum" "I") ∈ lw_good := lw_mem 72 (by decide +kernel) rfl
set_option maxRecDepth 100000 in
theorem q_73 : (Jvm.Cond.fieldLink "QuarrelBook$Book" (141 : Nat) "QuarrelBook$Bench" "sum" "I") ∈ lw_good := lw_mem 73 (by decide +kernel) rfl
set_option maxRecDepth 100000 in
theorem q_74 : (Jvm.Cond.fieldLink "QuarrelBook$Bench" (31 : Nat) "QuarrelBook$Bench" "lesser" "I") ∈ lw_good := lw_mem 74 (by decide +kernel) rfl
set_option maxRecDepth 100000 in
theorem q_75 : (Jvm.Cond.fieldLink "QuarrelBook$Mind" (41 : Nat) "QuarrelBook$Bench" "lesser" "I") ∈ lw_good := lw_mem 75 (by decide +kernel) rfl
set_option maxRecDepth 100000 in
theorem q_76 : (Jvm.Cond.fieldLink "QuarrelBook$Bench" (34 : Nat) "QuarrelBook$Bench" "greater" "I") ∈ lw_good := lw_mem 76 (by decide +kernel) rfl
set_option maxRecDepth 100000 in
theorem q_77 : (Jvm.Cond.fieldLink "QuarrelBook$Mind" (42 : Nat) "QuarrelBook$Bench" "greater" "I") ∈ lw_good := lw_mem 77 (by decide +kernel) rfl
set_option maxRecDepth 100000 in
theorem q_78 : (Jvm.Cond.fieldLink "QuarrelBook$Bench" (37 : Nat) "QuarrelBook$Bench" "gain" "I") ∈ lw_good := lw_mem 78 (by decide +kernel) rfl
set_option maxRecDepth 100000 in
theorem q_79 : (Jvm.Cond.fieldLink "QuarrelBook" (234 : Nat) "QuarrelBook$Bench" "gain" "I") ∈ lw_good := lw_mem 79 (by decide +kernel) rfl
set_option maxRecDepth 100000 in
theorem q_80 : (Jvm.Cond.fieldLink "QuarrelBook$Bench" (46 : Nat) "QuarrelBook$Bench" "rules" "LQuarrelBook$Rules;") ∈ lw_good := lw_mem 80 (by decide +kernel) rfl
set_option maxRecDepth 100000 in
theorem q_81 : (Jvm.Cond.fieldLink "QuarrelBook$Bench" (40 : Nat) "QuarrelBook$Bench" "strains" "[I") ∈ lw_good := lw_mem 81 (by decide +kernel) rfl
set_option maxRecDepth 100000 in
theorem q_82 : (Jvm.Cond.fieldLink "QuarrelBook$Bench" (43 : Nat) "QuarrelBook$Bench" "candidates" "[I") ∈ lw_good := lw_mem 82 (by decide +kernel) rfl
set_option maxRecDepth 100000 in
theorem q_123 : (Jvm.Cond.fieldLink "QuarrelBook$Mind" (9 : Nat) "QuarrelBook$Mind" "known" "Z") ∈ lw_good := lw_mem 123 (by decide +kernel) rfl
set_option maxRecDepth 100000 in
theorem q_124 : (Jvm.Cond.fieldLink "QuarrelBook$Book" (100 : Nat) "QuarrelBook$Mind" "known" "Z") ∈ lw_good := lw_mem 124 (by decide +kernel) rfl
set_option maxRecDepth 100000 in
theorem q_125 : (Jvm.Cond.fieldLink "QuarrelBook$Mind" (15 : Nat) "QuarrelBook$Mind" "sum" "I") ∈ lw_good := lw_mem 125 (by decide +kernel) rfl
set_option maxRecDepth 100000 in
theorem q_126 : (Jvm.Cond.fieldLink "QuarrelBook" (203 : Nat) "QuarrelBook$Mind" "sum" "I") ∈ lw_good := lw_mem 126 (by decide +kernel) rfl
set_option maxRecDepth 100000 in
theorem q_127 : (Jvm.Cond.fieldLink "QuarrelBook$Mind" (19 : Nat) "QuarrelBook$Mind" "lesser" "I") ∈ lw_good := lw_mem 127 (by decide +kernel) rfl
set_option maxRecDepth 100000 in
theorem q_128 : (Jvm.Cond.fieldLink "QuarrelBook$Court" (50 : Nat) "QuarrelBook$Mind" "lesser" "I") ∈ lw_good := lw_mem 128 (by decide +kernel) rfl
set_option maxRecDepth 100000 in
theorem q_129 : (Jvm.Cond.fieldLink "QuarrelBook$Page" (77 : Nat) "QuarrelBook$Mind" "lesser" "I") ∈ lw_good := lw_mem 129 (by decide +kernel) rfl
set_option maxRecDepth 100000 in
theorem q_130 : (Jvm.Cond.fieldLink "QuarrelBook$Book" (148 : Nat) "QuarrelBook$Mind" "lesser" "I") ∈ lw_good := lw_mem 130 (by decide +kernel) rfl
set_option maxRecDepth 100000 in
theorem q_131 : (Jvm.Cond.fieldLink "QuarrelBook" (198 : Nat) "QuarrelBook$Mind" "lesser" "I") ∈ lw_good := lw_mem 131 (by decide +kernel) rfl
set_option maxRecDepth 100000 in
theorem q_132 : (Jvm.Cond.fieldLink "QuarrelBook$Mind" (22 : Nat) "QuarrelBook$Mind" "greater" "I") ∈ lw_good := lw_mem 132 (by decide +kernel) rfl
set_option maxRecDepth 100000 in
theorem q_133 : (Jvm.Cond.fieldLink "QuarrelBook" (205 : Nat) "QuarrelBook$Mind" "greater" "I") ∈ lw_good := lw_mem 133 (by decide +kernel) rfl
set_option maxRecDepth 100000 in
theorem q_134 : (Jvm.Cond.fieldLink "QuarrelBook$Mind" (25 : Nat) "QuarrelBook$Mind" "cheapRules" "[I") ∈ lw_good := lw_mem 134 (by decide +kernel) rfl
set_option maxRecDepth 100000 in
theorem q_135 : (Jvm.Cond.fieldLink "QuarrelBook$Page" (135 : Nat) "QuarrelBook$Mind" "cheapRules" "[I") ∈ lw_good := lw_mem 135 (by decide +kernel) rfl
set_option maxRecDepth 100000 in
theorem q_136 : (Jvm.Cond.fieldLink "QuarrelBook" (214 : Nat) "QuarrelBook$Mind" "cheapRules" "[I") ∈ lw_good := lw_mem 136 (by decide +kernel) rfl
set_option maxRecDepth 100000 in
theorem q_137 : (Jvm.Cond.fieldLink "QuarrelBook$Mind" (29 : Nat) "QuarrelBook$Mind" "manyCheap" "I") ∈ lw_good := lw_mem 137 (by decide +kernel) rfl
set_option maxRecDepth 100000 in
theorem q_138 : (Jvm.Cond.fieldLink "QuarrelBook$Page" (132 : Nat) "QuarrelBook$Mind" "manyCheap" "I") ∈ lw_good := lw_mem 138 (by decide +kernel) rfl
set_option maxRecDepth 100000 in
theorem q_139 : (Jvm.Cond.fieldLink "QuarrelBook" (211 : Nat) "QuarrelBook$Mind" "manyCheap" "I") ∈ lw_good := lw_mem 139 (by decide +kernel) rfl
set_option maxRecDepth 100000 in
theorem q_140 : (Jvm.Cond.fieldLink "QuarrelBook$Mind" (32 : Nat) "QuarrelBook$Mind" "maybeOwed" "I") ∈ lw_good := lw_mem 140 (by decide +kernel) rfl
set_option maxRecDepth 100000 in
theorem q_141 : (Jvm.Cond.fieldLink "QuarrelBook$Mind" (35 : Nat) "QuarrelBook$Mind" "maybeNot" "I") ∈ lw_good := lw_mem 141 (by decide +kernel) rfl
set_option maxRecDepth 100000 in
theorem q_160 : (Jvm.Cond.fieldLink "QuarrelBook$Book" (63 : Nat) "QuarrelBook$Master" "born" "I") ∈ lw_good := lw_mem 160 (by decide +kernel) rfl
set_option maxRecDepth 100000 in
theorem q_161 : (Jvm.Cond.fieldLink "QuarrelBook$Bench" (100 : Nat) "QuarrelBook$Master" "born" "I") ∈ lw_good := lw_mem 161 (by decide +kernel) rfl
set_option maxRecDepth 100000 in
theorem q_162 : (Jvm.Cond.fieldLink "QuarrelBook" (249 : Nat) "QuarrelBook$Master" "born" "I") ∈ lw_good := lw_mem 162 (by decide +kernel) rfl
set_option maxRecDepth 100000 in
theorem q_164 : (Jvm.Cond.fieldLink "QuarrelBook$Court" (61 : Nat) "QuarrelBook$Master" "dies" "I") ∈ lw_good := lw_mem 164 (by decide +kernel) rfl
set_option maxRecDepth 100000 in
theorem q_165 : (Jvm.Cond.fieldLink "QuarrelBook$Book" (66 : Nat) "QuarrelBook$Master" "dies" "I") ∈ lw_good := lw_mem 165 (by decide +kernel) rfl
set_option maxRecDepth 100000 in
theorem q_166 : (Jvm.Cond.fieldLink "QuarrelBook$Bench" (106 : Nat) "QuarrelBook$Master" "dies" "I") ∈ lw_good := lw_mem 166 (by decide +kernel) rfl
set_option maxRecDepth 100000 in
theorem q_167 : (Jvm.Cond.fieldLink "QuarrelBook" (257 : Nat) "QuarrelBook$Master" "dies" "I") ∈ lw_good := lw_mem 167 (by decide +kernel) rfl
set_option maxRecDepth 100000 in
theorem q_169 : (Jvm.Cond.fieldLink "QuarrelBook$Book" (72 : Nat) "QuarrelBook$Master" "teacher" "I") ∈ lw_good := lw_mem 169 (by decide +kernel) rfl
set_option maxRecDepth 100000 in
theorem q_171 : (Jvm.Cond.fieldLink "QuarrelBook$Book" (75 : Nat) "QuarrelBook$Master" "forebears" "I") ∈ lw_good := lw_mem 171 (by decide +kernel) rfl
set_option maxRecDepth 100000 in
theorem q_173 : (Jvm.Cond.fieldLink "QuarrelBook$Bench" (73 : Nat) "QuarrelBook$Master" "own" "[I") ∈ lw_good := lw_mem 173 (by decide +kernel) rfl
set_option maxRecDepth 100000 in
theorem q_174 : (Jvm.Cond.fieldLink "QuarrelBook$Book" (93 : Nat) "QuarrelBook$Master" "own" "[I") ∈ lw_good := lw_mem 174 (by decide +kernel) rfl
set_option maxRecDepth 100000 in
theorem q_175 : (Jvm.Cond.fieldLink "QuarrelBook$Master" (28 : Nat) "QuarrelBook$Master" "manyOwn" "I") ∈ lw_good := lw_mem 175 (by decide +kernel) rfl
set_option maxRecDepth 100000 in
theorem q_176 : (Jvm.Cond.fieldLink "QuarrelBook$Bench" (68 : Nat) "QuarrelBook$Master" "manyOwn" "I") ∈ lw_good := lw_mem 176 (by decide +kernel) rfl
set_option maxRecDepth 100000 in
theorem q_177 : (Jvm.Cond.fieldLink "QuarrelBook$Book" (69 : Nat) "QuarrelBook$Master" "manyOwn" "I") ∈ lw_good := lw_mem 177 (by decide +kernel) rfl
set_option maxRecDepth 100000 in
theorem q_179 : (Jvm.Cond.fieldLink "QuarrelBook$Court" (46 : Nat) "QuarrelBook$Master" "mind" "LQuarrelBook$Mind;") ∈ lw_good := lw_mem 179 (by decide +kernel) rfl
set_option maxRecDepth 100000 in
theorem q_180 : (Jvm.Cond.fieldLink "QuarrelBook$Page" (71 : Nat) "QuarrelBook$Master" "mind" "LQuarrelBook$Mind;") ∈ lw_good := lw_mem 180 (by decide +kernel) rfl
set_option maxRecDepth 100000 in
theorem q_181 : (Jvm.Cond.fieldLink "QuarrelBook$Book" (96 : Nat) "QuarrelBook$Master" "mind" "LQuarrelBook$Mind;") ∈ lw_good := lw_mem 181 (by decide +kernel) rfl
set_option maxRecDepth 100000 in
theorem q_182 : (Jvm.Cond.fieldLink "QuarrelBook" (192 : Nat) "QuarrelBook$Master" "mind" "LQuarrelBook$Mind;") ∈ lw_good := lw_mem 182 (by decide +kernel) rfl
set_option maxRecDepth 100000 in
theorem q_204 : (Jvm.Cond.static ({ cls := "java/util/Arrays", name := "fill", desc := "([II)V" } : Jvm.MethodName)) ∈ lw_good := lw_mem 204 (by decide +kernel) rfl
set_option maxRecDepth 100000 in
theorem q_205 : (Jvm.Cond.code ({ cls := "java/util/Arrays", name := "fill", desc := "([II)V" } : Jvm.MethodName) prog_18_method_103_code (4 : Nat) (Option.none : Option Jvm.ClassFile.FieldType)) ∈ lw_good := lw_mem 205 (by decide +kernel) rfl
set_option maxRecDepth 100000 in
theorem q_206 : (Jvm.Cond.fieldLink "QuarrelBook$Saying" (9 : Nat) "QuarrelBook$Saying" "master" "I") ∈ lw_good := lw_mem 206 (by decide +kernel) rfl
set_option maxRecDepth 100000 in
theorem q_207 : (Jvm.Cond.fieldLink "QuarrelBook$Page" (88 : Nat) "QuarrelBook$Saying" "master" "I") ∈ lw_good := lw_mem 207 (by decide +kernel) rfl
set_option maxRecDepth 100000 in
theorem q_208 : (Jvm.Cond.fieldLink "QuarrelBook$Book" (78 : Nat) "QuarrelBook$Saying" "master" "I") ∈ lw_good := lw_mem 208 (by decide +kernel) rfl
set_option maxRecDepth 100000 in
theorem q_209 : (Jvm.Cond.fieldLink "QuarrelBook" (279 : Nat) "QuarrelBook$Saying" "master" "I") ∈ lw_good := lw_mem 209 (by decide +kernel) rfl
set_option maxRecDepth 100000 in
theorem q_210 : (Jvm.Cond.fieldLink "QuarrelBook$Saying" (15 : Nat) "QuarrelBook$Saying" "instance" "I") ∈ lw_good := lw_mem 210 (by decide +kernel) rfl
set_option maxRecDepth 100000 in
theorem q_211 : (Jvm.Cond.fieldLink "QuarrelBook$Bench" (76 : Nat) "QuarrelBook$Saying" "instance" "I") ∈ lw_good := lw_mem 211 (by decide +kernel) rfl
set_option maxRecDepth 100000 in
theorem q_212 : (Jvm.Cond.fieldLink "QuarrelBook$Book" (81 : Nat) "QuarrelBook$Saying" "instance" "I") ∈ lw_good := lw_mem 212 (by decide +kernel) rfl
set_option maxRecDepth 100000 in
theorem q_213 : (Jvm.Cond.fieldLink "QuarrelBook$Saying" (18 : Nat) "QuarrelBook$Saying" "year" "I") ∈ lw_good := lw_mem 213 (by decide +kernel) rfl
set_option maxRecDepth 100000 in
theorem q_214 : (Jvm.Cond.fieldLink "QuarrelBook$Bench" (103 : Nat) "QuarrelBook$Saying" "year" "I") ∈ lw_good := lw_mem 214 (by decide +kernel) rfl
set_option maxRecDepth 100000 in
theorem q_215 : (Jvm.Cond.fieldLink "QuarrelBook$Page" (111 : Nat) "QuarrelBook$Saying" "year" "I") ∈ lw_good := lw_mem 215 (by decide +kernel) rfl
set_option maxRecDepth 100000 in
theorem q_216 : (Jvm.Cond.fieldLink "QuarrelBook$Book" (84 : Nat) "QuarrelBook$Saying" "year" "I") ∈ lw_good := lw_mem 216 (by decide +kernel) rfl
set_option maxRecDepth 100000 in
theorem q_217 : (Jvm.Cond.fieldLink "QuarrelBook$Saying" (21 : Nat) "QuarrelBook$Saying" "answer" "I") ∈ lw_good := lw_mem 217 (by decide +kernel) rfl
set_option maxRecDepth 100000 in
theorem q_218 : (Jvm.Cond.fieldLink "QuarrelBook$Bench" (81 : Nat) "QuarrelBook$Saying" "answer" "I") ∈ lw_good := lw_mem 218 (by decide +kernel) rfl
set_option maxRecDepth 100000 in
theorem q_219 : (Jvm.Cond.fieldLink "QuarrelBook$Book" (87 : Nat) "QuarrelBook$Saying" "answer" "I") ∈ lw_good := lw_mem 219 (by decide +kernel) rfl
set_option maxRecDepth 100000 in
theorem q_220 : (Jvm.Cond.fieldLink "QuarrelBook$Page" (125 : Nat) "QuarrelBook$Saying" "answer" "I") ∈ lw_good := lw_mem 220 (by decide +kernel) rfl
set_option maxRecDepth 100000 in
theorem q_221 : (Jvm.Cond.fieldLink "QuarrelBook" (272 : Nat) "QuarrelBook$Saying" "answer" "I") ∈ lw_good := lw_mem 221 (by decide +kernel) rfl
set_option maxRecDepth 100000 in
theorem q_222 : (Jvm.Cond.fieldLink "QuarrelBook$Saying" (24 : Nat) "QuarrelBook$Saying" "because" "I") ∈ lw_good := lw_mem 222 (by decide +kernel) rfl
set_option maxRecDepth 100000 in
theorem q_223 : (Jvm.Cond.fieldLink "QuarrelBook$Bench" (84 : Nat) "QuarrelBook$Saying" "because" "I") ∈ lw_good := lw_mem 223 (by decide +kernel) rfl
set_option maxRecDepth 100000 in
theorem q_224 : (Jvm.Cond.fieldLink "QuarrelBook$Book" (90 : Nat) "QuarrelBook$Saying" "because" "I") ∈ lw_good := lw_mem 224 (by decide +kernel) rfl
set_option maxRecDepth 100000 in
theorem q_225 : (Jvm.Cond.fieldLink "QuarrelBook$Page" (139 : Nat) "QuarrelBook$Saying" "because" "I") ∈ lw_good := lw_mem 225 (by decide +kernel) rfl
set_option maxRecDepth 100000 in
theorem q_226 : (Jvm.Cond.fieldLink "QuarrelBook$Saying" (27 : Nat) "QuarrelBook$Saying" "copies" "[I") ∈ lw_good := lw_mem 226 (by decide +kernel) rfl
set_option maxRecDepth 100000 in
theorem q_227 : (Jvm.Cond.fieldLink "QuarrelBook$Book" (180 : Nat) "QuarrelBook$Saying" "copies" "[I") ∈ lw_good := lw_mem 227 (by decide +kernel) rfl
set_option maxRecDepth 100000 in
theorem q_228 : (Jvm.Cond.fieldLink "QuarrelBook" (266 : Nat) "QuarrelBook$Saying" "copies" "[I") ∈ lw_good := lw_mem 228 (by decide +kernel) rfl
set_option maxRecDepth 100000 in
theorem q_242 : (Jvm.Cond.fieldLink "QuarrelBook$Book" (12 : Nat) "QuarrelBook$Book" "rules" "LQuarrelBook$Rules;") ∈ lw_good := lw_mem 242 (by decide +kernel) rfl
set_option maxRecDepth 100000 in
theorem q_243 : (Jvm.Cond.fieldLink "QuarrelBook$Court" (42 : Nat) "QuarrelBook$Book" "rules" "LQuarrelBook$Rules;") ∈ lw_good := lw_mem 243 (by decide +kernel) rfl
set_option maxRecDepth 100000 in
theorem q_244 : (Jvm.Cond.fieldLink "QuarrelBook$Page" (67 : Nat) "QuarrelBook$Book" "rules" "LQuarrelBook$Rules;") ∈ lw_good := lw_mem 244 (by decide +kernel) rfl
set_option maxRecDepth 100000 in
theorem q_245 : (Jvm.Cond.fieldLink "QuarrelBook" (160 : Nat) "QuarrelBook$Book" "rules" "LQuarrelBook$Rules;") ∈ lw_good := lw_mem 245 (by decide +kernel) rfl
set_option maxRecDepth 100000 in
theorem q_246 : (Jvm.Cond.fieldLink "QuarrelBook$Book" (23 : Nat) "QuarrelBook$Book" "bench" "LQuarrelBook$Bench;") ∈ lw_good := lw_mem 246 (by decide +kernel) rfl
set_option maxRecDepth 100000 in
theorem q_247 : (Jvm.Cond.fieldLink "QuarrelBook$Page" (96 : Nat) "QuarrelBook$Book" "bench" "LQuarrelBook$Bench;") ∈ lw_good := lw_mem 247 (by decide +kernel) rfl
set_option maxRecDepth 100000 in
theorem q_248 : (Jvm.Cond.fieldLink "QuarrelBook" (179 : Nat) "QuarrelBook$Book" "bench" "LQuarrelBook$Bench;") ∈ lw_good := lw_mem 248 (by decide +kernel) rfl
set_option maxRecDepth 100000 in
theorem q_249 : (Jvm.Cond.fieldLink "QuarrelBook$Book" (27 : Nat) "QuarrelBook$Book" "cases" "[I") ∈ lw_good := lw_mem 249 (by decide +kernel) rfl
set_option maxRecDepth 100000 in
theorem q_250 : (Jvm.Cond.fieldLink "QuarrelBook" (147 : Nat) "QuarrelBook$Book" "cases" "[I") ∈ lw_good := lw_mem 250 (by decide +kernel) rfl
set_option maxRecDepth 100000 in
theorem q_251 : (Jvm.Cond.fieldLink "QuarrelBook$Book" (31 : Nat) "QuarrelBook$Book" "manyCases" "I") ∈ lw_good := lw_mem 251 (by decide +kernel) rfl
set_option maxRecDepth 100000 in
theorem q_252 : (Jvm.Cond.fieldLink "QuarrelBook" (105 : Nat) "QuarrelBook$Book" "manyCases" "I") ∈ lw_good := lw_mem 252 (by decide +kernel) rfl
set_option maxRecDepth 100000 in
theorem q_253 : (Jvm.Cond.fieldLink "QuarrelBook$Book" (37 : Nat) "QuarrelBook$Book" "masters" "[LQuarrelBook$Master;") ∈ lw_good := lw_mem 253 (by decide +kernel) rfl
set_option maxRecDepth 100000 in
theorem q_254 : (Jvm.Cond.fieldLink "QuarrelBook" (245 : Nat) "QuarrelBook$Book" "masters" "[LQuarrelBook$Master;") ∈ lw_good := lw_mem 254 (by decide +kernel) rfl
set_option maxRecDepth 100000 in
theorem q_255 : (Jvm.Cond.fieldLink "QuarrelBook$Book" (41 : Nat) "QuarrelBook$Book" "manyMasters" "I") ∈ lw_good := lw_mem 255 (by decide +kernel) rfl
set_option maxRecDepth 100000 in
theorem q_256 : (Jvm.Cond.fieldLink "QuarrelBook$Court" (27 : Nat) "QuarrelBook$Book" "manyMasters" "I") ∈ lw_good := lw_mem 256 (by decide +kernel) rfl
set_option maxRecDepth 100000 in
theorem q_257 : (Jvm.Cond.fieldLink "QuarrelBook" (115 : Nat) "QuarrelBook$Book" "manyMasters" "I") ∈ lw_good := lw_mem 257 (by decide +kernel) rfl
set_option maxRecDepth 100000 in
theorem q_258 : (Jvm.Cond.fieldLink "QuarrelBook$Book" (46 : Nat) "QuarrelBook$Book" "sayings" "[LQuarrelBook$Saying;") ∈ lw_good := lw_mem 258 (by decide +kernel) rfl
set_option maxRecDepth 100000 in
theorem q_259 : (Jvm.Cond.fieldLink "QuarrelBook$Page" (54 : Nat) "QuarrelBook$Book" "sayings" "[LQuarrelBook$Saying;") ∈ lw_good := lw_mem 259 (by decide +kernel) rfl
set_option maxRecDepth 100000 in
theorem q_260 : (Jvm.Cond.fieldLink "QuarrelBook" (138 : Nat) "QuarrelBook$Book" "sayings" "[LQuarrelBook$Saying;") ∈ lw_good := lw_mem 260 (by decide +kernel) rfl
set_option maxRecDepth 100000 in
theorem q_261 : (Jvm.Cond.fieldLink "QuarrelBook$Book" (50 : Nat) "QuarrelBook$Book" "manySayings" "I") ∈ lw_good := lw_mem 261 (by decide +kernel) rfl
set_option maxRecDepth 100000 in
theorem q_262 : (Jvm.Cond.fieldLink "QuarrelBook$Page" (108 : Nat) "QuarrelBook$Book" "manySayings" "I") ∈ lw_good := lw_mem 262 (by decide +kernel) rfl
set_option maxRecDepth 100000 in
theorem q_263 : (Jvm.Cond.fieldLink "QuarrelBook" (221 : Nat) "QuarrelBook$Book" "manySayings" "I") ∈ lw_good := lw_mem 263 (by decide +kernel) rfl
set_option maxRecDepth 100000 in
theorem q_294 : (Jvm.Cond.fieldLink "QuarrelBook$Move" (9 : Nat) "QuarrelBook$Move" "kind" "I") ∈ lw_good := lw_mem 294 (by decide +kernel) rfl
set_option maxRecDepth 100000 in
theorem q_295 : (Jvm.Cond.fieldLink "QuarrelBook$Page" (45 : Nat) "QuarrelBook$Move" "kind" "I") ∈ lw_good := lw_mem 295 (by decide +kernel) rfl
set_option maxRecDepth 100000 in
theorem q_296 : (Jvm.Cond.fieldLink "QuarrelBook" (305 : Nat) "QuarrelBook$Move" "kind" "I") ∈ lw_good := lw_mem 296 (by decide +kernel) rfl
set_option maxRecDepth 100000 in
theorem q_297 : (Jvm.Cond.fieldLink "QuarrelBook$Move" (15 : Nat) "QuarrelBook$Move" "about" "I") ∈ lw_good := lw_mem 297 (by decide +kernel) rfl
set_option maxRecDepth 100000 in
theorem q_298 : (Jvm.Cond.fieldLink "QuarrelBook$Page" (48 : Nat) "QuarrelBook$Move" "about" "I") ∈ lw_good := lw_mem 298 (by decide +kernel) rfl
set_option maxRecDepth 100000 in
theorem q_299 : (Jvm.Cond.fieldLink "QuarrelBook$Move" (18 : Nat) "QuarrelBook$Move" "value" "I") ∈ lw_good := lw_mem 299 (by decide +kernel) rfl
set_option maxRecDepth 100000 in
theorem q_300 : (Jvm.Cond.fieldLink "QuarrelBook$Page" (51 : Nat) "QuarrelBook$Move" "value" "I") ∈ lw_good := lw_mem 300 (by decide +kernel) rfl
set_option maxRecDepth 100000 in
theorem q_302 : (Jvm.Cond.fieldLink "QuarrelBook$Page" (114 : Nat) "QuarrelBook$Move" "isOpen" "Z") ∈ lw_good := lw_mem 302 (by decide +kernel) rfl
set_option maxRecDepth 100000 in
theorem q_312 : (Jvm.Cond.fieldLink "QuarrelBook$Page" (11 : Nat) "QuarrelBook$Page" "moves" "[LQuarrelBook$Move;") ∈ lw_good := lw_mem 312 (by decide +kernel) rfl
set_option maxRecDepth 100000 in
theorem q_313 : (Jvm.Cond.fieldLink "QuarrelBook" (298 : Nat) "QuarrelBook$Page" "moves" "[LQuarrelBook$Move;") ∈ lw_good := lw_mem 313 (by decide +kernel) rfl
set_option maxRecDepth 100000 in
theorem q_314 : (Jvm.Cond.fieldLink "QuarrelBook$Page" (17 : Nat) "QuarrelBook$Page" "many" "I") ∈ lw_good := lw_mem 314 (by decide +kernel) rfl
set_option maxRecDepth 100000 in
theorem q_315 : (Jvm.Cond.fieldLink "QuarrelBook" (292 : Nat) "QuarrelBook$Page" "many" "I") ∈ lw_good := lw_mem 315 (by decide +kernel) rfl
set_option maxRecDepth 100000 in
theorem q_316 : (Jvm.Cond.fieldLink "QuarrelBook$Page" (21 : Nat) "QuarrelBook$Page" "open" "I") ∈ lw_good := lw_mem 316 (by decide +kernel) rfl
set_option maxRecDepth 100000 in
theorem q_317 : (Jvm.Cond.fieldLink "QuarrelBook" (319 : Nat) "QuarrelBook$Page" "open" "I") ∈ lw_good := lw_mem 317 (by decide +kernel) rfl
set_option maxRecDepth 100000 in
theorem q_318 : (Jvm.Cond.fieldLink "QuarrelBook$Page" (24 : Nat) "QuarrelBook$Page" "idle" "I") ∈ lw_good := lw_mem 318 (by decide +kernel) rfl
set_option maxRecDepth 100000 in
theorem q_319 : (Jvm.Cond.fieldLink "QuarrelBook" (316 : Nat) "QuarrelBook$Page" "idle" "I") ∈ lw_good := lw_mem 319 (by decide +kernel) rfl
set_option maxRecDepth 100000 in
theorem q_320 : (Jvm.Cond.fieldLink "QuarrelBook$Page" (27 : Nat) "QuarrelBook$Page" "book" "LQuarrelBook$Book;") ∈ lw_good := lw_mem 320 (by decide +kernel) rfl
set_option maxRecDepth 100000 in
theorem q_338 : (Jvm.Cond.fieldLink "QuarrelBook$Court" (9 : Nat) "QuarrelBook$Court" "ground" "I") ∈ lw_good := lw_mem 338 (by decide +kernel) rfl
set_option maxRecDepth 100000 in
theorem q_339 : (Jvm.Cond.fieldLink "QuarrelBook" (326 : Nat) "QuarrelBook$Court" "ground" "I") ∈ lw_good := lw_mem 339 (by decide +kernel) rfl
set_option maxRecDepth 100000 in
theorem q_340 : (Jvm.Cond.fieldLink "QuarrelBook$Court" (15 : Nat) "QuarrelBook$Court" "book" "LQuarrelBook$Book;") ∈ lw_good := lw_mem 340 (by decide +kernel) rfl
set_option maxRecDepth 100000 in
theorem q_351 : (Jvm.Cond.fieldLink "QuarrelBook$Row" (9 : Nat) "QuarrelBook$Row" "places" "[I") ∈ lw_good := lw_mem 351 (by decide +kernel) rfl
set_option maxRecDepth 100000 in
theorem q_352 : (Jvm.Cond.fieldLink "QuarrelBook" (79 : Nat) "QuarrelBook$Row" "places" "[I") ∈ lw_good := lw_mem 352 (by decide +kernel) rfl
set_option maxRecDepth 100000 in
theorem q_353 : (Jvm.Cond.fieldLink "QuarrelBook$Row" (15 : Nat) "QuarrelBook$Row" "size" "I") ∈ lw_good := lw_mem 353 (by decide +kernel) rfl
set_option maxRecDepth 100000 in
theorem q_354 : (Jvm.Cond.fieldLink "QuarrelBook" (76 : Nat) "QuarrelBook$Row" "size" "I") ∈ lw_good := lw_mem 354 (by decide +kernel) rfl
set_option maxRecDepth 100000 in
theorem q_365 : (Jvm.Cond.fieldLink "QuarrelBook$Text" (9 : Nat) "QuarrelBook$Text" "bytes" "[B") ∈ lw_good := lw_mem 365 (by decide +kernel) rfl
set_option maxRecDepth 100000 in
theorem q_366 : (Jvm.Cond.fieldLink "QuarrelBook" (101 : Nat) "QuarrelBook$Text" "bytes" "[B") ∈ lw_good := lw_mem 366 (by decide +kernel) rfl
set_option maxRecDepth 100000 in
theorem q_367 : (Jvm.Cond.fieldLink "QuarrelBook$Text" (15 : Nat) "QuarrelBook$Text" "size" "I") ∈ lw_good := lw_mem 367 (by decide +kernel) rfl
set_option maxRecDepth 100000 in
theorem q_368 : (Jvm.Cond.fieldLink "QuarrelBook" (100 : Nat) "QuarrelBook$Text" "size" "I") ∈ lw_good := lw_mem 368 (by decide +kernel) rfl
set_option maxRecDepth 100000 in
theorem q_369 : (Jvm.Cond.fieldLink "QuarrelBook$Text" (19 : Nat) "QuarrelBook$Text" "read" "I") ∈ lw_good := lw_mem 369 (by decide +kernel) rfl
set_option maxRecDepth 100000 in
theorem q_370 : (Jvm.Cond.fieldLink "QuarrelBook" (157 : Nat) "QuarrelBook$Text" "read" "I") ∈ lw_good := lw_mem 370 (by decide +kernel) rfl
set_option maxRecDepth 100000 in
theorem q_371 : (Jvm.Cond.fieldLink "QuarrelBook$Text" (22 : Nat) "QuarrelBook$Text" "place" "I") ∈ lw_good := lw_mem 371 (by decide +kernel) rfl
set_option maxRecDepth 100000 in
theorem q_382 : (Jvm.Cond.fieldLink "QuarrelBook" (11 : Nat) "QuarrelBook" "rows" "[LQuarrelBook$Row;") ∈ lw_good := lw_mem 382 (by decide +kernel) rfl
set_option maxRecDepth 100000 in
theorem q_383 : (Jvm.Cond.fieldLink "QuarrelBook" (17 : Nat) "QuarrelBook" "texts" "[LQuarrelBook$Text;") ∈ lw_good := lw_mem 383 (by decide +kernel) rfl
set_option maxRecDepth 100000 in
theorem q_384 : (Jvm.Cond.fieldLink "QuarrelBook" (24 : Nat) "QuarrelBook" "book" "LQuarrelBook$Book;") ∈ lw_good := lw_mem 384 (by decide +kernel) rfl
set_option maxRecDepth 100000 in
theorem q_385 : (Jvm.Cond.fieldLink "QuarrelBook" (33 : Nat) "QuarrelBook" "page" "LQuarrelBook$Page;") ∈ lw_good := lw_mem 385 (by decide +kernel) rfl
set_option maxRecDepth 100000 in
theorem q_386 : (Jvm.Cond.fieldLink "QuarrelBook" (40 : Nat) "QuarrelBook" "court" "LQuarrelBook$Court;") ∈ lw_good := lw_mem 386 (by decide +kernel) rfl
set_option maxRecDepth 100000 in
theorem q_387 : (Jvm.Cond.fieldLink "QuarrelBook" (44 : Nat) "QuarrelBook" "tallies" "[I") ∈ lw_good := lw_mem 387 (by decide +kernel) rfl
set_option maxRecDepth 100000 in
theorem q_388 : (Jvm.Cond.fieldLink "QuarrelBook" (48 : Nat) "QuarrelBook" "latest" "I") ∈ lw_good := lw_mem 388 (by decide +kernel) rfl
set_option maxRecDepth 100000 in
theorem q_389 : (Jvm.Cond.fieldLink "QuarrelBook" (52 : Nat) "QuarrelBook" "aside" "I") ∈ lw_good := lw_mem 389 (by decide +kernel) rfl
set_option maxRecDepth 100000 in
theorem q_390 : (Jvm.Cond.fieldLink "QuarrelBook" (55 : Nat) "QuarrelBook" "over" "J") ∈ lw_good := lw_mem 390 (by decide +kernel) rfl
set_option maxRecDepth 100000 in
theorem q_391 : (Jvm.Cond.fieldLink "QuarrelBook" (59 : Nat) "QuarrelBook" "under" "J") ∈ lw_good := lw_mem 391 (by decide +kernel) rfl
set_option maxRecDepth 100000 in
theorem q_417 : (Jvm.Cond.methodLink "QuarrelBook" (64 : Nat) ({ cls := "QuarrelBook", name := "within", desc := "(II)Z" } : Jvm.MethodName)) ∈ lw_good := lw_mem 417 (by decide +kernel) rfl
set_option maxRecDepth 100000 in
theorem q_418 : (Jvm.Cond.static ({ cls := "QuarrelBook", name := "within", desc := "(II)Z" } : Jvm.MethodName)) ∈ lw_good := lw_mem 418 (by decide +kernel) rfl
set_option maxRecDepth 100000 in
theorem q_419 : (Jvm.Cond.code ({ cls := "QuarrelBook", name := "within", desc := "(II)Z" } : Jvm.MethodName) prog_1_method_53_code (2 : Nat) (Option.some Jvm.ClassFile.FieldType.boolean)) ∈ lw_good := lw_mem 419 (by decide +kernel) rfl
set_option maxRecDepth 100000 in
theorem q_420 : (Jvm.Cond.methodLink "QuarrelBook" (68 : Nat) ({ cls := "QuarrelBook", name := "refuse", desc := "(I)I" } : Jvm.MethodName)) ∈ lw_good := lw_mem 420 (by decide +kernel) rfl
set_option maxRecDepth 100000 in
theorem q_422 : (Jvm.Cond.instanceMethod ({ cls := "QuarrelBook", name := "refuse", desc := "(I)I" } : Jvm.MethodName)) ∈ lw_good := lw_mem 422 (by decide +kernel) rfl
set_option maxRecDepth 100000 in
theorem q_423 : (Jvm.Cond.code ({ cls := "QuarrelBook", name := "refuse", desc := "(I)I" } : Jvm.MethodName) prog_1_method_56_code (2 : Nat) (Option.some Jvm.ClassFile.FieldType.int)) ∈ lw_good := lw_mem 423 (by decide +kernel) rfl
set_option maxRecDepth 100000 in
theorem q_424 : (Jvm.Cond.methodLink "QuarrelBook" (72 : Nat) ({ cls := "QuarrelBook$Row", name := "renew", desc := "(I)V" } : Jvm.MethodName)) ∈ lw_good := lw_mem 424 (by decide +kernel) rfl
set_option maxRecDepth 100000 in
theorem q_425 : (Jvm.Cond.instanceMethod ({ cls := "QuarrelBook$Row", name := "renew", desc := "(I)V" } : Jvm.MethodName)) ∈ lw_good := lw_mem 425 (by decide +kernel) rfl
set_option maxRecDepth 100000 in
theorem q_426 : (Jvm.Cond.selects "QuarrelBook$Row" ({ cls := "QuarrelBook$Row", name := "renew", desc := "(I)V" } : Jvm.MethodName) ({ cls := "QuarrelBook$Row", name := "renew", desc := "(I)V" } : Jvm.MethodName)) ∈ lw_good := lw_mem 426 (by decide +kernel) rfl
set_option maxRecDepth 100000 in
theorem q_427 : (Jvm.Cond.code ({ cls := "QuarrelBook$Row", name := "renew", desc := "(I)V" } : Jvm.MethodName) prog_9_method_2_code (2 : Nat) (Option.none : Option Jvm.ClassFile.FieldType)) ∈ lw_good := lw_mem 427 (by decide +kernel) rfl
set_option maxRecDepth 100000 in
theorem q_428 : (Jvm.Cond.methodLink "QuarrelBook$Row" (19 : Nat) ({ cls := "java/util/Arrays", name := "fill", desc := "([II)V" } : Jvm.MethodName)) ∈ lw_good := lw_mem 428 (by decide +kernel) rfl
set_option maxRecDepth 100000 in
theorem q_433 : (Jvm.Cond.methodLink "QuarrelBook" (82 : Nat) ({ cls := "QuarrelBook", name := "tell", desc := "(II)I" } : Jvm.MethodName)) ∈ lw_good := lw_mem 433 (by decide +kernel) rfl
set_option maxRecDepth 100000 in
theorem q_435 : (Jvm.Cond.instanceMethod ({ cls := "QuarrelBook", name := "tell", desc := "(II)I" } : Jvm.MethodName)) ∈ lw_good := lw_mem 435 (by decide +kernel) rfl
set_option maxRecDepth 100000 in
theorem q_436 : (Jvm.Cond.code ({ cls := "QuarrelBook", name := "tell", desc := "(II)I" } : Jvm.MethodName) prog_1_method_57_code (3 : Nat) (Option.some Jvm.ClassFile.FieldType.int)) ∈ lw_good := lw_mem 436 (by decide +kernel) rfl
set_option maxRecDepth 100000 in
theorem q_445 : (Jvm.Cond.methodLink "QuarrelBook" (86 : Nat) ({ cls := "QuarrelBook$Row", name := "hasPlaces", desc := "(II)Z" } : Jvm.MethodName)) ∈ lw_good := lw_mem 445 (by decide +kernel) rfl
set_option maxRecDepth 100000 in
theorem q_446 : (Jvm.Cond.instanceMethod ({ cls := "QuarrelBook$Row", name := "hasPlaces", desc := "(II)Z" } : Jvm.MethodName)) ∈ lw_good := lw_mem 446 (by decide +kernel) rfl
set_option maxRecDepth 100000 in
theorem q_447 : (Jvm.Cond.selects "QuarrelBook$Row" ({ cls := "QuarrelBook$Row", name := "hasPlaces", desc := "(II)Z" } : Jvm.MethodName) ({ cls := "QuarrelBook$Row", name := "hasPlaces", desc := "(II)Z" } : Jvm.MethodName)) ∈ lw_good := lw_mem 447 (by decide +kernel) rfl
set_option maxRecDepth 100000 in
theorem q_448 : (Jvm.Cond.code ({ cls := "QuarrelBook$Row", name := "hasPlaces", desc := "(II)Z" } : Jvm.MethodName) prog_9_method_3_code (3 : Nat) (Option.some Jvm.ClassFile.FieldType.boolean)) ∈ lw_good := lw_mem 448 (by decide +kernel) rfl
set_option maxRecDepth 100000 in
theorem q_449 : (Jvm.Cond.methodLink "QuarrelBook" (89 : Nat) ({ cls := "java/lang/System", name := "arraycopy", desc := "(Ljava/lang/Object;ILjava/lang/Object;II)V" } : Jvm.MethodName)) ∈ lw_good := lw_mem 449 (by decide +kernel) rfl
set_option maxRecDepth 100000 in
theorem q_450 : (Jvm.Cond.static ({ cls := "java/lang/System", name := "arraycopy", desc := "(Ljava/lang/Object;ILjava/lang/Object;II)V" } : Jvm.MethodName)) ∈ lw_good := lw_mem 450 (by decide +kernel) rfl
set_option maxRecDepth 100000 in
theorem q_451 : (Jvm.Cond.native ({ cls := "java/lang/System", name := "arraycopy", desc := "(Ljava/lang/Object;ILjava/lang/Object;II)V" } : Jvm.MethodName)) ∈ lw_good := lw_mem 451 (by decide +kernel) rfl
set_option maxRecDepth 100000 in
theorem q_456 : (Jvm.Cond.methodLink "QuarrelBook" (95 : Nat) ({ cls := "QuarrelBook$Row", name := "sum", desc := "()J" } : Jvm.MethodName)) ∈ lw_good := lw_mem 456 (by decide +kernel) rfl
set_option maxRecDepth 100000 in
theorem q_457 : (Jvm.Cond.instanceMethod ({ cls := "QuarrelBook$Row", name := "sum", desc := "()J" } : Jvm.MethodName)) ∈ lw_good := lw_mem 457 (by decide +kernel) rfl
set_option maxRecDepth 100000 in
theorem q_458 : (Jvm.Cond.selects "QuarrelBook$Row" ({ cls := "QuarrelBook$Row", name := "sum", desc := "()J" } : Jvm.MethodName) ({ cls := "QuarrelBook$Row", name := "sum", desc := "()J" } : Jvm.MethodName)) ∈ lw_good := lw_mem 458 (by decide +kernel) rfl
set_option maxRecDepth 100000 in
theorem q_459 : (Jvm.Cond.code ({ cls := "QuarrelBook$Row", name := "sum", desc := "()J" } : Jvm.MethodName) prog_9_method_4_code (4 : Nat) (Option.some Jvm.ClassFile.FieldType.long)) ∈ lw_good := lw_mem 459 (by decide +kernel) rfl
set_option maxRecDepth 100000 in
theorem q_464 : (Jvm.Cond.methodLink "QuarrelBook" (99 : Nat) ({ cls := "QuarrelBook$Text", name := "renew", desc := "(I)V" } : Jvm.MethodName)) ∈ lw_good := lw_mem 464 (by decide +kernel) rfl
set_option maxRecDepth 100000 in
theorem q_465 : (Jvm.Cond.instanceMethod ({ cls := "QuarrelBook$Text", name := "renew", desc := "(I)V" } : Jvm.MethodName)) ∈ lw_good := lw_mem 465 (by decide +kernel) rfl
set_option maxRecDepth 100000 in
theorem q_466 : (Jvm.Cond.selects "QuarrelBook$Text" ({ cls := "QuarrelBook$Text", name := "renew", desc := "(I)V" } : Jvm.MethodName) ({ cls := "QuarrelBook$Text", name := "renew", desc := "(I)V" } : Jvm.MethodName)) ∈ lw_good := lw_mem 466 (by decide +kernel) rfl
set_option maxRecDepth 100000 in
theorem q_467 : (Jvm.Cond.code ({ cls := "QuarrelBook$Text", name := "renew", desc := "(I)V" } : Jvm.MethodName) prog_12_method_2_code (2 : Nat) (Option.none : Option Jvm.ClassFile.FieldType)) ∈ lw_good := lw_mem 467 (by decide +kernel) rfl
set_option maxRecDepth 100000 in
theorem q_468 : (Jvm.Cond.methodLink "QuarrelBook$Text" (25 : Nat) ({ cls := "java/util/Arrays", name := "fill", desc := "([BB)V" } : Jvm.MethodName)) ∈ lw_good := lw_mem 468 (by decide +kernel) rfl
set_option maxRecDepth 100000 in
theorem q_469 : (Jvm.Cond.static ({ cls := "java/util/Arrays", name := "fill", desc := "([BB)V" } : Jvm.MethodName)) ∈ lw_good := lw_mem 469 (by decide +kernel) rfl
set_option maxRecDepth 100000 in
theorem q_470 : (Jvm.Cond.code ({ cls := "java/util/Arrays", name := "fill", desc := "([BB)V" } : Jvm.MethodName) prog_18_method_109_code (4 : Nat) (Option.none : Option Jvm.ClassFile.FieldType)) ∈ lw_good := lw_mem 470 (by decide +kernel) rfl
set_option maxRecDepth 100000 in
theorem q_479 : (Jvm.Cond.methodLink "QuarrelBook" (108 : Nat) ({ cls := "QuarrelBook$Book", name := "addCase", desc := "(I)I" } : Jvm.MethodName)) ∈ lw_good := lw_mem 479 (by decide +kernel) rfl
set_option maxRecDepth 100000 in
theorem q_480 : (Jvm.Cond.instanceMethod ({ cls := "QuarrelBook$Book", name := "addCase", desc := "(I)I" } : Jvm.MethodName)) ∈ lw_good := lw_mem 480 (by decide +kernel) rfl
set_option maxRecDepth 100000 in
theorem q_481 : (Jvm.Cond.selects "QuarrelBook$Book" ({ cls := "QuarrelBook$Book", name := "addCase", desc := "(I)I" } : Jvm.MethodName) ({ cls := "QuarrelBook$Book", name := "addCase", desc := "(I)I" } : Jvm.MethodName)) ∈ lw_good := lw_mem 481 (by decide +kernel) rfl
set_option maxRecDepth 100000 in
theorem q_482 : (Jvm.Cond.code ({ cls := "QuarrelBook$Book", name := "addCase", desc := "(I)I" } : Jvm.MethodName) prog_3_method_7_code (2 : Nat) (Option.some Jvm.ClassFile.FieldType.int)) ∈ lw_good := lw_mem 482 (by decide +kernel) rfl
set_option maxRecDepth 100000 in
theorem q_487 : (Jvm.Cond.methodLink "QuarrelBook" (111 : Nat) ({ cls := "QuarrelBook$Book", name := "hasMaster", desc := "(I)Z" } : Jvm.MethodName)) ∈ lw_good := lw_mem 487 (by decide +kernel) rfl
set_option maxRecDepth 100000 in
theorem q_488 : (Jvm.Cond.instanceMethod ({ cls := "QuarrelBook$Book", name := "hasMaster", desc := "(I)Z" } : Jvm.MethodName)) ∈ lw_good := lw_mem 488 (by decide +kernel) rfl
set_option maxRecDepth 100000 in
theorem q_489 : (Jvm.Cond.selects "QuarrelBook$Book" ({ cls := "QuarrelBook$Book", name := "hasMaster", desc := "(I)Z" } : Jvm.MethodName) ({ cls := "QuarrelBook$Book", name := "hasMaster", desc := "(I)Z" } : Jvm.MethodName)) ∈ lw_good := lw_mem 489 (by decide +kernel) rfl
set_option maxRecDepth 100000 in
theorem q_490 : (Jvm.Cond.code ({ cls := "QuarrelBook$Book", name := "hasMaster", desc := "(I)Z" } : Jvm.MethodName) prog_3_method_3_code (2 : Nat) (Option.some Jvm.ClassFile.FieldType.boolean)) ∈ lw_good := lw_mem 490 (by decide +kernel) rfl
set_option maxRecDepth 100000 in
theorem q_492 : (Jvm.Cond.methodLink "QuarrelBook" (118 : Nat) ({ cls := "QuarrelBook$Book", name := "addMaster", desc := "(III)I" } : Jvm.MethodName)) ∈ lw_good := lw_mem 492 (by decide +kernel) rfl
set_option maxRecDepth 100000 in
theorem q_493 : (Jvm.Cond.instanceMethod ({ cls := "QuarrelBook$Book", name := "addMaster", desc := "(III)I" } : Jvm.MethodName)) ∈ lw_good := lw_mem 493 (by decide +kernel) rfl
set_option maxRecDepth 100000 in
theorem q_494 : (Jvm.Cond.selects "QuarrelBook$Book" ({ cls := "QuarrelBook$Book", name := "addMaster", desc := "(III)I" } : Jvm.MethodName) ({ cls := "QuarrelBook$Book", name := "addMaster", desc := "(III)I" } : Jvm.MethodName)) ∈ lw_good := lw_mem 494 (by decide +kernel) rfl
set_option maxRecDepth 100000 in
theorem q_495 : (Jvm.Cond.code ({ cls := "QuarrelBook$Book", name := "addMaster", desc := "(III)I" } : Jvm.MethodName) prog_3_method_8_code (5 : Nat) (Option.some Jvm.ClassFile.FieldType.int)) ∈ lw_good := lw_mem 495 (by decide +kernel) rfl
set_option maxRecDepth 100000 in
theorem q_500 : (Jvm.Cond.methodLink "QuarrelBook" (122 : Nat) ({ cls := "QuarrelBook$Book", name := "hasYear", desc := "(II)Z" } : Jvm.MethodName)) ∈ lw_good := lw_mem 500 (by decide +kernel) rfl
set_option maxRecDepth 100000 in
theorem q_501 : (Jvm.Cond.instanceMethod ({ cls := "QuarrelBook$Book", name := "hasYear", desc := "(II)Z" } : Jvm.MethodName)) ∈ lw_good := lw_mem 501 (by decide +kernel) rfl
set_option maxRecDepth 100000 in
theorem q_502 : (Jvm.Cond.selects "QuarrelBook$Book" ({ cls := "QuarrelBook$Book", name := "hasYear", desc := "(II)Z" } : Jvm.MethodName) ({ cls := "QuarrelBook$Book", name := "hasYear", desc := "(II)Z" } : Jvm.MethodName)) ∈ lw_good := lw_mem 502 (by decide +kernel) rfl
set_option maxRecDepth 100000 in
theorem q_503 : (Jvm.Cond.code ({ cls := "QuarrelBook$Book", name := "hasYear", desc := "(II)Z" } : Jvm.MethodName) prog_3_method_5_code (3 : Nat) (Option.some Jvm.ClassFile.FieldType.boolean)) ∈ lw_good := lw_mem 503 (by decide +kernel) rfl
set_option maxRecDepth 100000 in
theorem q_504 : (Jvm.Cond.methodLink "QuarrelBook$Book" (59 : Nat) ({ cls := "QuarrelBook$Book", name := "hasMaster", desc := "(I)Z" } : Jvm.MethodName)) ∈ lw_good := lw_mem 504 (by decide +kernel) rfl
set_option maxRecDepth 100000 in
theorem q_505 : (Jvm.Cond.methodLink "QuarrelBook" (125 : Nat) ({ cls := "QuarrelBook$Book", name := "hasCase", desc := "(I)Z" } : Jvm.MethodName)) ∈ lw_good := lw_mem 505 (by decide +kernel) rfl
set_option maxRecDepth 100000 in
theorem q_506 : (Jvm.Cond.instanceMethod ({ cls := "QuarrelBook$Book", name := "hasCase", desc := "(I)Z" } : Jvm.MethodName)) ∈ lw_good := lw_mem 506 (by decide +kernel) rfl
set_option maxRecDepth 100000 in
theorem q_507 : (Jvm.Cond.selects "QuarrelBook$Book" ({ cls := "QuarrelBook$Book", name := "hasCase", desc := "(I)Z" } : Jvm.MethodName) ({ cls := "QuarrelBook$Book", name := "hasCase", desc := "(I)Z" } : Jvm.MethodName)) ∈ lw_good := lw_mem 507 (by decide +kernel) rfl
set_option maxRecDepth 100000 in
theorem q_508 : (Jvm.Cond.code ({ cls := "QuarrelBook$Book", name := "hasCase", desc := "(I)Z" } : Jvm.MethodName) prog_3_method_2_code (2 : Nat) (Option.some Jvm.ClassFile.FieldType.boolean)) ∈ lw_good := lw_mem 508 (by decide +kernel) rfl
set_option maxRecDepth 100000 in
theorem q_509 : (Jvm.Cond.methodLink "QuarrelBook" (128 : Nat) ({ cls := "QuarrelBook$Book", name := "hasRoom", desc := "(II)Z" } : Jvm.MethodName)) ∈ lw_good := lw_mem 509 (by decide +kernel) rfl
set_option maxRecDepth 100000 in
theorem q_510 : (Jvm.Cond.instanceMethod ({ cls := "QuarrelBook$Book", name := "hasRoom", desc := "(II)Z" } : Jvm.MethodName)) ∈ lw_good := lw_mem 510 (by decide +kernel) rfl
set_option maxRecDepth 100000 in
theorem q_511 : (Jvm.Cond.selects "QuarrelBook$Book" ({ cls := "QuarrelBook$Book", name := "hasRoom", desc := "(II)Z" } : Jvm.MethodName) ({ cls := "QuarrelBook$Book", name := "hasRoom", desc := "(II)Z" } : Jvm.MethodName)) ∈ lw_good := lw_mem 511 (by decide +kernel) rfl
set_option maxRecDepth 100000 in
theorem q_512 : (Jvm.Cond.code ({ cls := "QuarrelBook$Book", name := "hasRoom", desc := "(II)Z" } : Jvm.MethodName) prog_3_method_6_code (3 : Nat) (Option.some Jvm.ClassFile.FieldType.boolean)) ∈ lw_good := lw_mem 512 (by decide +kernel) rfl
set_option maxRecDepth 100000 in
theorem q_513 : (Jvm.Cond.methodLink "QuarrelBook" (131 : Nat) ({ cls := "QuarrelBook$Book", name := "addSaying", desc := "(IIIII)I" } : Jvm.MethodName)) ∈ lw_good := lw_mem 513 (by decide +kernel) rfl
set_option maxRecDepth 100000 in
theorem q_514 : (Jvm.Cond.instanceMethod ({ cls := "QuarrelBook$Book", name := "addSaying", desc := "(IIIII)I" } : Jvm.MethodName)) ∈ lw_good := lw_mem 514 (by decide +kernel) rfl
set_option maxRecDepth 100000 in
theorem q_515 : (Jvm.Cond.selects "QuarrelBook$Book" ({ cls := "QuarrelBook$Book", name := "addSaying", desc := "(IIIII)I" } : Jvm.MethodName) ({ cls := "QuarrelBook$Book", name := "addSaying", desc := "(IIIII)I" } : Jvm.MethodName)) ∈ lw_good := lw_mem 515 (by decide +kernel) rfl
set_option maxRecDepth 100000 in
theorem q_516 : (Jvm.Cond.code ({ cls := "QuarrelBook$Book", name := "addSaying", desc := "(IIIII)I" } : Jvm.MethodName) prog_3_method_9_code (8 : Nat) (Option.some Jvm.ClassFile.FieldType.int)) ∈ lw_good := lw_mem 516 (by decide +kernel) rfl
set_option maxRecDepth 100000 in
theorem q_525 : (Jvm.Cond.methodLink "QuarrelBook" (135 : Nat) ({ cls := "QuarrelBook$Book", name := "hasSaying", desc := "(I)Z" } : Jvm.MethodName)) ∈ lw_good := lw_mem 525 (by decide +kernel) rfl
set_option maxRecDepth 100000 in
theorem q_526 : (Jvm.Cond.instanceMethod ({ cls := "QuarrelBook$Book", name := "hasSaying", desc := "(I)Z" } : Jvm.MethodName)) ∈ lw_good := lw_mem 526 (by decide +kernel) rfl
set_option maxRecDepth 100000 in
theorem q_527 : (Jvm.Cond.selects "QuarrelBook$Book" ({ cls := "QuarrelBook$Book", name := "hasSaying", desc := "(I)Z" } : Jvm.MethodName) ({ cls := "QuarrelBook$Book", name := "hasSaying", desc := "(I)Z" } : Jvm.MethodName)) ∈ lw_good := lw_mem 527 (by decide +kernel) rfl
set_option maxRecDepth 100000 in
theorem q_528 : (Jvm.Cond.code ({ cls := "QuarrelBook$Book", name := "hasSaying", desc := "(I)Z" } : Jvm.MethodName) prog_3_method_4_code (2 : Nat) (Option.some Jvm.ClassFile.FieldType.boolean)) ∈ lw_good := lw_mem 528 (by decide +kernel) rfl
set_option maxRecDepth 100000 in
theorem q_529 : (Jvm.Cond.methodLink "QuarrelBook" (142 : Nat) ({ cls := "QuarrelBook$Saying", name := "figure", desc := "(I)I" } : Jvm.MethodName)) ∈ lw_good := lw_mem 529 (by decide +kernel) rfl
set_option maxRecDepth 100000 in
theorem q_530 : (Jvm.Cond.instanceMethod ({ cls := "QuarrelBook$Saying", name := "figure", desc := "(I)I" } : Jvm.MethodName)) ∈ lw_good := lw_mem 530 (by decide +kernel) rfl
set_option maxRecDepth 100000 in
theorem q_531 : (Jvm.Cond.selects "QuarrelBook$Saying" ({ cls := "QuarrelBook$Saying", name := "figure", desc := "(I)I" } : Jvm.MethodName) ({ cls := "QuarrelBook$Saying", name := "figure", desc := "(I)I" } : Jvm.MethodName)) ∈ lw_good := lw_mem 531 (by decide +kernel) rfl
set_option maxRecDepth 100000 in
theorem q_532 : (Jvm.Cond.code ({ cls := "QuarrelBook$Saying", name := "figure", desc := "(I)I" } : Jvm.MethodName) prog_11_method_2_code (2 : Nat) (Option.some Jvm.ClassFile.FieldType.int)) ∈ lw_good := lw_mem 532 (by decide +kernel) rfl
set_option maxRecDepth 100000 in
theorem q_541 : (Jvm.Cond.methodLink "QuarrelBook" (150 : Nat) ({ cls := "QuarrelBook$Book", name := "lifeFigure", desc := "(II)I" } : Jvm.MethodName)) ∈ lw_good := lw_mem 541 (by decide +kernel) rfl
set_option maxRecDepth 100000 in
theorem q_542 : (Jvm.Cond.instanceMethod ({ cls := "QuarrelBook$Book", name := "lifeFigure", desc := "(II)I" } : Jvm.MethodName)) ∈ lw_good := lw_mem 542 (by decide +kernel) rfl
set_option maxRecDepth 100000 in
theorem q_543 : (Jvm.Cond.selects "QuarrelBook$Book" ({ cls := "QuarrelBook$Book", name := "lifeFigure", desc := "(II)I" } : Jvm.MethodName) ({ cls := "QuarrelBook$Book", name := "lifeFigure", desc := "(II)I" } : Jvm.MethodName)) ∈ lw_good := lw_mem 543 (by decide +kernel) rfl
set_option maxRecDepth 100000 in
theorem q_544 : (Jvm.Cond.code ({ cls := "QuarrelBook$Book", name := "lifeFigure", desc := "(II)I" } : Jvm.MethodName) prog_3_method_11_code (4 : Nat) (Option.some Jvm.ClassFile.FieldType.int)) ∈ lw_good := lw_mem 544 (by decide +kernel) rfl
set_option maxRecDepth 100000 in
theorem q_545 : (Jvm.Cond.methodLink "QuarrelBook$Book" (115 : Nat) ({ cls := "QuarrelBook$Book", name := "pupils", desc := "(I)I" } : Jvm.MethodName)) ∈ lw_good := lw_mem 545 (by decide +kernel) rfl
set_option maxRecDepth 100000 in
theorem q_546 : (Jvm.Cond.instanceMethod ({ cls := "QuarrelBook$Book", name := "pupils", desc := "(I)I" } : Jvm.MethodName)) ∈ lw_good := lw_mem 546 (by decide +kernel) rfl
set_option maxRecDepth 100000 in
theorem q_547 : (Jvm.Cond.selects "QuarrelBook$Book" ({ cls := "QuarrelBook$Book", name := "pupils", desc := "(I)I" } : Jvm.MethodName) ({ cls := "QuarrelBook$Book", name := "pupils", desc := "(I)I" } : Jvm.MethodName)) ∈ lw_good := lw_mem 547 (by decide +kernel) rfl
set_option maxRecDepth 100000 in
theorem q_548 : (Jvm.Cond.code ({ cls := "QuarrelBook$Book", name := "pupils", desc := "(I)I" } : Jvm.MethodName) prog_3_method_12_code (4 : Nat) (Option.some Jvm.ClassFile.FieldType.int)) ∈ lw_good := lw_mem 548 (by decide +kernel) rfl
set_option maxRecDepth 100000 in
theorem q_553 : (Jvm.Cond.methodLink "QuarrelBook" (153 : Nat) ({ cls := "QuarrelBook$Text", name := "readRule", desc := "()I" } : Jvm.MethodName)) ∈ lw_good := lw_mem 553 (by decide +kernel) rfl
set_option maxRecDepth 100000 in
theorem q_554 : (Jvm.Cond.instanceMethod ({ cls := "QuarrelBook$Text", name := "readRule", desc := "()I" } : Jvm.MethodName)) ∈ lw_good := lw_mem 554 (by decide +kernel) rfl
set_option maxRecDepth 100000 in
theorem q_555 : (Jvm.Cond.selects "QuarrelBook$Text" ({ cls := "QuarrelBook$Text", name := "readRule", desc := "()I" } : Jvm.MethodName) ({ cls := "QuarrelBook$Text", name := "readRule", desc := "()I" } : Jvm.MethodName)) ∈ lw_good := lw_mem 555 (by decide +kernel) rfl
set_option maxRecDepth 100000 in
theorem q_556 : (Jvm.Cond.code ({ cls := "QuarrelBook$Text", name := "readRule", desc := "()I" } : Jvm.MethodName) prog_12_method_3_code (2 : Nat) (Option.some Jvm.ClassFile.FieldType.int)) ∈ lw_good := lw_mem 556 (by decide +kernel) rfl
set_option maxRecDepth 100000 in
theorem q_557 : (Jvm.Cond.methodLink "QuarrelBook$Text" (31 : Nat) ({ cls := "QuarrelBook$Text", name := "skipBlanks", desc := "()V" } : Jvm.MethodName)) ∈ lw_good := lw_mem 557 (by decide +kernel) rfl
set_option maxRecDepth 100000 in
theorem q_559 : (Jvm.Cond.instanceMethod ({ cls := "QuarrelBook$Text", name := "skipBlanks", desc := "()V" } : Jvm.MethodName)) ∈ lw_good := lw_mem 559 (by decide +kernel) rfl
set_option maxRecDepth 100000 in
theorem q_560 : (Jvm.Cond.code ({ cls := "QuarrelBook$Text", name := "skipBlanks", desc := "()V" } : Jvm.MethodName) prog_12_method_5_code (1 : Nat) (Option.none : Option Jvm.ClassFile.FieldType)) ∈ lw_good := lw_mem 560 (by decide +kernel) rfl
set_option maxRecDepth 100000 in
theorem q_561 : (Jvm.Cond.methodLink "QuarrelBook$Text" (34 : Nat) ({ cls := "QuarrelBook$Text", name := "signHere", desc := "()I" } : Jvm.MethodName)) ∈ lw_good := lw_mem 561 (by decide +kernel) rfl
set_option maxRecDepth 100000 in
theorem q_563 : (Jvm.Cond.instanceMethod ({ cls := "QuarrelBook$Text", name := "signHere", desc := "()I" } : Jvm.MethodName)) ∈ lw_good := lw_mem 563 (by decide +kernel) rfl
set_option maxRecDepth 100000 in
theorem q_564 : (Jvm.Cond.code ({ cls := "QuarrelBook$Text", name := "signHere", desc := "()I" } : Jvm.MethodName) prog_12_method_6_code (1 : Nat) (Option.some Jvm.ClassFile.FieldType.int)) ∈ lw_good := lw_mem 564 (by decide +kernel) rfl
set_option maxRecDepth 100000 in
theorem q_565 : (Jvm.Cond.methodLink "QuarrelBook$Text" (38 : Nat) ({ cls := "QuarrelBook$Text", name := "readLetters", desc := "()Z" } : Jvm.MethodName)) ∈ lw_good := lw_mem 565 (by decide +kernel) rfl
set_option maxRecDepth 100000 in
theorem q_567 : (Jvm.Cond.instanceMethod ({ cls := "QuarrelBook$Text", name := "readLetters", desc := "()Z" } : Jvm.MethodName)) ∈ lw_good := lw_mem 567 (by decide +kernel) rfl
set_option maxRecDepth 100000 in
theorem q_568 : (Jvm.Cond.code ({ cls := "QuarrelBook$Text", name := "readLetters", desc := "()Z" } : Jvm.MethodName) prog_12_method_4_code (4 : Nat) (Option.some Jvm.ClassFile.FieldType.boolean)) ∈ lw_good := lw_mem 568 (by decide +kernel) rfl
set_option maxRecDepth 100000 in
theorem q_578 : (Jvm.Cond.methodLink "QuarrelBook" (164 : Nat) ({ cls := "QuarrelBook$Rules", name := "verdict", desc := "(II)I" } : Jvm.MethodName)) ∈ lw_good := lw_mem 578 (by decide +kernel) rfl
set_option maxRecDepth 100000 in
theorem q_579 : (Jvm.Cond.instanceMethod ({ cls := "QuarrelBook$Rules", name := "verdict", desc := "(II)I" } : Jvm.MethodName)) ∈ lw_good := lw_mem 579 (by decide +kernel) rfl
set_option maxRecDepth 100000 in
theorem q_580 : (Jvm.Cond.selects "QuarrelBook$Rules" ({ cls := "QuarrelBook$Rules", name := "verdict", desc := "(II)I" } : Jvm.MethodName) ({ cls := "QuarrelBook$Rules", name := "verdict", desc := "(II)I" } : Jvm.MethodName)) ∈ lw_good := lw_mem 580 (by decide +kernel) rfl
set_option maxRecDepth 100000 in
theorem q_581 : (Jvm.Cond.code ({ cls := "QuarrelBook$Rules", name := "verdict", desc := "(II)I" } : Jvm.MethodName) prog_10_method_2_code (3 : Nat) (Option.some Jvm.ClassFile.FieldType.int)) ∈ lw_good := lw_mem 581 (by decide +kernel) rfl
set_option maxRecDepth 100000 in
theorem q_586 : (Jvm.Cond.methodLink "QuarrelBook" (169 : Nat) ({ cls := "QuarrelBook$Book", name := "strainOf", desc := "(II)I" } : Jvm.MethodName)) ∈ lw_good := lw_mem 586 (by decide +kernel) rfl
set_option maxRecDepth 100000 in
theorem q_587 : (Jvm.Cond.instanceMethod ({ cls := "QuarrelBook$Book", name := "strainOf", desc := "(II)I" } : Jvm.MethodName)) ∈ lw_good := lw_mem 587 (by decide +kernel) rfl
set_option maxRecDepth 100000 in
theorem q_588 : (Jvm.Cond.selects "QuarrelBook$Book" ({ cls := "QuarrelBook$Book", name := "strainOf", desc := "(II)I" } : Jvm.MethodName) ({ cls := "QuarrelBook$Book", name := "strainOf", desc := "(II)I" } : Jvm.MethodName)) ∈ lw_good := lw_mem 588 (by decide +kernel) rfl
set_option maxRecDepth 100000 in
theorem q_589 : (Jvm.Cond.code ({ cls := "QuarrelBook$Book", name := "strainOf", desc := "(II)I" } : Jvm.MethodName) prog_3_method_14_code (4 : Nat) (Option.some Jvm.ClassFile.FieldType.int)) ∈ lw_good := lw_mem 589 (by decide +kernel) rfl
set_option maxRecDepth 100000 in
theorem q_590 : (Jvm.Cond.methodLink "QuarrelBook$Book" (119 : Nat) ({ cls := "QuarrelBook$Book", name := "caseTraits", desc := "(I)I" } : Jvm.MethodName)) ∈ lw_good := lw_mem 590 (by decide +kernel) rfl
set_option maxRecDepth 100000 in
theorem q_591 : (Jvm.Cond.instanceMethod ({ cls := "QuarrelBook$Book", name := "caseTraits", desc := "(I)I" } : Jvm.MethodName)) ∈ lw_good := lw_mem 591 (by decide +kernel) rfl
set_option maxRecDepth 100000 in
theorem q_592 : (Jvm.Cond.selects "QuarrelBook$Book" ({ cls := "QuarrelBook$Book", name := "caseTraits", desc := "(I)I" } : Jvm.MethodName) ({ cls := "QuarrelBook$Book", name := "caseTraits", desc := "(I)I" } : Jvm.MethodName)) ∈ lw_good := lw_mem 592 (by decide +kernel) rfl
set_option maxRecDepth 100000 in
theorem q_593 : (Jvm.Cond.code ({ cls := "QuarrelBook$Book", name := "caseTraits", desc := "(I)I" } : Jvm.MethodName) prog_3_method_13_code (2 : Nat) (Option.some Jvm.ClassFile.FieldType.int)) ∈ lw_good := lw_mem 593 (by decide +kernel) rfl
set_option maxRecDepth 100000 in
theorem q_594 : (Jvm.Cond.methodLink "QuarrelBook$Book" (122 : Nat) ({ cls := "QuarrelBook$Rules", name := "strain", desc := "(IIII)I" } : Jvm.MethodName)) ∈ lw_good := lw_mem 594 (by decide +kernel) rfl
set_option maxRecDepth 100000 in
theorem q_595 : (Jvm.Cond.instanceMethod ({ cls := "QuarrelBook$Rules", name := "strain", desc := "(IIII)I" } : Jvm.MethodName)) ∈ lw_good := lw_mem 595 (by decide +kernel) rfl
set_option maxRecDepth 100000 in
theorem q_596 : (Jvm.Cond.selects "QuarrelBook$Rules" ({ cls := "QuarrelBook$Rules", name := "strain", desc := "(IIII)I" } : Jvm.MethodName) ({ cls := "QuarrelBook$Rules", name := "strain", desc := "(IIII)I" } : Jvm.MethodName)) ∈ lw_good := lw_mem 596 (by decide +kernel) rfl
set_option maxRecDepth 100000 in
theorem q_597 : (Jvm.Cond.code ({ cls := "QuarrelBook$Rules", name := "strain", desc := "(IIII)I" } : Jvm.MethodName) prog_10_method_5_code (6 : Nat) (Option.some Jvm.ClassFile.FieldType.int)) ∈ lw_good := lw_mem 597 (by decide +kernel) rfl
set_option maxRecDepth 100000 in
theorem q_598 : (Jvm.Cond.methodLink "QuarrelBook$Rules" (28 : Nat) ({ cls := "QuarrelBook$Rules", name := "looksAt", desc := "(II)Z" } : Jvm.MethodName)) ∈ lw_good := lw_mem 598 (by decide +kernel) rfl
set_option maxRecDepth 100000 in
theorem q_599 : (Jvm.Cond.instanceMethod ({ cls := "QuarrelBook$Rules", name := "looksAt", desc := "(II)Z" } : Jvm.MethodName)) ∈ lw_good := lw_mem 599 (by decide +kernel) rfl
set_option maxRecDepth 100000 in
theorem q_600 : (Jvm.Cond.selects "QuarrelBook$Rules" ({ cls := "QuarrelBook$Rules", name := "looksAt", desc := "(II)Z" } : Jvm.MethodName) ({ cls := "QuarrelBook$Rules", name := "looksAt", desc := "(II)Z" } : Jvm.MethodName)) ∈ lw_good := lw_mem 600 (by decide +kernel) rfl
set_option maxRecDepth 100000 in
theorem q_601 : (Jvm.Cond.code ({ cls := "QuarrelBook$Rules", name := "looksAt", desc := "(II)Z" } : Jvm.MethodName) prog_10_method_3_code (3 : Nat) (Option.some Jvm.ClassFile.FieldType.boolean)) ∈ lw_good := lw_mem 601 (by decide +kernel) rfl
set_option maxRecDepth 100000 in
theorem q_602 : (Jvm.Cond.methodLink "QuarrelBook$Rules" (24 : Nat) ({ cls := "QuarrelBook$Rules", name := "verdict", desc := "(II)I" } : Jvm.MethodName)) ∈ lw_good := lw_mem 602 (by decide +kernel) rfl
set_option maxRecDepth 100000 in
theorem q_607 : (Jvm.Cond.methodLink "QuarrelBook" (172 : Nat) ({ cls := "QuarrelBook", name := "isPrice", desc := "(I)Z" } : Jvm.MethodName)) ∈ lw_good := lw_mem 607 (by decide +kernel) rfl
set_option maxRecDepth 100000 in
theorem q_608 : (Jvm.Cond.static ({ cls := "QuarrelBook", name := "isPrice", desc := "(I)Z" } : Jvm.MethodName)) ∈ lw_good := lw_mem 608 (by decide +kernel) rfl
set_option maxRecDepth 100000 in
theorem q_609 : (Jvm.Cond.code ({ cls := "QuarrelBook", name := "isPrice", desc := "(I)Z" } : Jvm.MethodName) prog_1_method_54_code (1 : Nat) (Option.some Jvm.ClassFile.FieldType.boolean)) ∈ lw_good := lw_mem 609 (by decide +kernel) rfl
set_option maxRecDepth 100000 in
theorem q_610 : (Jvm.Cond.methodLink "QuarrelBook" (175 : Nat) ({ cls := "QuarrelBook$Book", name := "reprice", desc := "(III)V" } : Jvm.MethodName)) ∈ lw_good := lw_mem 610 (by decide +kernel) rfl
set_option maxRecDepth 100000 in
theorem q_611 : (Jvm.Cond.instanceMethod ({ cls := "QuarrelBook$Book", name := "reprice", desc := "(III)V" } : Jvm.MethodName)) ∈ lw_good := lw_mem 611 (by decide +kernel) rfl
set_option maxRecDepth 100000 in
theorem q_612 : (Jvm.Cond.selects "QuarrelBook$Book" ({ cls := "QuarrelBook$Book", name := "reprice", desc := "(III)V" } : Jvm.MethodName) ({ cls := "QuarrelBook$Book", name := "reprice", desc := "(III)V" } : Jvm.MethodName)) ∈ lw_good := lw_mem 612 (by decide +kernel) rfl
set_option maxRecDepth 100000 in
theorem q_613 : (Jvm.Cond.code ({ cls := "QuarrelBook$Book", name := "reprice", desc := "(III)V" } : Jvm.MethodName) prog_3_method_10_code (5 : Nat) (Option.none : Option Jvm.ClassFile.FieldType)) ∈ lw_good := lw_mem 613 (by decide +kernel) rfl
set_option maxRecDepth 100000 in
theorem q_618 : (Jvm.Cond.methodLink "QuarrelBook" (183 : Nat) ({ cls := "QuarrelBook$Bench", name := "sumOf", desc := "(I)I" } : Jvm.MethodName)) ∈ lw_good := lw_mem 618 (by decide +kernel) rfl
set_option maxRecDepth 100000 in
theorem q_619 : (Jvm.Cond.instanceMethod ({ cls := "QuarrelBook$Bench", name := "sumOf", desc := "(I)I" } : Jvm.MethodName)) ∈ lw_good := lw_mem 619 (by decide +kernel) rfl
set_option maxRecDepth 100000 in
theorem q_620 : (Jvm.Cond.selects "QuarrelBook$Bench" ({ cls := "QuarrelBook$Bench", name := "sumOf", desc := "(I)I" } : Jvm.MethodName) ({ cls := "QuarrelBook$Bench", name := "sumOf", desc := "(I)I" } : Jvm.MethodName)) ∈ lw_good := lw_mem 620 (by decide +kernel) rfl
set_option maxRecDepth 100000 in
theorem q_621 : (Jvm.Cond.code ({ cls := "QuarrelBook$Bench", name := "sumOf", desc := "(I)I" } : Jvm.MethodName) prog_2_method_2_code (5 : Nat) (Option.some Jvm.ClassFile.FieldType.int)) ∈ lw_good := lw_mem 621 (by decide +kernel) rfl
set_option maxRecDepth 100000 in
theorem q_622 : (Jvm.Cond.methodLink "QuarrelBook$Bench" (50 : Nat) ({ cls := "java/lang/Math", name := "min", desc := "(II)I" } : Jvm.MethodName)) ∈ lw_good := lw_mem 622 (by decide +kernel) rfl
set_option maxRecDepth 100000 in
theorem q_623 : (Jvm.Cond.static ({ cls := "java/lang/Math", name := "min", desc := "(II)I" } : Jvm.MethodName)) ∈ lw_good := lw_mem 623 (by decide +kernel) rfl
set_option maxRecDepth 100000 in
theorem q_624 : (Jvm.Cond.code ({ cls := "java/lang/Math", name := "min", desc := "(II)I" } : Jvm.MethodName) prog_16_method_69_code (2 : Nat) (Option.some Jvm.ClassFile.FieldType.int)) ∈ lw_good := lw_mem 624 (by decide +kernel) rfl
set_option maxRecDepth 100000 in
theorem q_625 : (Jvm.Cond.methodLink "QuarrelBook$Bench" (56 : Nat) ({ cls := "java/lang/Integer", name := "bitCount", desc := "(I)I" } : Jvm.MethodName)) ∈ lw_good := lw_mem 625 (by decide +kernel) rfl
set_option maxRecDepth 100000 in
theorem q_626 : (Jvm.Cond.static ({ cls := "java/lang/Integer", name := "bitCount", desc := "(I)I" } : Jvm.MethodName)) ∈ lw_good := lw_mem 626 (by decide +kernel) rfl
set_option maxRecDepth 100000 in
theorem q_627 : (Jvm.Cond.code ({ cls := "java/lang/Integer", name := "bitCount", desc := "(I)I" } : Jvm.MethodName) prog_15_method_49_code (1 : Nat) (Option.some Jvm.ClassFile.FieldType.int)) ∈ lw_good := lw_mem 627 (by decide +kernel) rfl
set_option maxRecDepth 100000 in
theorem q_628 : (Jvm.Cond.constant "java/lang/Integer" (265 : Nat) (1431655765 : Int32)) ∈ lw_good := lw_mem 628 (by decide +kernel) rfl
set_option maxRecDepth 100000 in
theorem q_629 : (Jvm.Cond.constant "java/lang/Integer" (266 : Nat) (858993459 : Int32)) ∈ lw_good := lw_mem 629 (by decide +kernel) rfl
set_option maxRecDepth 100000 in
theorem q_630 : (Jvm.Cond.constant "java/lang/Integer" (267 : Nat) (252645135 : Int32)) ∈ lw_good := lw_mem 630 (by decide +kernel) rfl
set_option maxRecDepth 100000 in
theorem q_635 : (Jvm.Cond.methodLink "QuarrelBook" (188 : Nat) ({ cls := "QuarrelBook$Book", name := "settled", desc := "()[LQuarrelBook$Master;" } : Jvm.MethodName)) ∈ lw_good := lw_mem 635 (by decide +kernel) rfl
set_option maxRecDepth 100000 in
theorem q_636 : (Jvm.Cond.instanceMethod ({ cls := "QuarrelBook$Book", name := "settled", desc := "()[LQuarrelBook$Master;" } : Jvm.MethodName)) ∈ lw_good := lw_mem 636 (by decide +kernel) rfl
set_option maxRecDepth 100000 in
theorem q_637 : (Jvm.Cond.selects "QuarrelBook$Book" ({ cls := "QuarrelBook$Book", name := "settled", desc := "()[LQuarrelBook$Master;" } : Jvm.MethodName) ({ cls := "QuarrelBook$Book", name := "settled", desc := "()[LQuarrelBook$Master;" } : Jvm.MethodName)) ∈ lw_good := lw_mem 637 (by decide +kernel) rfl
set_option maxRecDepth 100000 in
theorem q_638 : (Jvm.Cond.code ({ cls := "QuarrelBook$Book", name := "settled", desc := "()[LQuarrelBook$Master;" } : Jvm.MethodName) prog_3_method_15_code (2 : Nat) (Option.some (Jvm.ClassFile.FieldType.array (Jvm.ClassFile.FieldType.object "QuarrelBook$Master")))) ∈ lw_good := lw_mem 638 (by decide +kernel) rfl
set_option maxRecDepth 100000 in
theorem q_639 : (Jvm.Cond.methodLink "QuarrelBook$Book" (126 : Nat) ({ cls := "QuarrelBook$Bench", name := "weigh", desc := "(LQuarrelBook$Master;[LQuarrelBook$Saying;[I)V" } : Jvm.MethodName)) ∈ lw_good := lw_mem 639 (by decide +kernel) rfl
set_option maxRecDepth 100000 in
theorem q_640 : (Jvm.Cond.instanceMethod ({ cls := "QuarrelBook$Bench", name := "weigh", desc := "(LQuarrelBook$Master;[LQuarrelBook$Saying;[I)V" } : Jvm.MethodName)) ∈ lw_good := lw_mem 640 (by decide +kernel) rfl
set_option maxRecDepth 100000 in
theorem q_641 : (Jvm.Cond.selects "QuarrelBook$Bench" ({ cls := "QuarrelBook$Bench", name := "weigh", desc := "(LQuarrelBook$Master;[LQuarrelBook$Saying;[I)V" } : Jvm.MethodName) ({ cls := "QuarrelBook$Bench", name := "weigh", desc := "(LQuarrelBook$Master;[LQuarrelBook$Saying;[I)V" } : Jvm.MethodName)) ∈ lw_good := lw_mem 641 (by decide +kernel) rfl
set_option maxRecDepth 100000 in
theorem q_642 : (Jvm.Cond.code ({ cls := "QuarrelBook$Bench", name := "weigh", desc := "(LQuarrelBook$Master;[LQuarrelBook$Saying;[I)V" } : Jvm.MethodName) prog_2_method_3_code (8 : Nat) (Option.none : Option Jvm.ClassFile.FieldType)) ∈ lw_good := lw_mem 642 (by decide +kernel) rfl
set_option maxRecDepth 100000 in
theorem q_643 : (Jvm.Cond.methodLink "QuarrelBook$Bench" (62 : Nat) ({ cls := "java/util/Arrays", name := "fill", desc := "([II)V" } : Jvm.MethodName)) ∈ lw_good := lw_mem 643 (by decide +kernel) rfl
set_option maxRecDepth 100000 in
theorem q_644 : (Jvm.Cond.methodLink "QuarrelBook$Bench" (87 : Nat) ({ cls := "QuarrelBook$Rules", name := "strain", desc := "(IIII)I" } : Jvm.MethodName)) ∈ lw_good := lw_mem 644 (by decide +kernel) rfl
set_option maxRecDepth 100000 in
theorem q_645 : (Jvm.Cond.methodLink "QuarrelBook$Bench" (93 : Nat) ({ cls := "QuarrelBook$Bench", name := "sumOf", desc := "(I)I" } : Jvm.MethodName)) ∈ lw_good := lw_mem 645 (by decide +kernel) rfl
set_option maxRecDepth 100000 in
theorem q_646 : (Jvm.Cond.methodLink "QuarrelBook$Book" (130 : Nat) ({ cls := "QuarrelBook$Bench", name := "takeTwoRules", desc := "()V" } : Jvm.MethodName)) ∈ lw_good := lw_mem 646 (by decide +kernel) rfl
set_option maxRecDepth 100000 in
theorem q_647 : (Jvm.Cond.instanceMethod ({ cls := "QuarrelBook$Bench", name := "takeTwoRules", desc := "()V" } : Jvm.MethodName)) ∈ lw_good := lw_mem 647 (by decide +kernel) rfl
set_option maxRecDepth 100000 in
theorem q_648 : (Jvm.Cond.selects "QuarrelBook$Bench" ({ cls := "QuarrelBook$Bench", name := "takeTwoRules", desc := "()V" } : Jvm.MethodName) ({ cls := "QuarrelBook$Bench", name := "takeTwoRules", desc := "()V" } : Jvm.MethodName)) ∈ lw_good := lw_mem 648 (by decide +kernel) rfl
set_option maxRecDepth 100000 in
theorem q_649 : (Jvm.Cond.code ({ cls := "QuarrelBook$Bench", name := "takeTwoRules", desc := "()V" } : Jvm.MethodName) prog_2_method_4_code (6 : Nat) (Option.none : Option Jvm.ClassFile.FieldType)) ∈ lw_good := lw_mem 649 (by decide +kernel) rfl
set_option maxRecDepth 100000 in
theorem q_650 : (Jvm.Cond.methodLink "QuarrelBook$Bench" (96 : Nat) ({ cls := "QuarrelBook$Bench", name := "gatherCandidates", desc := "()I" } : Jvm.MethodName)) ∈ lw_good := lw_mem 650 (by decide +kernel) rfl
set_option maxRecDepth 100000 in
theorem q_652 : (Jvm.Cond.instanceMethod ({ cls := "QuarrelBook$Bench", name := "gatherCandidates", desc := "()I" } : Jvm.MethodName)) ∈ lw_good := lw_mem 652 (by decide +kernel) rfl
set_option maxRecDepth 100000 in
theorem q_653 : (Jvm.Cond.code ({ cls := "QuarrelBook$Bench", name := "gatherCandidates", desc := "()I" } : Jvm.MethodName) prog_2_method_5_code (6 : Nat) (Option.some Jvm.ClassFile.FieldType.int)) ∈ lw_good := lw_mem 653 (by decide +kernel) rfl
set_option maxRecDepth 100000 in
theorem q_654 : (Jvm.Cond.methodLink "QuarrelBook$Book" (133 : Nat) ({ cls := "QuarrelBook$Mind", name := "learn", desc := "(LQuarrelBook$Bench;LQuarrelBook$Rules;)V" } : Jvm.MethodName)) ∈ lw_good := lw_mem 654 (by decide +kernel) rfl
set_option maxRecDepth 100000 in
theorem q_655 : (Jvm.Cond.instanceMethod ({ cls := "QuarrelBook$Mind", name := "learn", desc := "(LQuarrelBook$Bench;LQuarrelBook$Rules;)V" } : Jvm.MethodName)) ∈ lw_good := lw_mem 655 (by decide +kernel) rfl
set_option maxRecDepth 100000 in
theorem q_656 : (Jvm.Cond.selects "QuarrelBook$Mind" ({ cls := "QuarrelBook$Mind", name := "learn", desc := "(LQuarrelBook$Bench;LQuarrelBook$Rules;)V" } : Jvm.MethodName) ({ cls := "QuarrelBook$Mind", name := "learn", desc := "(LQuarrelBook$Bench;LQuarrelBook$Rules;)V" } : Jvm.MethodName)) ∈ lw_good := lw_mem 656 (by decide +kernel) rfl
set_option maxRecDepth 100000 in
theorem q_657 : (Jvm.Cond.code ({ cls := "QuarrelBook$Mind", name := "learn", desc := "(LQuarrelBook$Bench;LQuarrelBook$Rules;)V" } : Jvm.MethodName) prog_6_method_2_code (4 : Nat) (Option.none : Option Jvm.ClassFile.FieldType)) ∈ lw_good := lw_mem 657 (by decide +kernel) rfl
set_option maxRecDepth 100000 in
theorem q_666 : (Jvm.Cond.methodLink "QuarrelBook" (208 : Nat) ({ cls := "QuarrelBook$Mind", name := "lastCheap", desc := "()I" } : Jvm.MethodName)) ∈ lw_good := lw_mem 666 (by decide +kernel) rfl
set_option maxRecDepth 100000 in
theorem q_667 : (Jvm.Cond.instanceMethod ({ cls := "QuarrelBook$Mind", name := "lastCheap", desc := "()I" } : Jvm.MethodName)) ∈ lw_good := lw_mem 667 (by decide +kernel) rfl
set_option maxRecDepth 100000 in
theorem q_668 : (Jvm.Cond.selects "QuarrelBook$Mind" ({ cls := "QuarrelBook$Mind", name := "lastCheap", desc := "()I" } : Jvm.MethodName) ({ cls := "QuarrelBook$Mind", name := "lastCheap", desc := "()I" } : Jvm.MethodName)) ∈ lw_good := lw_mem 668 (by decide +kernel) rfl
set_option maxRecDepth 100000 in
theorem q_669 : (Jvm.Cond.code ({ cls := "QuarrelBook$Mind", name := "lastCheap", desc := "()I" } : Jvm.MethodName) prog_6_method_3_code (1 : Nat) (Option.some Jvm.ClassFile.FieldType.int)) ∈ lw_good := lw_mem 669 (by decide +kernel) rfl
set_option maxRecDepth 100000 in
theorem q_682 : (Jvm.Cond.methodLink "QuarrelBook" (217 : Nat) ({ cls := "QuarrelBook$Book", name := "opponents", desc := "(I[LQuarrelBook$Master;)I" } : Jvm.MethodName)) ∈ lw_good := lw_mem 682 (by decide +kernel) rfl
set_option maxRecDepth 100000 in
theorem q_683 : (Jvm.Cond.instanceMethod ({ cls := "QuarrelBook$Book", name := "opponents", desc := "(I[LQuarrelBook$Master;)I" } : Jvm.MethodName)) ∈ lw_good := lw_mem 683 (by decide +kernel) rfl
set_option maxRecDepth 100000 in
theorem q_684 : (Jvm.Cond.selects "QuarrelBook$Book" ({ cls := "QuarrelBook$Book", name := "opponents", desc := "(I[LQuarrelBook$Master;)I" } : Jvm.MethodName) ({ cls := "QuarrelBook$Book", name := "opponents", desc := "(I[LQuarrelBook$Master;)I" } : Jvm.MethodName)) ∈ lw_good := lw_mem 684 (by decide +kernel) rfl
set_option maxRecDepth 100000 in
theorem q_685 : (Jvm.Cond.code ({ cls := "QuarrelBook$Book", name := "opponents", desc := "(I[LQuarrelBook$Master;)I" } : Jvm.MethodName) prog_3_method_18_code (7 : Nat) (Option.some Jvm.ClassFile.FieldType.int)) ∈ lw_good := lw_mem 685 (by decide +kernel) rfl
set_option maxRecDepth 100000 in
theorem q_686 : (Jvm.Cond.methodLink "QuarrelBook$Book" (144 : Nat) ({ cls := "QuarrelBook$Master", name := "hasSpoken", desc := "()Z" } : Jvm.MethodName)) ∈ lw_good := lw_mem 686 (by decide +kernel) rfl
set_option maxRecDepth 100000 in
theorem q_687 : (Jvm.Cond.instanceMethod ({ cls := "QuarrelBook$Master", name := "hasSpoken", desc := "()Z" } : Jvm.MethodName)) ∈ lw_good := lw_mem 687 (by decide +kernel) rfl
set_option maxRecDepth 100000 in
theorem q_688 : (Jvm.Cond.selects "QuarrelBook$Master" ({ cls := "QuarrelBook$Master", name := "hasSpoken", desc := "()Z" } : Jvm.MethodName) ({ cls := "QuarrelBook$Master", name := "hasSpoken", desc := "()Z" } : Jvm.MethodName)) ∈ lw_good := lw_mem 688 (by decide +kernel) rfl
set_option maxRecDepth 100000 in
theorem q_689 : (Jvm.Cond.code ({ cls := "QuarrelBook$Master", name := "hasSpoken", desc := "()Z" } : Jvm.MethodName) prog_5_method_2_code (1 : Nat) (Option.some Jvm.ClassFile.FieldType.boolean)) ∈ lw_good := lw_mem 689 (by decide +kernel) rfl
set_option maxRecDepth 100000 in
theorem q_690 : (Jvm.Cond.methodLink "QuarrelBook$Book" (151 : Nat) ({ cls := "QuarrelBook$Rules", name := "verdict", desc := "(II)I" } : Jvm.MethodName)) ∈ lw_good := lw_mem 690 (by decide +kernel) rfl
set_option maxRecDepth 100000 in
theorem q_699 : (Jvm.Cond.methodLink "QuarrelBook" (224 : Nat) ({ cls := "QuarrelBook$Book", name := "caseTraits", desc := "(I)I" } : Jvm.MethodName)) ∈ lw_good := lw_mem 699 (by decide +kernel) rfl
set_option maxRecDepth 100000 in
theorem q_700 : (Jvm.Cond.methodLink "QuarrelBook" (227 : Nat) ({ cls := "QuarrelBook$Book", name := "knownToAll", desc := "(I[LQuarrelBook$Master;)Z" } : Jvm.MethodName)) ∈ lw_good := lw_mem 700 (by decide +kernel) rfl
set_option maxRecDepth 100000 in
theorem q_701 : (Jvm.Cond.instanceMethod ({ cls := "QuarrelBook$Book", name := "knownToAll", desc := "(I[LQuarrelBook$Master;)Z" } : Jvm.MethodName)) ∈ lw_good := lw_mem 701 (by decide +kernel) rfl
set_option maxRecDepth 100000 in
theorem q_702 : (Jvm.Cond.selects "QuarrelBook$Book" ({ cls := "QuarrelBook$Book", name := "knownToAll", desc := "(I[LQuarrelBook$Master;)Z" } : Jvm.MethodName) ({ cls := "QuarrelBook$Book", name := "knownToAll", desc := "(I[LQuarrelBook$Master;)Z" } : Jvm.MethodName)) ∈ lw_good := lw_mem 702 (by decide +kernel) rfl
set_option maxRecDepth 100000 in
theorem q_703 : (Jvm.Cond.code ({ cls := "QuarrelBook$Book", name := "knownToAll", desc := "(I[LQuarrelBook$Master;)Z" } : Jvm.MethodName) prog_3_method_19_code (7 : Nat) (Option.some Jvm.ClassFile.FieldType.boolean)) ∈ lw_good := lw_mem 703 (by decide +kernel) rfl
set_option maxRecDepth 100000 in
theorem q_704 : (Jvm.Cond.methodLink "QuarrelBook$Book" (155 : Nat) ({ cls := "QuarrelBook$Mind", name := "mayOwe", desc := "(I)Z" } : Jvm.MethodName)) ∈ lw_good := lw_mem 704 (by decide +kernel) rfl
set_option maxRecDepth 100000 in
theorem q_705 : (Jvm.Cond.instanceMethod ({ cls := "QuarrelBook$Mind", name := "mayOwe", desc := "(I)Z" } : Jvm.MethodName)) ∈ lw_good := lw_mem 705 (by decide +kernel) rfl
set_option maxRecDepth 100000 in
theorem q_706 : (Jvm.Cond.selects "QuarrelBook$Mind" ({ cls := "QuarrelBook$Mind", name := "mayOwe", desc := "(I)Z" } : Jvm.MethodName) ({ cls := "QuarrelBook$Mind", name := "mayOwe", desc := "(I)Z" } : Jvm.MethodName)) ∈ lw_good := lw_mem 706 (by decide +kernel) rfl
set_option maxRecDepth 100000 in
theorem q_707 : (Jvm.Cond.code ({ cls := "QuarrelBook$Mind", name := "mayOwe", desc := "(I)Z" } : Jvm.MethodName) prog_6_method_4_code (2 : Nat) (Option.some Jvm.ClassFile.FieldType.boolean)) ∈ lw_good := lw_mem 707 (by decide +kernel) rfl
set_option maxRecDepth 100000 in
theorem q_708 : (Jvm.Cond.methodLink "QuarrelBook$Book" (158 : Nat) ({ cls := "QuarrelBook$Mind", name := "mayNotOwe", desc := "(I)Z" } : Jvm.MethodName)) ∈ lw_good := lw_mem 708 (by decide +kernel) rfl
set_option maxRecDepth 100000 in
theorem q_709 : (Jvm.Cond.instanceMethod ({ cls := "QuarrelBook$Mind", name := "mayNotOwe", desc := "(I)Z" } : Jvm.MethodName)) ∈ lw_good := lw_mem 709 (by decide +kernel) rfl
set_option maxRecDepth 100000 in
theorem q_710 : (Jvm.Cond.selects "QuarrelBook$Mind" ({ cls := "QuarrelBook$Mind", name := "mayNotOwe", desc := "(I)Z" } : Jvm.MethodName) ({ cls := "QuarrelBook$Mind", name := "mayNotOwe", desc := "(I)Z" } : Jvm.MethodName)) ∈ lw_good := lw_mem 710 (by decide +kernel) rfl
set_option maxRecDepth 100000 in
theorem q_711 : (Jvm.Cond.code ({ cls := "QuarrelBook$Mind", name := "mayNotOwe", desc := "(I)Z" } : Jvm.MethodName) prog_6_method_5_code (2 : Nat) (Option.some Jvm.ClassFile.FieldType.boolean)) ∈ lw_good := lw_mem 711 (by decide +kernel) rfl
set_option maxRecDepth 100000 in
theorem q_716 : (Jvm.Cond.methodLink "QuarrelBook" (231 : Nat) ({ cls := "QuarrelBook$Book", name := "changeYear", desc := "(I)I" } : Jvm.MethodName)) ∈ lw_good := lw_mem 716 (by decide +kernel) rfl
set_option maxRecDepth 100000 in
theorem q_717 : (Jvm.Cond.instanceMethod ({ cls := "QuarrelBook$Book", name := "changeYear", desc := "(I)I" } : Jvm.MethodName)) ∈ lw_good := lw_mem 717 (by decide +kernel) rfl
set_option maxRecDepth 100000 in
theorem q_718 : (Jvm.Cond.selects "QuarrelBook$Book" ({ cls := "QuarrelBook$Book", name := "changeYear", desc := "(I)I" } : Jvm.MethodName) ({ cls := "QuarrelBook$Book", name := "changeYear", desc := "(I)I" } : Jvm.MethodName)) ∈ lw_good := lw_mem 718 (by decide +kernel) rfl
set_option maxRecDepth 100000 in
theorem q_719 : (Jvm.Cond.code ({ cls := "QuarrelBook$Book", name := "changeYear", desc := "(I)I" } : Jvm.MethodName) prog_3_method_16_code (2 : Nat) (Option.some Jvm.ClassFile.FieldType.int)) ∈ lw_good := lw_mem 719 (by decide +kernel) rfl
set_option maxRecDepth 100000 in
theorem q_720 : (Jvm.Cond.methodLink "QuarrelBook$Book" (137 : Nat) ({ cls := "QuarrelBook$Bench", name := "firstChange", desc := "(LQuarrelBook$Master;[LQuarrelBook$Saying;)I" } : Jvm.MethodName)) ∈ lw_good := lw_mem 720 (by decide +kernel) rfl
set_option maxRecDepth 100000 in
theorem q_721 : (Jvm.Cond.instanceMethod ({ cls := "QuarrelBook$Bench", name := "firstChange", desc := "(LQuarrelBook$Master;[LQuarrelBook$Saying;)I" } : Jvm.MethodName)) ∈ lw_good := lw_mem 721 (by decide +kernel) rfl
set_option maxRecDepth 100000 in
theorem q_722 : (Jvm.Cond.selects "QuarrelBook$Bench" ({ cls := "QuarrelBook$Bench", name := "firstChange", desc := "(LQuarrelBook$Master;[LQuarrelBook$Saying;)I" } : Jvm.MethodName) ({ cls := "QuarrelBook$Bench", name := "firstChange", desc := "(LQuarrelBook$Master;[LQuarrelBook$Saying;)I" } : Jvm.MethodName)) ∈ lw_good := lw_mem 722 (by decide +kernel) rfl
set_option maxRecDepth 100000 in
theorem q_723 : (Jvm.Cond.code ({ cls := "QuarrelBook$Bench", name := "firstChange", desc := "(LQuarrelBook$Master;[LQuarrelBook$Saying;)I" } : Jvm.MethodName) prog_2_method_6_code (8 : Nat) (Option.some Jvm.ClassFile.FieldType.int)) ∈ lw_good := lw_mem 723 (by decide +kernel) rfl
set_option maxRecDepth 100000 in
theorem q_724 : (Jvm.Cond.methodLink "QuarrelBook$Bench" (109 : Nat) ({ cls := "QuarrelBook$Bench", name := "sayingsAhead", desc := "(ILQuarrelBook$Master;[LQuarrelBook$Saying;)I" } : Jvm.MethodName)) ∈ lw_good := lw_mem 724 (by decide +kernel) rfl
set_option maxRecDepth 100000 in
theorem q_726 : (Jvm.Cond.instanceMethod ({ cls := "QuarrelBook$Bench", name := "sayingsAhead", desc := "(ILQuarrelBook$Master;[LQuarrelBook$Saying;)I" } : Jvm.MethodName)) ∈ lw_good := lw_mem 726 (by decide +kernel) rfl
set_option maxRecDepth 100000 in
theorem q_727 : (Jvm.Cond.code ({ cls := "QuarrelBook$Bench", name := "sayingsAhead", desc := "(ILQuarrelBook$Master;[LQuarrelBook$Saying;)I" } : Jvm.MethodName) prog_2_method_7_code (6 : Nat) (Option.some Jvm.ClassFile.FieldType.int)) ∈ lw_good := lw_mem 727 (by decide +kernel) rfl
set_option maxRecDepth 100000 in
theorem q_728 : (Jvm.Cond.methodLink "QuarrelBook$Bench" (113 : Nat) ({ cls := "QuarrelBook$Bench", name := "costParted", desc := "(I)I" } : Jvm.MethodName)) ∈ lw_good := lw_mem 728 (by decide +kernel) rfl
set_option maxRecDepth 100000 in
theorem q_730 : (Jvm.Cond.instanceMethod ({ cls := "QuarrelBook$Bench", name := "costParted", desc := "(I)I" } : Jvm.MethodName)) ∈ lw_good := lw_mem 730 (by decide +kernel) rfl
set_option maxRecDepth 100000 in
theorem q_731 : (Jvm.Cond.code ({ cls := "QuarrelBook$Bench", name := "costParted", desc := "(I)I" } : Jvm.MethodName) prog_2_method_8_code (5 : Nat) (Option.some Jvm.ClassFile.FieldType.int)) ∈ lw_good := lw_mem 731 (by decide +kernel) rfl
set_option maxRecDepth 100000 in
theorem q_736 : (Jvm.Cond.methodLink "QuarrelBook" (237 : Nat) ({ cls := "QuarrelBook", name := "firstTrait", desc := "(I)I" } : Jvm.MethodName)) ∈ lw_good := lw_mem 736 (by decide +kernel) rfl
set_option maxRecDepth 100000 in
theorem q_737 : (Jvm.Cond.static ({ cls := "QuarrelBook", name := "firstTrait", desc := "(I)I" } : Jvm.MethodName)) ∈ lw_good := lw_mem 737 (by decide +kernel) rfl
set_option maxRecDepth 100000 in
theorem q_738 : (Jvm.Cond.code ({ cls := "QuarrelBook", name := "firstTrait", desc := "(I)I" } : Jvm.MethodName) prog_1_method_55_code (2 : Nat) (Option.some Jvm.ClassFile.FieldType.int)) ∈ lw_good := lw_mem 738 (by decide +kernel) rfl
set_option maxRecDepth 100000 in
theorem q_739 : (Jvm.Cond.methodLink "QuarrelBook" (240 : Nat) ({ cls := "java/lang/Integer", name := "bitCount", desc := "(I)I" } : Jvm.MethodName)) ∈ lw_good := lw_mem 739 (by decide +kernel) rfl
set_option maxRecDepth 100000 in
theorem q_744 : (Jvm.Cond.methodLink "QuarrelBook" (252 : Nat) ({ cls := "java/lang/Math", name := "max", desc := "(II)I" } : Jvm.MethodName)) ∈ lw_good := lw_mem 744 (by decide +kernel) rfl
set_option maxRecDepth 100000 in
theorem q_745 : (Jvm.Cond.static ({ cls := "java/lang/Math", name := "max", desc := "(II)I" } : Jvm.MethodName)) ∈ lw_good := lw_mem 745 (by decide +kernel) rfl
set_option maxRecDepth 100000 in
theorem q_746 : (Jvm.Cond.code ({ cls := "java/lang/Math", name := "max", desc := "(II)I" } : Jvm.MethodName) prog_16_method_65_code (2 : Nat) (Option.some Jvm.ClassFile.FieldType.int)) ∈ lw_good := lw_mem 746 (by decide +kernel) rfl
set_option maxRecDepth 100000 in
theorem q_747 : (Jvm.Cond.methodLink "QuarrelBook" (260 : Nat) ({ cls := "java/lang/Math", name := "min", desc := "(II)I" } : Jvm.MethodName)) ∈ lw_good := lw_mem 747 (by decide +kernel) rfl
set_option maxRecDepth 100000 in
theorem q_752 : (Jvm.Cond.methodLink "QuarrelBook" (263 : Nat) ({ cls := "QuarrelBook$Book", name := "yearsApart", desc := "(I)I" } : Jvm.MethodName)) ∈ lw_good := lw_mem 752 (by decide +kernel) rfl
set_option maxRecDepth 100000 in
theorem q_753 : (Jvm.Cond.instanceMethod ({ cls := "QuarrelBook$Book", name := "yearsApart", desc := "(I)I" } : Jvm.MethodName)) ∈ lw_good := lw_mem 753 (by decide +kernel) rfl
set_option maxRecDepth 100000 in
theorem q_754 : (Jvm.Cond.selects "QuarrelBook$Book" ({ cls := "QuarrelBook$Book", name := "yearsApart", desc := "(I)I" } : Jvm.MethodName) ({ cls := "QuarrelBook$Book", name := "yearsApart", desc := "(I)I" } : Jvm.MethodName)) ∈ lw_good := lw_mem 754 (by decide +kernel) rfl
set_option maxRecDepth 100000 in
theorem q_755 : (Jvm.Cond.code ({ cls := "QuarrelBook$Book", name := "yearsApart", desc := "(I)I" } : Jvm.MethodName) prog_3_method_21_code (5 : Nat) (Option.some Jvm.ClassFile.FieldType.int)) ∈ lw_good := lw_mem 755 (by decide +kernel) rfl
set_option maxRecDepth 100000 in
theorem q_756 : (Jvm.Cond.methodLink "QuarrelBook$Book" (164 : Nat) ({ cls := "java/lang/Math", name := "min", desc := "(II)I" } : Jvm.MethodName)) ∈ lw_good := lw_mem 756 (by decide +kernel) rfl
set_option maxRecDepth 100000 in
theorem q_757 : (Jvm.Cond.methodLink "QuarrelBook$Book" (169 : Nat) ({ cls := "java/lang/Math", name := "max", desc := "(II)I" } : Jvm.MethodName)) ∈ lw_good := lw_mem 757 (by decide +kernel) rfl
set_option maxRecDepth 100000 in
theorem q_766 : (Jvm.Cond.methodLink "QuarrelBook" (269 : Nat) ({ cls := "QuarrelBook$Saying", name := "copiesReading", desc := "(I)I" } : Jvm.MethodName)) ∈ lw_good := lw_mem 766 (by decide +kernel) rfl
set_option maxRecDepth 100000 in
theorem q_767 : (Jvm.Cond.instanceMethod ({ cls := "QuarrelBook$Saying", name := "copiesReading", desc := "(I)I" } : Jvm.MethodName)) ∈ lw_good := lw_mem 767 (by decide +kernel) rfl
set_option maxRecDepth 100000 in
theorem q_768 : (Jvm.Cond.selects "QuarrelBook$Saying" ({ cls := "QuarrelBook$Saying", name := "copiesReading", desc := "(I)I" } : Jvm.MethodName) ({ cls := "QuarrelBook$Saying", name := "copiesReading", desc := "(I)I" } : Jvm.MethodName)) ∈ lw_good := lw_mem 768 (by decide +kernel) rfl
set_option maxRecDepth 100000 in
theorem q_769 : (Jvm.Cond.code ({ cls := "QuarrelBook$Saying", name := "copiesReading", desc := "(I)I" } : Jvm.MethodName) prog_11_method_3_code (4 : Nat) (Option.some Jvm.ClassFile.FieldType.int)) ∈ lw_good := lw_mem 769 (by decide +kernel) rfl
set_option maxRecDepth 100000 in
theorem q_774 : (Jvm.Cond.methodLink "QuarrelBook" (275 : Nat) ({ cls := "QuarrelBook", name := "tellFraction", desc := "(JJ)V" } : Jvm.MethodName)) ∈ lw_good := lw_mem 774 (by decide +kernel) rfl
set_option maxRecDepth 100000 in
theorem q_776 : (Jvm.Cond.instanceMethod ({ cls := "QuarrelBook", name := "tellFraction", desc := "(JJ)V" } : Jvm.MethodName)) ∈ lw_good := lw_mem 776 (by decide +kernel) rfl
set_option maxRecDepth 100000 in
theorem q_777 : (Jvm.Cond.code ({ cls := "QuarrelBook", name := "tellFraction", desc := "(JJ)V" } : Jvm.MethodName) prog_1_method_58_code (12 : Nat) (Option.none : Option Jvm.ClassFile.FieldType)) ∈ lw_good := lw_mem 777 (by decide +kernel) rfl
set_option maxRecDepth 100000 in
theorem q_782 : (Jvm.Cond.methodLink "QuarrelBook" (282 : Nat) ({ cls := "QuarrelBook$Book", name := "sumIfOtherwise", desc := "(I)I" } : Jvm.MethodName)) ∈ lw_good := lw_mem 782 (by decide +kernel) rfl
set_option maxRecDepth 100000 in
theorem q_783 : (Jvm.Cond.instanceMethod ({ cls := "QuarrelBook$Book", name := "sumIfOtherwise", desc := "(I)I" } : Jvm.MethodName)) ∈ lw_good := lw_mem 783 (by decide +kernel) rfl
set_option maxRecDepth 100000 in
theorem q_784 : (Jvm.Cond.selects "QuarrelBook$Book" ({ cls := "QuarrelBook$Book", name := "sumIfOtherwise", desc := "(I)I" } : Jvm.MethodName) ({ cls := "QuarrelBook$Book", name := "sumIfOtherwise", desc := "(I)I" } : Jvm.MethodName)) ∈ lw_good := lw_mem 784 (by decide +kernel) rfl
set_option maxRecDepth 100000 in
theorem q_785 : (Jvm.Cond.code ({ cls := "QuarrelBook$Book", name := "sumIfOtherwise", desc := "(I)I" } : Jvm.MethodName) prog_3_method_17_code (3 : Nat) (Option.some Jvm.ClassFile.FieldType.int)) ∈ lw_good := lw_mem 785 (by decide +kernel) rfl
set_option maxRecDepth 100000 in
theorem q_786 : (Jvm.Cond.methodLink "QuarrelBook" (285 : Nat) ({ cls := "java/lang/Math", name := "abs", desc := "(I)I" } : Jvm.MethodName)) ∈ lw_good := lw_mem 786 (by decide +kernel) rfl
set_option maxRecDepth 100000 in
theorem q_787 : (Jvm.Cond.static ({ cls := "java/lang/Math", name := "abs", desc := "(I)I" } : Jvm.MethodName)) ∈ lw_good := lw_mem 787 (by decide +kernel) rfl
set_option maxRecDepth 100000 in
theorem q_788 : (Jvm.Cond.code ({ cls := "java/lang/Math", name := "abs", desc := "(I)I" } : Jvm.MethodName) prog_16_method_59_code (1 : Nat) (Option.some Jvm.ClassFile.FieldType.int)) ∈ lw_good := lw_mem 788 (by decide +kernel) rfl
set_option maxRecDepth 100000 in
theorem q_793 : (Jvm.Cond.methodLink "QuarrelBook" (288 : Nat) ({ cls := "QuarrelBook$Page", name := "takes", desc := "(III)Z" } : Jvm.MethodName)) ∈ lw_good := lw_mem 793 (by decide +kernel) rfl
set_option maxRecDepth 100000 in
theorem q_794 : (Jvm.Cond.instanceMethod ({ cls := "QuarrelBook$Page", name := "takes", desc := "(III)Z" } : Jvm.MethodName)) ∈ lw_good := lw_mem 794 (by decide +kernel) rfl
set_option maxRecDepth 100000 in
theorem q_795 : (Jvm.Cond.selects "QuarrelBook$Page" ({ cls := "QuarrelBook$Page", name := "takes", desc := "(III)Z" } : Jvm.MethodName) ({ cls := "QuarrelBook$Page", name := "takes", desc := "(III)Z" } : Jvm.MethodName)) ∈ lw_good := lw_mem 795 (by decide +kernel) rfl
set_option maxRecDepth 100000 in
theorem q_796 : (Jvm.Cond.code ({ cls := "QuarrelBook$Page", name := "takes", desc := "(III)Z" } : Jvm.MethodName) prog_8_method_2_code (4 : Nat) (Option.some Jvm.ClassFile.FieldType.boolean)) ∈ lw_good := lw_mem 796 (by decide +kernel) rfl
set_option maxRecDepth 100000 in
theorem q_797 : (Jvm.Cond.methodLink "QuarrelBook$Page" (32 : Nat) ({ cls := "QuarrelBook$Book", name := "hasSaying", desc := "(I)Z" } : Jvm.MethodName)) ∈ lw_good := lw_mem 797 (by decide +kernel) rfl
set_option maxRecDepth 100000 in
theorem q_799 : (Jvm.Cond.methodLink "QuarrelBook$Page" (42 : Nat) ({ cls := "QuarrelBook$Book", name := "hasMaster", desc := "(I)Z" } : Jvm.MethodName)) ∈ lw_good := lw_mem 799 (by decide +kernel) rfl
set_option maxRecDepth 100000 in
theorem q_800 : (Jvm.Cond.methodLink "QuarrelBook" (295 : Nat) ({ cls := "QuarrelBook$Page", name := "addMove", desc := "(III)I" } : Jvm.MethodName)) ∈ lw_good := lw_mem 800 (by decide +kernel) rfl
set_option maxRecDepth 100000 in
theorem q_801 : (Jvm.Cond.instanceMethod ({ cls := "QuarrelBook$Page", name := "addMove", desc := "(III)I" } : Jvm.MethodName)) ∈ lw_good := lw_mem 801 (by decide +kernel) rfl
set_option maxRecDepth 100000 in
theorem q_802 : (Jvm.Cond.selects "QuarrelBook$Page" ({ cls := "QuarrelBook$Page", name := "addMove", desc := "(III)I" } : Jvm.MethodName) ({ cls := "QuarrelBook$Page", name := "addMove", desc := "(III)I" } : Jvm.MethodName)) ∈ lw_good := lw_mem 802 (by decide +kernel) rfl
set_option maxRecDepth 100000 in
theorem q_803 : (Jvm.Cond.code ({ cls := "QuarrelBook$Page", name := "addMove", desc := "(III)I" } : Jvm.MethodName) prog_8_method_3_code (5 : Nat) (Option.some Jvm.ClassFile.FieldType.int)) ∈ lw_good := lw_mem 803 (by decide +kernel) rfl
set_option maxRecDepth 100000 in
theorem q_808 : (Jvm.Cond.methodLink "QuarrelBook" (302 : Nat) ({ cls := "QuarrelBook$Move", name := "figure", desc := "(I)I" } : Jvm.MethodName)) ∈ lw_good := lw_mem 808 (by decide +kernel) rfl
set_option maxRecDepth 100000 in
theorem q_809 : (Jvm.Cond.instanceMethod ({ cls := "QuarrelBook$Move", name := "figure", desc := "(I)I" } : Jvm.MethodName)) ∈ lw_good := lw_mem 809 (by decide +kernel) rfl
set_option maxRecDepth 100000 in
theorem q_810 : (Jvm.Cond.selects "QuarrelBook$Move" ({ cls := "QuarrelBook$Move", name := "figure", desc := "(I)I" } : Jvm.MethodName) ({ cls := "QuarrelBook$Move", name := "figure", desc := "(I)I" } : Jvm.MethodName)) ∈ lw_good := lw_mem 810 (by decide +kernel) rfl
set_option maxRecDepth 100000 in
theorem q_811 : (Jvm.Cond.code ({ cls := "QuarrelBook$Move", name := "figure", desc := "(I)I" } : Jvm.MethodName) prog_7_method_2_code (2 : Nat) (Option.some Jvm.ClassFile.FieldType.int)) ∈ lw_good := lw_mem 811 (by decide +kernel) rfl
set_option maxRecDepth 100000 in
theorem q_816 : (Jvm.Cond.methodLink "QuarrelBook" (308 : Nat) ({ cls := "QuarrelBook$Page", name := "markOf", desc := "(LQuarrelBook$Move;[LQuarrelBook$Master;)I" } : Jvm.MethodName)) ∈ lw_good := lw_mem 816 (by decide +kernel) rfl
set_option maxRecDepth 100000 in
theorem q_817 : (Jvm.Cond.instanceMethod ({ cls := "QuarrelBook$Page", name := "markOf", desc := "(LQuarrelBook$Move;[LQuarrelBook$Master;)I" } : Jvm.MethodName)) ∈ lw_good := lw_mem 817 (by decide +kernel) rfl
set_option maxRecDepth 100000 in
theorem q_818 : (Jvm.Cond.selects "QuarrelBook$Page" ({ cls := "QuarrelBook$Page", name := "markOf", desc := "(LQuarrelBook$Move;[LQuarrelBook$Master;)I" } : Jvm.MethodName) ({ cls := "QuarrelBook$Page", name := "markOf", desc := "(LQuarrelBook$Move;[LQuarrelBook$Master;)I" } : Jvm.MethodName)) ∈ lw_good := lw_mem 818 (by decide +kernel) rfl
set_option maxRecDepth 100000 in
theorem q_819 : (Jvm.Cond.code ({ cls := "QuarrelBook$Page", name := "markOf", desc := "(LQuarrelBook$Move;[LQuarrelBook$Master;)I" } : Jvm.MethodName) prog_8_method_5_code (5 : Nat) (Option.some Jvm.ClassFile.FieldType.int)) ∈ lw_good := lw_mem 819 (by decide +kernel) rfl
set_option maxRecDepth 100000 in
theorem q_820 : (Jvm.Cond.methodLink "QuarrelBook$Page" (58 : Nat) ({ cls := "QuarrelBook$Book", name := "caseTraits", desc := "(I)I" } : Jvm.MethodName)) ∈ lw_good := lw_mem 820 (by decide +kernel) rfl
set_option maxRecDepth 100000 in
theorem q_821 : (Jvm.Cond.methodLink "QuarrelBook$Page" (62 : Nat) ({ cls := "java/lang/Integer", name := "bitCount", desc := "(I)I" } : Jvm.MethodName)) ∈ lw_good := lw_mem 821 (by decide +kernel) rfl
set_option maxRecDepth 100000 in
theorem q_822 : (Jvm.Cond.methodLink "QuarrelBook$Page" (82 : Nat) ({ cls := "QuarrelBook$Rules", name := "verdict", desc := "(II)I" } : Jvm.MethodName)) ∈ lw_good := lw_mem 822 (by decide +kernel) rfl
set_option maxRecDepth 100000 in
theorem q_823 : (Jvm.Cond.methodLink "QuarrelBook$Page" (93 : Nat) ({ cls := "QuarrelBook$Page", name := "sayingsFrom", desc := "(II)I" } : Jvm.MethodName)) ∈ lw_good := lw_mem 823 (by decide +kernel) rfl
set_option maxRecDepth 100000 in
theorem q_825 : (Jvm.Cond.instanceMethod ({ cls := "QuarrelBook$Page", name := "sayingsFrom", desc := "(II)I" } : Jvm.MethodName)) ∈ lw_good := lw_mem 825 (by decide +kernel) rfl
set_option maxRecDepth 100000 in
theorem q_826 : (Jvm.Cond.code ({ cls := "QuarrelBook$Page", name := "sayingsFrom", desc := "(II)I" } : Jvm.MethodName) prog_8_method_6_code (5 : Nat) (Option.some Jvm.ClassFile.FieldType.int)) ∈ lw_good := lw_mem 826 (by decide +kernel) rfl
set_option maxRecDepth 100000 in
theorem q_827 : (Jvm.Cond.methodLink "QuarrelBook$Page" (100 : Nat) ({ cls := "QuarrelBook$Book", name := "strainOf", desc := "(II)I" } : Jvm.MethodName)) ∈ lw_good := lw_mem 827 (by decide +kernel) rfl
set_option maxRecDepth 100000 in
theorem q_828 : (Jvm.Cond.methodLink "QuarrelBook$Page" (103 : Nat) ({ cls := "QuarrelBook$Bench", name := "sumOf", desc := "(I)I" } : Jvm.MethodName)) ∈ lw_good := lw_mem 828 (by decide +kernel) rfl
set_option maxRecDepth 100000 in
theorem q_833 : (Jvm.Cond.methodLink "QuarrelBook" (312 : Nat) ({ cls := "QuarrelBook$Page", name := "readThrough", desc := "([LQuarrelBook$Master;)V" } : Jvm.MethodName)) ∈ lw_good := lw_mem 833 (by decide +kernel) rfl
set_option maxRecDepth 100000 in
theorem q_834 : (Jvm.Cond.instanceMethod ({ cls := "QuarrelBook$Page", name := "readThrough", desc := "([LQuarrelBook$Master;)V" } : Jvm.MethodName)) ∈ lw_good := lw_mem 834 (by decide +kernel) rfl
set_option maxRecDepth 100000 in
theorem q_835 : (Jvm.Cond.selects "QuarrelBook$Page" ({ cls := "QuarrelBook$Page", name := "readThrough", desc := "([LQuarrelBook$Master;)V" } : Jvm.MethodName) ({ cls := "QuarrelBook$Page", name := "readThrough", desc := "([LQuarrelBook$Master;)V" } : Jvm.MethodName)) ∈ lw_good := lw_mem 835 (by decide +kernel) rfl
set_option maxRecDepth 100000 in
theorem q_836 : (Jvm.Cond.code ({ cls := "QuarrelBook$Page", name := "readThrough", desc := "([LQuarrelBook$Master;)V" } : Jvm.MethodName) prog_8_method_7_code (5 : Nat) (Option.none : Option Jvm.ClassFile.FieldType)) ∈ lw_good := lw_mem 836 (by decide +kernel) rfl
set_option maxRecDepth 100000 in
theorem q_837 : (Jvm.Cond.methodLink "QuarrelBook$Page" (118 : Nat) ({ cls := "QuarrelBook$Page", name := "lastOpen", desc := "(II)I" } : Jvm.MethodName)) ∈ lw_good := lw_mem 837 (by decide +kernel) rfl
set_option maxRecDepth 100000 in
theorem q_839 : (Jvm.Cond.instanceMethod ({ cls := "QuarrelBook$Page", name := "lastOpen", desc := "(II)I" } : Jvm.MethodName)) ∈ lw_good := lw_mem 839 (by decide +kernel) rfl
set_option maxRecDepth 100000 in
theorem q_840 : (Jvm.Cond.code ({ cls := "QuarrelBook$Page", name := "lastOpen", desc := "(II)I" } : Jvm.MethodName) prog_8_method_8_code (4 : Nat) (Option.some Jvm.ClassFile.FieldType.int)) ∈ lw_good := lw_mem 840 (by decide +kernel) rfl
set_option maxRecDepth 100000 in
theorem q_841 : (Jvm.Cond.methodLink "QuarrelBook$Page" (121 : Nat) ({ cls := "QuarrelBook$Page", name := "closes", desc := "(LQuarrelBook$Move;I[LQuarrelBook$Master;)Z" } : Jvm.MethodName)) ∈ lw_good := lw_mem 841 (by decide +kernel) rfl
set_option maxRecDepth 100000 in
theorem q_843 : (Jvm.Cond.instanceMethod ({ cls := "QuarrelBook$Page", name := "closes", desc := "(LQuarrelBook$Move;I[LQuarrelBook$Master;)Z" } : Jvm.MethodName)) ∈ lw_good := lw_mem 843 (by decide +kernel) rfl
set_option maxRecDepth 100000 in
theorem q_844 : (Jvm.Cond.code ({ cls := "QuarrelBook$Page", name := "closes", desc := "(LQuarrelBook$Move;I[LQuarrelBook$Master;)Z" } : Jvm.MethodName) prog_8_method_9_code (8 : Nat) (Option.some Jvm.ClassFile.FieldType.boolean)) ∈ lw_good := lw_mem 844 (by decide +kernel) rfl
set_option maxRecDepth 100000 in
theorem q_845 : (Jvm.Cond.methodLink "QuarrelBook$Page" (128 : Nat) ({ cls := "QuarrelBook$Page", name := "fitsSomeCheap", desc := "(LQuarrelBook$Saying;ILQuarrelBook$Mind;)Z" } : Jvm.MethodName)) ∈ lw_good := lw_mem 845 (by decide +kernel) rfl
set_option maxRecDepth 100000 in
theorem q_847 : (Jvm.Cond.instanceMethod ({ cls := "QuarrelBook$Page", name := "fitsSomeCheap", desc := "(LQuarrelBook$Saying;ILQuarrelBook$Mind;)Z" } : Jvm.MethodName)) ∈ lw_good := lw_mem 847 (by decide +kernel) rfl
set_option maxRecDepth 100000 in
theorem q_848 : (Jvm.Cond.code ({ cls := "QuarrelBook$Page", name := "fitsSomeCheap", desc := "(LQuarrelBook$Saying;ILQuarrelBook$Mind;)Z" } : Jvm.MethodName) prog_8_method_10_code (5 : Nat) (Option.some Jvm.ClassFile.FieldType.boolean)) ∈ lw_good := lw_mem 848 (by decide +kernel) rfl
set_option maxRecDepth 100000 in
theorem q_849 : (Jvm.Cond.methodLink "QuarrelBook$Page" (142 : Nat) ({ cls := "QuarrelBook$Rules", name := "fitting", desc := "(IIII)Z" } : Jvm.MethodName)) ∈ lw_good := lw_mem 849 (by decide +kernel) rfl
set_option maxRecDepth 100000 in
theorem q_850 : (Jvm.Cond.instanceMethod ({ cls := "QuarrelBook$Rules", name := "fitting", desc := "(IIII)Z" } : Jvm.MethodName)) ∈ lw_good := lw_mem 850 (by decide +kernel) rfl
set_option maxRecDepth 100000 in
theorem q_851 : (Jvm.Cond.selects "QuarrelBook$Rules" ({ cls := "QuarrelBook$Rules", name := "fitting", desc := "(IIII)Z" } : Jvm.MethodName) ({ cls := "QuarrelBook$Rules", name := "fitting", desc := "(IIII)Z" } : Jvm.MethodName)) ∈ lw_good := lw_mem 851 (by decide +kernel) rfl
set_option maxRecDepth 100000 in
theorem q_852 : (Jvm.Cond.code ({ cls := "QuarrelBook$Rules", name := "fitting", desc := "(IIII)Z" } : Jvm.MethodName) prog_10_method_4_code (5 : Nat) (Option.some Jvm.ClassFile.FieldType.boolean)) ∈ lw_good := lw_mem 852 (by decide +kernel) rfl
set_option maxRecDepth 100000 in
theorem q_857 : (Jvm.Cond.methodLink "QuarrelBook" (322 : Nat) ({ cls := "QuarrelBook$Court", name := "ruling", desc := "(II[LQuarrelBook$Master;)I" } : Jvm.MethodName)) ∈ lw_good := lw_mem 857 (by decide +kernel) rfl
set_option maxRecDepth 100000 in
theorem q_858 : (Jvm.Cond.instanceMethod ({ cls := "QuarrelBook$Court", name := "ruling", desc := "(II[LQuarrelBook$Master;)I" } : Jvm.MethodName)) ∈ lw_good := lw_mem 858 (by decide +kernel) rfl
set_option maxRecDepth 100000 in
theorem q_859 : (Jvm.Cond.selects "QuarrelBook$Court" ({ cls := "QuarrelBook$Court", name := "ruling", desc := "(II[LQuarrelBook$Master;)I" } : Jvm.MethodName) ({ cls := "QuarrelBook$Court", name := "ruling", desc := "(II[LQuarrelBook$Master;)I" } : Jvm.MethodName)) ∈ lw_good := lw_mem 859 (by decide +kernel) rfl
set_option maxRecDepth 100000 in
theorem q_860 : (Jvm.Cond.code ({ cls := "QuarrelBook$Court", name := "ruling", desc := "(II[LQuarrelBook$Master;)I" } : Jvm.MethodName) prog_4_method_2_code (4 : Nat) (Option.some Jvm.ClassFile.FieldType.int)) ∈ lw_good := lw_mem 860 (by decide +kernel) rfl
set_option maxRecDepth 100000 in
theorem q_861 : (Jvm.Cond.methodLink "QuarrelBook$Court" (19 : Nat) ({ cls := "QuarrelBook$Court", name := "ofTheLater", desc := "(I[LQuarrelBook$Master;)I" } : Jvm.MethodName)) ∈ lw_good := lw_mem 861 (by decide +kernel) rfl
set_option maxRecDepth 100000 in
theorem q_863 : (Jvm.Cond.instanceMethod ({ cls := "QuarrelBook$Court", name := "ofTheLater", desc := "(I[LQuarrelBook$Master;)I" } : Jvm.MethodName)) ∈ lw_good := lw_mem 863 (by decide +kernel) rfl
set_option maxRecDepth 100000 in
theorem q_864 : (Jvm.Cond.code ({ cls := "QuarrelBook$Court", name := "ofTheLater", desc := "(I[LQuarrelBook$Master;)I" } : Jvm.MethodName) prog_4_method_4_code (5 : Nat) (Option.some Jvm.ClassFile.FieldType.int)) ∈ lw_good := lw_mem 864 (by decide +kernel) rfl
set_option maxRecDepth 100000 in
theorem q_865 : (Jvm.Cond.methodLink "QuarrelBook$Court" (32 : Nat) ({ cls := "QuarrelBook$Master", name := "hasSpoken", desc := "()Z" } : Jvm.MethodName)) ∈ lw_good := lw_mem 865 (by decide +kernel) rfl
set_option maxRecDepth 100000 in
theorem q_866 : (Jvm.Cond.methodLink "QuarrelBook$Court" (55 : Nat) ({ cls := "QuarrelBook$Rules", name := "verdict", desc := "(II)I" } : Jvm.MethodName)) ∈ lw_good := lw_mem 866 (by decide +kernel) rfl
set_option maxRecDepth 100000 in
theorem q_867 : (Jvm.Cond.methodLink "QuarrelBook$Court" (23 : Nat) ({ cls := "QuarrelBook$Court", name := "ofTheMore", desc := "(II[LQuarrelBook$Master;)I" } : Jvm.MethodName)) ∈ lw_good := lw_mem 867 (by decide +kernel) rfl
set_option maxRecDepth 100000 in
theorem q_869 : (Jvm.Cond.instanceMethod ({ cls := "QuarrelBook$Court", name := "ofTheMore", desc := "(II[LQuarrelBook$Master;)I" } : Jvm.MethodName)) ∈ lw_good := lw_mem 869 (by decide +kernel) rfl
set_option maxRecDepth 100000 in
theorem q_870 : (Jvm.Cond.code ({ cls := "QuarrelBook$Court", name := "ofTheMore", desc := "(II[LQuarrelBook$Master;)I" } : Jvm.MethodName) prog_4_method_3_code (8 : Nat) (Option.some Jvm.ClassFile.FieldType.int)) ∈ lw_good := lw_mem 870 (by decide +kernel) rfl
set_option maxRecDepth 100000 in
theorem q_871 : (Jvm.Cond.methodLink "QuarrelBook$Court" (38 : Nat) ({ cls := "QuarrelBook$Book", name := "pupils", desc := "(I)I" } : Jvm.MethodName)) ∈ lw_good := lw_mem 871 (by decide +kernel) rfl
set_option maxRecDepth 100000 in
theorem q_880 : (Jvm.Cond.methodLink "QuarrelBook" (329 : Nat) ({ cls := "QuarrelBook$Mind", name := "wouldSay", desc := "(I)I" } : Jvm.MethodName)) ∈ lw_good := lw_mem 880 (by decide +kernel) rfl
set_option maxRecDepth 100000 in
theorem q_881 : (Jvm.Cond.instanceMethod ({ cls := "QuarrelBook$Mind", name := "wouldSay", desc := "(I)I" } : Jvm.MethodName)) ∈ lw_good := lw_mem 881 (by decide +kernel) rfl
set_option maxRecDepth 100000 in
theorem q_882 : (Jvm.Cond.selects "QuarrelBook$Mind" ({ cls := "QuarrelBook$Mind", name := "wouldSay", desc := "(I)I" } : Jvm.MethodName) ({ cls := "QuarrelBook$Mind", name := "wouldSay", desc := "(I)I" } : Jvm.MethodName)) ∈ lw_good := lw_mem 882 (by decide +kernel) rfl
set_option maxRecDepth 100000 in
theorem q_883 : (Jvm.Cond.code ({ cls := "QuarrelBook$Mind", name := "wouldSay", desc := "(I)I" } : Jvm.MethodName) prog_6_method_6_code (2 : Nat) (Option.some Jvm.ClassFile.FieldType.int)) ∈ lw_good := lw_mem 883 (by decide +kernel) rfl
set_option maxRecDepth 100000 in
theorem q_884 : (Jvm.Cond.methodLink "QuarrelBook$Mind" (54 : Nat) ({ cls := "QuarrelBook$Mind", name := "mayOwe", desc := "(I)Z" } : Jvm.MethodName)) ∈ lw_good := lw_mem 884 (by decide +kernel) rfl
set_option maxRecDepth 100000 in
theorem q_885 : (Jvm.Cond.methodLink "QuarrelBook$Mind" (58 : Nat) ({ cls := "QuarrelBook$Mind", name := "mayNotOwe", desc := "(I)Z" } : Jvm.MethodName)) ∈ lw_good := lw_mem 885 (by decide +kernel) rfl
set_option maxRecDepth 100000 in
theorem q_890 : (Jvm.Cond.methodLink "QuarrelBook" (332 : Nat) ({ cls := "QuarrelBook$Book", name := "manyUnsure", desc := "(I[LQuarrelBook$Master;)I" } : Jvm.MethodName)) ∈ lw_good := lw_mem 890 (by decide +kernel) rfl
set_option maxRecDepth 100000 in
theorem q_891 : (Jvm.Cond.instanceMethod ({ cls := "QuarrelBook$Book", name := "manyUnsure", desc := "(I[LQuarrelBook$Master;)I" } : Jvm.MethodName)) ∈ lw_good := lw_mem 891 (by decide +kernel) rfl
set_option maxRecDepth 100000 in
theorem q_892 : (Jvm.Cond.selects "QuarrelBook$Book" ({ cls := "QuarrelBook$Book", name := "manyUnsure", desc := "(I[LQuarrelBook$Master;)I" } : Jvm.MethodName) ({ cls := "QuarrelBook$Book", name := "manyUnsure", desc := "(I[LQuarrelBook$Master;)I" } : Jvm.MethodName)) ∈ lw_good := lw_mem 892 (by decide +kernel) rfl
set_option maxRecDepth 100000 in
theorem q_893 : (Jvm.Cond.code ({ cls := "QuarrelBook$Book", name := "manyUnsure", desc := "(I[LQuarrelBook$Master;)I" } : Jvm.MethodName) prog_3_method_20_code (6 : Nat) (Option.some Jvm.ClassFile.FieldType.int)) ∈ lw_good := lw_mem 893 (by decide +kernel) rfl
set_option maxRecDepth 100000 in
theorem q_894 : (Jvm.Cond.methodLink "QuarrelBook$Book" (161 : Nat) ({ cls := "QuarrelBook$Mind", name := "wouldSay", desc := "(I)I" } : Jvm.MethodName)) ∈ lw_good := lw_mem 894 (by decide +kernel) rfl
set_option maxRecDepth 100000 in
theorem q_911 : (Jvm.Cond.methodLink "QuarrelBook" (335 : Nat) ({ cls := "QuarrelBook", name := "amount", desc := "(I)I" } : Jvm.MethodName)) ∈ lw_good := lw_mem 911 (by decide +kernel) rfl
set_option maxRecDepth 100000 in
theorem q_913 : (Jvm.Cond.instanceMethod ({ cls := "QuarrelBook", name := "amount", desc := "(I)I" } : Jvm.MethodName)) ∈ lw_good := lw_mem 913 (by decide +kernel) rfl
set_option maxRecDepth 100000 in
theorem q_914 : (Jvm.Cond.code ({ cls := "QuarrelBook", name := "amount", desc := "(I)I" } : Jvm.MethodName) prog_1_method_59_code (2 : Nat) (Option.some Jvm.ClassFile.FieldType.int)) ∈ lw_good := lw_mem 914 (by decide +kernel) rfl
set_option maxRecDepth 100000 in
theorem q_915 : (Jvm.Cond.methodLink "QuarrelBook" (349 : Nat) ({ cls := "QuarrelBook$Page", name := "objections", desc := "()I" } : Jvm.MethodName)) ∈ lw_good := lw_mem 915 (by decide +kernel) rfl
set_option maxRecDepth 100000 in
theorem q_916 : (Jvm.Cond.instanceMethod ({ cls := "QuarrelBook$Page", name := "objections", desc := "()I" } : Jvm.MethodName)) ∈ lw_good := lw_mem 916 (by decide +kernel) rfl
set_option maxRecDepth 100000 in
theorem q_917 : (Jvm.Cond.selects "QuarrelBook$Page" ({ cls := "QuarrelBook$Page", name := "objections", desc := "()I" } : Jvm.MethodName) ({ cls := "QuarrelBook$Page", name := "objections", desc := "()I" } : Jvm.MethodName)) ∈ lw_good := lw_mem 917 (by decide +kernel) rfl
set_option maxRecDepth 100000 in
theorem q_918 : (Jvm.Cond.code ({ cls := "QuarrelBook$Page", name := "objections", desc := "()I" } : Jvm.MethodName) prog_8_method_4_code (3 : Nat) (Option.some Jvm.ClassFile.FieldType.int)) ∈ lw_good := lw_mem 918 (by decide +kernel) rfl
set_option maxRecDepth 100000 in
theorem q_919 : (Jvm.Cond.methodLink "QuarrelBook" (352 : Nat) ({ cls := "QuarrelBook", name := "rowsThere", desc := "()I" } : Jvm.MethodName)) ∈ lw_good := lw_mem 919 (by decide +kernel) rfl
set_option maxRecDepth 100000 in
theorem q_921 : (Jvm.Cond.instanceMethod ({ cls := "QuarrelBook", name := "rowsThere", desc := "()I" } : Jvm.MethodName)) ∈ lw_good := lw_mem 921 (by decide +kernel) rfl
set_option maxRecDepth 100000 in
theorem q_922 : (Jvm.Cond.code ({ cls := "QuarrelBook", name := "rowsThere", desc := "()I" } : Jvm.MethodName) prog_1_method_60_code (3 : Nat) (Option.some Jvm.ClassFile.FieldType.int)) ∈ lw_good := lw_mem 922 (by decide +kernel) rfl
set_option maxRecDepth 100000 in
theorem q_923 : (Jvm.Cond.methodLink "QuarrelBook" (355 : Nat) ({ cls := "QuarrelBook", name := "textsThere", desc := "()I" } : Jvm.MethodName)) ∈ lw_good := lw_mem 923 (by decide +kernel) rfl
set_option maxRecDepth 100000 in
theorem q_925 : (Jvm.Cond.instanceMethod ({ cls := "QuarrelBook", name := "textsThere", desc := "()I" } : Jvm.MethodName)) ∈ lw_good := lw_mem 925 (by decide +kernel) rfl
set_option maxRecDepth 100000 in
theorem q_926 : (Jvm.Cond.code ({ cls := "QuarrelBook", name := "textsThere", desc := "()I" } : Jvm.MethodName) prog_1_method_61_code (3 : Nat) (Option.some Jvm.ClassFile.FieldType.int)) ∈ lw_good := lw_mem 926 (by decide +kernel) rfl
set_option maxRecDepth 100000 in
theorem q_939 : (Jvm.Cond.constantLong "QuarrelBook" (338 : Nat) (17 : Int64)) ∈ lw_good := lw_mem 939 (by decide +kernel) rfl
set_option maxRecDepth 100000 in
theorem q_940 : (Jvm.Cond.constantLong "QuarrelBook" (340 : Nat) (31 : Int64)) ∈ lw_good := lw_mem 940 (by decide +kernel) rfl
set_option maxRecDepth 100000 in
theorem q_941 : (Jvm.Cond.methodLink "QuarrelBook" (342 : Nat) ({ cls := "QuarrelBook$Book", name := "digestFrom", desc := "(J)J" } : Jvm.MethodName)) ∈ lw_good := lw_mem 941 (by decide +kernel) rfl
set_option maxRecDepth 100000 in
theorem q_942 : (Jvm.Cond.instanceMethod ({ cls := "QuarrelBook$Book", name := "digestFrom", desc := "(J)J" } : Jvm.MethodName)) ∈ lw_good := lw_mem 942 (by decide +kernel) rfl
set_option maxRecDepth 100000 in
theorem q_943 : (Jvm.Cond.selects "QuarrelBook$Book" ({ cls := "QuarrelBook$Book", name := "digestFrom", desc := "(J)J" } : Jvm.MethodName) ({ cls := "QuarrelBook$Book", name := "digestFrom", desc := "(J)J" } : Jvm.MethodName)) ∈ lw_good := lw_mem 943 (by decide +kernel) rfl
set_option maxRecDepth 100000 in
theorem q_944 : (Jvm.Cond.code ({ cls := "QuarrelBook$Book", name := "digestFrom", desc := "(J)J" } : Jvm.MethodName) prog_3_method_22_code (7 : Nat) (Option.some Jvm.ClassFile.FieldType.long)) ∈ lw_good := lw_mem 944 (by decide +kernel) rfl
set_option maxRecDepth 100000 in
theorem q_945 : (Jvm.Cond.constantLong "QuarrelBook$Book" (172 : Nat) (31 : Int64)) ∈ lw_good := lw_mem 945 (by decide +kernel) rfl
set_option maxRecDepth 100000 in
theorem q_946 : (Jvm.Cond.methodLink "QuarrelBook$Book" (174 : Nat) ({ cls := "QuarrelBook$Book", name := "lifeFigure", desc := "(II)I" } : Jvm.MethodName)) ∈ lw_good := lw_mem 946 (by decide +kernel) rfl
set_option maxRecDepth 100000 in
theorem q_947 : (Jvm.Cond.methodLink "QuarrelBook$Book" (177 : Nat) ({ cls := "QuarrelBook$Saying", name := "figure", desc := "(I)I" } : Jvm.MethodName)) ∈ lw_good := lw_mem 947 (by decide +kernel) rfl
set_option maxRecDepth 100000 in
theorem q_948 : (Jvm.Cond.methodLink "QuarrelBook" (346 : Nat) ({ cls := "QuarrelBook$Page", name := "digestFrom", desc := "(J)J" } : Jvm.MethodName)) ∈ lw_good := lw_mem 948 (by decide +kernel) rfl
set_option maxRecDepth 100000 in
theorem q_949 : (Jvm.Cond.instanceMethod ({ cls := "QuarrelBook$Page", name := "digestFrom", desc := "(J)J" } : Jvm.MethodName)) ∈ lw_good := lw_mem 949 (by decide +kernel) rfl
set_option maxRecDepth 100000 in
theorem q_950 : (Jvm.Cond.selects "QuarrelBook$Page" ({ cls := "QuarrelBook$Page", name := "digestFrom", desc := "(J)J" } : Jvm.MethodName) ({ cls := "QuarrelBook$Page", name := "digestFrom", desc := "(J)J" } : Jvm.MethodName)) ∈ lw_good := lw_mem 950 (by decide +kernel) rfl
set_option maxRecDepth 100000 in
theorem q_951 : (Jvm.Cond.code ({ cls := "QuarrelBook$Page", name := "digestFrom", desc := "(J)J" } : Jvm.MethodName) prog_8_method_11_code (7 : Nat) (Option.some Jvm.ClassFile.FieldType.long)) ∈ lw_good := lw_mem 951 (by decide +kernel) rfl
set_option maxRecDepth 100000 in
theorem q_952 : (Jvm.Cond.constantLong "QuarrelBook$Page" (146 : Nat) (31 : Int64)) ∈ lw_good := lw_mem 952 (by decide +kernel) rfl
set_option maxRecDepth 100000 in
theorem q_953 : (Jvm.Cond.methodLink "QuarrelBook$Page" (148 : Nat) ({ cls := "QuarrelBook$Move", name := "figure", desc := "(I)I" } : Jvm.MethodName)) ∈ lw_good := lw_mem 953 (by decide +kernel) rfl
set_option maxRecDepth 100000 in
theorem q_954 : (Jvm.Cond.methodLink "QuarrelBook" (347 : Nat) ({ cls := "QuarrelBook$Row", name := "digestFrom", desc := "(J)J" } : Jvm.MethodName)) ∈ lw_good := lw_mem 954 (by decide +kernel) rfl
set_option maxRecDepth 100000 in
theorem q_955 : (Jvm.Cond.instanceMethod ({ cls := "QuarrelBook$Row", name := "digestFrom", desc := "(J)J" } : Jvm.MethodName)) ∈ lw_good := lw_mem 955 (by decide +kernel) rfl
set_option maxRecDepth 100000 in
theorem q_956 : (Jvm.Cond.selects "QuarrelBook$Row" ({ cls := "QuarrelBook$Row", name := "digestFrom", desc := "(J)J" } : Jvm.MethodName) ({ cls := "QuarrelBook$Row", name := "digestFrom", desc := "(J)J" } : Jvm.MethodName)) ∈ lw_good := lw_mem 956 (by decide +kernel) rfl
set_option maxRecDepth 100000 in
theorem q_957 : (Jvm.Cond.code ({ cls := "QuarrelBook$Row", name := "digestFrom", desc := "(J)J" } : Jvm.MethodName) prog_9_method_5_code (6 : Nat) (Option.some Jvm.ClassFile.FieldType.long)) ∈ lw_good := lw_mem 957 (by decide +kernel) rfl
set_option maxRecDepth 100000 in
theorem q_958 : (Jvm.Cond.constantLong "QuarrelBook$Row" (25 : Nat) (31 : Int64)) ∈ lw_good := lw_mem 958 (by decide +kernel) rfl
set_option maxRecDepth 100000 in
theorem q_959 : (Jvm.Cond.methodLink "QuarrelBook" (348 : Nat) ({ cls := "QuarrelBook$Text", name := "digestFrom", desc := "(J)J" } : Jvm.MethodName)) ∈ lw_good := lw_mem 959 (by decide +kernel) rfl
set_option maxRecDepth 100000 in
theorem q_960 : (Jvm.Cond.instanceMethod ({ cls := "QuarrelBook$Text", name := "digestFrom", desc := "(J)J" } : Jvm.MethodName)) ∈ lw_good := lw_mem 960 (by decide +kernel) rfl
set_option maxRecDepth 100000 in
theorem q_961 : (Jvm.Cond.selects "QuarrelBook$Text" ({ cls := "QuarrelBook$Text", name := "digestFrom", desc := "(J)J" } : Jvm.MethodName) ({ cls := "QuarrelBook$Text", name := "digestFrom", desc := "(J)J" } : Jvm.MethodName)) ∈ lw_good := lw_mem 961 (by decide +kernel) rfl
set_option maxRecDepth 100000 in
theorem q_962 : (Jvm.Cond.code ({ cls := "QuarrelBook$Text", name := "digestFrom", desc := "(J)J" } : Jvm.MethodName) prog_12_method_7_code (6 : Nat) (Option.some Jvm.ClassFile.FieldType.long)) ∈ lw_good := lw_mem 962 (by decide +kernel) rfl
set_option maxRecDepth 100000 in
theorem q_963 : (Jvm.Cond.constantLong "QuarrelBook$Text" (46 : Nat) (31 : Int64)) ∈ lw_good := lw_mem 963 (by decide +kernel) rfl
set_option maxRecDepth 100000 in
theorem q_970 : (Jvm.Cond.fieldLink "QuarrelBookModel" (90 : Nat) "QuarrelBookModel" "finding" "I") ∈ lw_good := lw_mem 970 (by decide +kernel) rfl
set_option maxRecDepth 100000 in
theorem q_971 : (Jvm.Cond.fieldLink "QuarrelBookModel" (7 : Nat) "QuarrelBookModel" "findings" "[I") ∈ lw_good := lw_mem 971 (by decide +kernel) rfl
set_option maxRecDepth 100000 in
theorem q_972 : (Jvm.Cond.fieldLink "QuarrelBookModel" (94 : Nat) "QuarrelBookModel" "asked" "I") ∈ lw_good := lw_mem 972 (by decide +kernel) rfl
set_option maxRecDepth 100000 in
theorem q_973 : (Jvm.Cond.fieldLink "QuarrelBookModel" (259 : Nat) "QuarrelBookModel" "upper" "J") ∈ lw_good := lw_mem 973 (by decide +kernel) rfl
set_option maxRecDepth 100000 in
theorem q_974 : (Jvm.Cond.fieldLink "QuarrelBookModel" (13 : Nat) "QuarrelBookModel" "lower" "J") ∈ lw_good := lw_mem 974 (by decide +kernel) rfl
set_option maxRecDepth 100000 in
theorem q_975 : (Jvm.Cond.fieldLink "QuarrelBookModel" (17 : Nat) "QuarrelBookModel" "sizes" "[I") ∈ lw_good := lw_mem 975 (by decide +kernel) rfl
set_option maxRecDepth 100000 in
theorem q_976 : (Jvm.Cond.fieldLink "QuarrelBookModel" (20 : Nat) "QuarrelBookModel" "rows" "[I") ∈ lw_good := lw_mem 976 (by decide +kernel) rfl
set_option maxRecDepth 100000 in
theorem q_977 : (Jvm.Cond.fieldLink "QuarrelBookModel" (23 : Nat) "QuarrelBookModel" "moving" "[I") ∈ lw_good := lw_mem 977 (by decide +kernel) rfl
set_option maxRecDepth 100000 in
theorem q_978 : (Jvm.Cond.fieldLink "QuarrelBookModel" (26 : Nat) "QuarrelBookModel" "lengths" "[I") ∈ lw_good := lw_mem 978 (by decide +kernel) rfl
set_option maxRecDepth 100000 in
theorem q_979 : (Jvm.Cond.fieldLink "QuarrelBookModel" (29 : Nat) "QuarrelBookModel" "texts" "[I") ∈ lw_good := lw_mem 979 (by decide +kernel) rfl
set_option maxRecDepth 100000 in
theorem q_980 : (Jvm.Cond.fieldLink "QuarrelBookModel" (125 : Nat) "QuarrelBookModel" "caseMany" "I") ∈ lw_good := lw_mem 980 (by decide +kernel) rfl
set_option maxRecDepth 100000 in
theorem q_981 : (Jvm.Cond.fieldLink "QuarrelBookModel" (32 : Nat) "QuarrelBookModel" "cases" "[I") ∈ lw_good := lw_mem 981 (by decide +kernel) rfl
set_option maxRecDepth 100000 in
theorem q_982 : (Jvm.Cond.fieldLink "QuarrelBookModel" (128 : Nat) "QuarrelBookModel" "masterMany" "I") ∈ lw_good := lw_mem 982 (by decide +kernel) rfl
set_option maxRecDepth 100000 in
theorem q_983 : (Jvm.Cond.fieldLink "QuarrelBookModel" (35 : Nat) "QuarrelBookModel" "born" "[I") ∈ lw_good := lw_mem 983 (by decide +kernel) rfl
set_option maxRecDepth 100000 in
theorem q_984 : (Jvm.Cond.fieldLink "QuarrelBookModel" (38 : Nat) "QuarrelBookModel" "dies" "[I") ∈ lw_good := lw_mem 984 (by decide +kernel) rfl
set_option maxRecDepth 100000 in
theorem q_985 : (Jvm.Cond.fieldLink "QuarrelBookModel" (41 : Nat) "QuarrelBookModel" "teacher" "[I") ∈ lw_good := lw_mem 985 (by decide +kernel) rfl
set_option maxRecDepth 100000 in
theorem q_986 : (Jvm.Cond.fieldLink "QuarrelBookModel" (131 : Nat) "QuarrelBookModel" "sayingMany" "I") ∈ lw_good := lw_mem 986 (by decide +kernel) rfl
set_option maxRecDepth 100000 in
theorem q_987 : (Jvm.Cond.fieldLink "QuarrelBookModel" (44 : Nat) "QuarrelBookModel" "masterOf" "[I") ∈ lw_good := lw_mem 987 (by decide +kernel) rfl
set_option maxRecDepth 100000 in
theorem q_988 : (Jvm.Cond.fieldLink "QuarrelBookModel" (47 : Nat) "QuarrelBookModel" "caseOf" "[I") ∈ lw_good := lw_mem 988 (by decide +kernel) rfl
set_option maxRecDepth 100000 in
theorem q_989 : (Jvm.Cond.fieldLink "QuarrelBookModel" (50 : Nat) "QuarrelBookModel" "yearOf" "[I") ∈ lw_good := lw_mem 989 (by decide +kernel) rfl
set_option maxRecDepth 100000 in
theorem q_990 : (Jvm.Cond.fieldLink "QuarrelBookModel" (53 : Nat) "QuarrelBookModel" "answerOf" "[I") ∈ lw_good := lw_mem 990 (by decide +kernel) rfl
set_option maxRecDepth 100000 in
theorem q_991 : (Jvm.Cond.fieldLink "QuarrelBookModel" (56 : Nat) "QuarrelBookModel" "because" "[I") ∈ lw_good := lw_mem 991 (by decide +kernel) rfl
set_option maxRecDepth 100000 in
theorem q_992 : (Jvm.Cond.fieldLink "QuarrelBookModel" (59 : Nat) "QuarrelBookModel" "copies" "[I") ∈ lw_good := lw_mem 992 (by decide +kernel) rfl
set_option maxRecDepth 100000 in
theorem q_993 : (Jvm.Cond.fieldLink "QuarrelBookModel" (172 : Nat) "QuarrelBookModel" "readRule" "I") ∈ lw_good := lw_mem 993 (by decide +kernel) rfl
set_option maxRecDepth 100000 in
theorem q_994 : (Jvm.Cond.fieldLink "QuarrelBookModel" (62 : Nat) "QuarrelBookModel" "price" "[I") ∈ lw_good := lw_mem 994 (by decide +kernel) rfl
set_option maxRecDepth 100000 in
theorem q_995 : (Jvm.Cond.fieldLink "QuarrelBookModel" (65 : Nat) "QuarrelBookModel" "table" "[I") ∈ lw_good := lw_mem 995 (by decide +kernel) rfl
set_option maxRecDepth 100000 in
theorem q_996 : (Jvm.Cond.fieldLink "QuarrelBookModel" (205 : Nat) "QuarrelBookModel" "rowsOf" "I") ∈ lw_good := lw_mem 996 (by decide +kernel) rfl
set_option maxRecDepth 100000 in
theorem q_997 : (Jvm.Cond.fieldLink "QuarrelBookModel" (225 : Nat) "QuarrelBookModel" "settledSum" "I") ∈ lw_good := lw_mem 997 (by decide +kernel) rfl
set_option maxRecDepth 100000 in
theorem q_998 : (Jvm.Cond.fieldLink "QuarrelBookModel" (212 : Nat) "QuarrelBookModel" "lesser" "I") ∈ lw_good := lw_mem 998 (by decide +kernel) rfl
set_option maxRecDepth 100000 in
theorem q_999 : (Jvm.Cond.fieldLink "QuarrelBookModel" (215 : Nat) "QuarrelBookModel" "greater" "I") ∈ lw_good := lw_mem 999 (by decide +kernel) rfl
set_option maxRecDepth 100000 in
theorem q_1000 : (Jvm.Cond.fieldLink "QuarrelBookModel" (219 : Nat) "QuarrelBookModel" "oneSum" "I") ∈ lw_good := lw_mem 1000 (by decide +kernel) rfl
set_option maxRecDepth 100000 in
theorem q_1001 : (Jvm.Cond.fieldLink "QuarrelBookModel" (68 : Nat) "QuarrelBookModel" "isCheap" "[Z") ∈ lw_good := lw_mem 1001 (by decide +kernel) rfl
set_option maxRecDepth 100000 in
theorem q_1002 : (Jvm.Cond.fieldLink "QuarrelBookModel" (72 : Nat) "QuarrelBookModel" "ruleOf" "[I") ∈ lw_good := lw_mem 1002 (by decide +kernel) rfl
set_option maxRecDepth 100000 in
theorem q_1003 : (Jvm.Cond.fieldLink "QuarrelBookModel" (265 : Nat) "QuarrelBookModel" "moveMany" "I") ∈ lw_good := lw_mem 1003 (by decide +kernel) rfl
set_option maxRecDepth 100000 in
theorem q_1004 : (Jvm.Cond.fieldLink "QuarrelBookModel" (75 : Nat) "QuarrelBookModel" "moveKind" "[I") ∈ lw_good := lw_mem 1004 (by decide +kernel) rfl
set_option maxRecDepth 100000 in
theorem q_1005 : (Jvm.Cond.fieldLink "QuarrelBookModel" (78 : Nat) "QuarrelBookModel" "moveOf" "[I") ∈ lw_good := lw_mem 1005 (by decide +kernel) rfl
set_option maxRecDepth 100000 in
theorem q_1006 : (Jvm.Cond.fieldLink "QuarrelBookModel" (81 : Nat) "QuarrelBookModel" "moveV" "[I") ∈ lw_good := lw_mem 1006 (by decide +kernel) rfl
set_option maxRecDepth 100000 in
theorem q_1007 : (Jvm.Cond.fieldLink "QuarrelBookModel" (84 : Nat) "QuarrelBookModel" "isOpen" "[Z") ∈ lw_good := lw_mem 1007 (by decide +kernel) rfl
set_option maxRecDepth 100000 in
theorem q_1008 : (Jvm.Cond.fieldLink "QuarrelBookModel" (274 : Nat) "QuarrelBookModel" "votesFor" "I") ∈ lw_good := lw_mem 1008 (by decide +kernel) rfl
set_option maxRecDepth 100000 in
theorem q_1009 : (Jvm.Cond.fieldLink "QuarrelBookModel" (87 : Nat) "QuarrelBookModel" "doubts" "[I") ∈ lw_good := lw_mem 1009 (by decide +kernel) rfl
set_option maxRecDepth 100000 in
theorem q_1010 : (Jvm.Cond.fieldLink "QuarrelBookModel" (288 : Nat) "QuarrelBookModel" "h" "J") ∈ lw_good := lw_mem 1010 (by decide +kernel) rfl
set_option maxRecDepth 100000 in
theorem q_1099 : (Jvm.Cond.methodLink "QuarrelBookModel" (101 : Nat) ({ cls := "QuarrelBookModel", name := "isRow", desc := "(I)Z" } : Jvm.MethodName)) ∈ lw_good := lw_mem 1099 (by decide +kernel) rfl
set_option maxRecDepth 100000 in
theorem q_1100 : (Jvm.Cond.static ({ cls := "QuarrelBookModel", name := "isRow", desc := "(I)Z" } : Jvm.MethodName)) ∈ lw_good := lw_mem 1100 (by decide +kernel) rfl
set_option maxRecDepth 100000 in
theorem q_1101 : (Jvm.Cond.code ({ cls := "QuarrelBookModel", name := "isRow", desc := "(I)Z" } : Jvm.MethodName) prog_14_method_7_code (1 : Nat) (Option.some Jvm.ClassFile.FieldType.boolean)) ∈ lw_good := lw_mem 1101 (by decide +kernel) rfl
set_option maxRecDepth 100000 in
theorem q_1102 : (Jvm.Cond.methodLink "QuarrelBookModel" (97 : Nat) ({ cls := "QuarrelBookModel", name := "in", desc := "(III)Z" } : Jvm.MethodName)) ∈ lw_good := lw_mem 1102 (by decide +kernel) rfl
set_option maxRecDepth 100000 in
theorem q_1103 : (Jvm.Cond.static ({ cls := "QuarrelBookModel", name := "in", desc := "(III)Z" } : Jvm.MethodName)) ∈ lw_good := lw_mem 1103 (by decide +kernel) rfl
set_option maxRecDepth 100000 in
theorem q_1104 : (Jvm.Cond.code ({ cls := "QuarrelBookModel", name := "in", desc := "(III)Z" } : Jvm.MethodName) prog_14_method_3_code (3 : Nat) (Option.some Jvm.ClassFile.FieldType.boolean)) ∈ lw_good := lw_mem 1104 (by decide +kernel) rfl
set_option maxRecDepth 100000 in
theorem q_1105 : (Jvm.Cond.methodLink "QuarrelBookModel" (105 : Nat) ({ cls := "QuarrelBookModel", name := "meets", desc := "(I)I" } : Jvm.MethodName)) ∈ lw_good := lw_mem 1105 (by decide +kernel) rfl
set_option maxRecDepth 100000 in
theorem q_1107 : (Jvm.Cond.instanceMethod ({ cls := "QuarrelBookModel", name := "meets", desc := "(I)I" } : Jvm.MethodName)) ∈ lw_good := lw_mem 1107 (by decide +kernel) rfl
set_option maxRecDepth 100000 in
theorem q_1108 : (Jvm.Cond.code ({ cls := "QuarrelBookModel", name := "meets", desc := "(I)I" } : Jvm.MethodName) prog_14_method_4_code (2 : Nat) (Option.some Jvm.ClassFile.FieldType.int)) ∈ lw_good := lw_mem 1108 (by decide +kernel) rfl
set_option maxRecDepth 100000 in
theorem q_1113 : (Jvm.Cond.methodLink "QuarrelBookModel" (112 : Nat) ({ cls := "QuarrelBookModel", name := "askedRow", desc := "(I)I" } : Jvm.MethodName)) ∈ lw_good := lw_mem 1113 (by decide +kernel) rfl
set_option maxRecDepth 100000 in
theorem q_1115 : (Jvm.Cond.instanceMethod ({ cls := "QuarrelBookModel", name := "askedRow", desc := "(I)I" } : Jvm.MethodName)) ∈ lw_good := lw_mem 1115 (by decide +kernel) rfl
set_option maxRecDepth 100000 in
theorem q_1116 : (Jvm.Cond.code ({ cls := "QuarrelBookModel", name := "askedRow", desc := "(I)I" } : Jvm.MethodName) prog_14_method_9_code (2 : Nat) (Option.some Jvm.ClassFile.FieldType.int)) ∈ lw_good := lw_mem 1116 (by decide +kernel) rfl
set_option maxRecDepth 100000 in
theorem q_1117 : (Jvm.Cond.methodLink "QuarrelBookModel" (115 : Nat) ({ cls := "QuarrelBookModel", name := "rowAt", desc := "(II)I" } : Jvm.MethodName)) ∈ lw_good := lw_mem 1117 (by decide +kernel) rfl
set_option maxRecDepth 100000 in
theorem q_1119 : (Jvm.Cond.instanceMethod ({ cls := "QuarrelBookModel", name := "rowAt", desc := "(II)I" } : Jvm.MethodName)) ∈ lw_good := lw_mem 1119 (by decide +kernel) rfl
set_option maxRecDepth 100000 in
theorem q_1120 : (Jvm.Cond.code ({ cls := "QuarrelBookModel", name := "rowAt", desc := "(II)I" } : Jvm.MethodName) prog_14_method_11_code (3 : Nat) (Option.some Jvm.ClassFile.FieldType.int)) ∈ lw_good := lw_mem 1120 (by decide +kernel) rfl
set_option maxRecDepth 100000 in
theorem q_1133 : (Jvm.Cond.methodLink "QuarrelBookModel" (119 : Nat) ({ cls := "QuarrelBookModel", name := "ask", desc := "(II)I" } : Jvm.MethodName)) ∈ lw_good := lw_mem 1133 (by decide +kernel) rfl
set_option maxRecDepth 100000 in
theorem q_1135 : (Jvm.Cond.instanceMethod ({ cls := "QuarrelBookModel", name := "ask", desc := "(II)I" } : Jvm.MethodName)) ∈ lw_good := lw_mem 1135 (by decide +kernel) rfl
set_option maxRecDepth 100000 in
theorem q_1136 : (Jvm.Cond.code ({ cls := "QuarrelBookModel", name := "ask", desc := "(II)I" } : Jvm.MethodName) prog_14_method_5_code (3 : Nat) (Option.some Jvm.ClassFile.FieldType.int)) ∈ lw_good := lw_mem 1136 (by decide +kernel) rfl
set_option maxRecDepth 100000 in
theorem q_1141 : (Jvm.Cond.methodLink "QuarrelBookModel" (109 : Nat) ({ cls := "QuarrelBookModel", name := "isText", desc := "(I)Z" } : Jvm.MethodName)) ∈ lw_good := lw_mem 1141 (by decide +kernel) rfl
set_option maxRecDepth 100000 in
theorem q_1142 : (Jvm.Cond.static ({ cls := "QuarrelBookModel", name := "isText", desc := "(I)Z" } : Jvm.MethodName)) ∈ lw_good := lw_mem 1142 (by decide +kernel) rfl
set_option maxRecDepth 100000 in
theorem q_1143 : (Jvm.Cond.code ({ cls := "QuarrelBookModel", name := "isText", desc := "(I)Z" } : Jvm.MethodName) prog_14_method_8_code (1 : Nat) (Option.some Jvm.ClassFile.FieldType.boolean)) ∈ lw_good := lw_mem 1143 (by decide +kernel) rfl
set_option maxRecDepth 100000 in
theorem q_1148 : (Jvm.Cond.methodLink "QuarrelBookModel" (122 : Nat) ({ cls := "QuarrelBookModel", name := "askedText", desc := "(I)I" } : Jvm.MethodName)) ∈ lw_good := lw_mem 1148 (by decide +kernel) rfl
set_option maxRecDepth 100000 in
theorem q_1150 : (Jvm.Cond.instanceMethod ({ cls := "QuarrelBookModel", name := "askedText", desc := "(I)I" } : Jvm.MethodName)) ∈ lw_good := lw_mem 1150 (by decide +kernel) rfl
set_option maxRecDepth 100000 in
theorem q_1151 : (Jvm.Cond.code ({ cls := "QuarrelBookModel", name := "askedText", desc := "(I)I" } : Jvm.MethodName) prog_14_method_10_code (2 : Nat) (Option.some Jvm.ClassFile.FieldType.int)) ∈ lw_good := lw_mem 1151 (by decide +kernel) rfl
set_option maxRecDepth 100000 in
theorem q_1156 : (Jvm.Cond.methodLink "QuarrelBookModel" (134 : Nat) ({ cls := "QuarrelBookModel", name := "isSet", desc := "(I)Z" } : Jvm.MethodName)) ∈ lw_good := lw_mem 1156 (by decide +kernel) rfl
set_option maxRecDepth 100000 in
theorem q_1157 : (Jvm.Cond.static ({ cls := "QuarrelBookModel", name := "isSet", desc := "(I)Z" } : Jvm.MethodName)) ∈ lw_good := lw_mem 1157 (by decide +kernel) rfl
set_option maxRecDepth 100000 in
theorem q_1158 : (Jvm.Cond.code ({ cls := "QuarrelBookModel", name := "isSet", desc := "(I)Z" } : Jvm.MethodName) prog_14_method_23_code (1 : Nat) (Option.some Jvm.ClassFile.FieldType.boolean)) ∈ lw_good := lw_mem 1158 (by decide +kernel) rfl
set_option maxRecDepth 100000 in
theorem q_1163 : (Jvm.Cond.methodLink "QuarrelBookModel" (137 : Nat) ({ cls := "QuarrelBookModel", name := "isMaster", desc := "(I)Z" } : Jvm.MethodName)) ∈ lw_good := lw_mem 1163 (by decide +kernel) rfl
set_option maxRecDepth 100000 in
theorem q_1165 : (Jvm.Cond.instanceMethod ({ cls := "QuarrelBookModel", name := "isMaster", desc := "(I)Z" } : Jvm.MethodName)) ∈ lw_good := lw_mem 1165 (by decide +kernel) rfl
set_option maxRecDepth 100000 in
theorem q_1166 : (Jvm.Cond.code ({ cls := "QuarrelBookModel", name := "isMaster", desc := "(I)Z" } : Jvm.MethodName) prog_14_method_20_code (2 : Nat) (Option.some Jvm.ClassFile.FieldType.boolean)) ∈ lw_good := lw_mem 1166 (by decide +kernel) rfl
set_option maxRecDepth 100000 in
theorem q_1171 : (Jvm.Cond.methodLink "QuarrelBookModel" (140 : Nat) ({ cls := "QuarrelBookModel", name := "isOf", desc := "(II)Z" } : Jvm.MethodName)) ∈ lw_good := lw_mem 1171 (by decide +kernel) rfl
set_option maxRecDepth 100000 in
theorem q_1173 : (Jvm.Cond.instanceMethod ({ cls := "QuarrelBookModel", name := "isOf", desc := "(II)Z" } : Jvm.MethodName)) ∈ lw_good := lw_mem 1173 (by decide +kernel) rfl
set_option maxRecDepth 100000 in
theorem q_1174 : (Jvm.Cond.code ({ cls := "QuarrelBookModel", name := "isOf", desc := "(II)Z" } : Jvm.MethodName) prog_14_method_28_code (3 : Nat) (Option.some Jvm.ClassFile.FieldType.boolean)) ∈ lw_good := lw_mem 1174 (by decide +kernel) rfl
set_option maxRecDepth 100000 in
theorem q_1175 : (Jvm.Cond.methodLink "QuarrelBookModel" (144 : Nat) ({ cls := "QuarrelBookModel", name := "isCase", desc := "(I)Z" } : Jvm.MethodName)) ∈ lw_good := lw_mem 1175 (by decide +kernel) rfl
set_option maxRecDepth 100000 in
theorem q_1177 : (Jvm.Cond.instanceMethod ({ cls := "QuarrelBookModel", name := "isCase", desc := "(I)Z" } : Jvm.MethodName)) ∈ lw_good := lw_mem 1177 (by decide +kernel) rfl
set_option maxRecDepth 100000 in
theorem q_1178 : (Jvm.Cond.code ({ cls := "QuarrelBookModel", name := "isCase", desc := "(I)Z" } : Jvm.MethodName) prog_14_method_19_code (2 : Nat) (Option.some Jvm.ClassFile.FieldType.boolean)) ∈ lw_good := lw_mem 1178 (by decide +kernel) rfl
set_option maxRecDepth 100000 in
theorem q_1179 : (Jvm.Cond.methodLink "QuarrelBookModel" (147 : Nat) ({ cls := "QuarrelBookModel", name := "isTrait", desc := "(I)Z" } : Jvm.MethodName)) ∈ lw_good := lw_mem 1179 (by decide +kernel) rfl
set_option maxRecDepth 100000 in
theorem q_1180 : (Jvm.Cond.static ({ cls := "QuarrelBookModel", name := "isTrait", desc := "(I)Z" } : Jvm.MethodName)) ∈ lw_good := lw_mem 1180 (by decide +kernel) rfl
set_option maxRecDepth 100000 in
theorem q_1181 : (Jvm.Cond.code ({ cls := "QuarrelBookModel", name := "isTrait", desc := "(I)Z" } : Jvm.MethodName) prog_14_method_22_code (1 : Nat) (Option.some Jvm.ClassFile.FieldType.boolean)) ∈ lw_good := lw_mem 1181 (by decide +kernel) rfl
set_option maxRecDepth 100000 in
theorem q_1182 : (Jvm.Cond.methodLink "QuarrelBookModel" (150 : Nat) ({ cls := "QuarrelBookModel", name := "sayingsOf", desc := "(I)I" } : Jvm.MethodName)) ∈ lw_good := lw_mem 1182 (by decide +kernel) rfl
set_option maxRecDepth 100000 in
theorem q_1184 : (Jvm.Cond.instanceMethod ({ cls := "QuarrelBookModel", name := "sayingsOf", desc := "(I)I" } : Jvm.MethodName)) ∈ lw_good := lw_mem 1184 (by decide +kernel) rfl
set_option maxRecDepth 100000 in
theorem q_1185 : (Jvm.Cond.code ({ cls := "QuarrelBookModel", name := "sayingsOf", desc := "(I)I" } : Jvm.MethodName) prog_14_method_26_code (4 : Nat) (Option.some Jvm.ClassFile.FieldType.int)) ∈ lw_good := lw_mem 1185 (by decide +kernel) rfl
set_option maxRecDepth 100000 in
theorem q_1186 : (Jvm.Cond.methodLink "QuarrelBookModel" (153 : Nat) ({ cls := "QuarrelBookModel", name := "newSaying", desc := "(IIIII)I" } : Jvm.MethodName)) ∈ lw_good := lw_mem 1186 (by decide +kernel) rfl
set_option maxRecDepth 100000 in
theorem q_1188 : (Jvm.Cond.instanceMethod ({ cls := "QuarrelBookModel", name := "newSaying", desc := "(IIIII)I" } : Jvm.MethodName)) ∈ lw_good := lw_mem 1188 (by decide +kernel) rfl
set_option maxRecDepth 100000 in
theorem q_1189 : (Jvm.Cond.code ({ cls := "QuarrelBookModel", name := "newSaying", desc := "(IIIII)I" } : Jvm.MethodName) prog_14_method_27_code (8 : Nat) (Option.some Jvm.ClassFile.FieldType.int)) ∈ lw_good := lw_mem 1189 (by decide +kernel) rfl
set_option maxRecDepth 100000 in
theorem q_1198 : (Jvm.Cond.methodLink "QuarrelBookModel" (157 : Nat) ({ cls := "QuarrelBookModel", name := "isSaying", desc := "(I)Z" } : Jvm.MethodName)) ∈ lw_good := lw_mem 1198 (by decide +kernel) rfl
set_option maxRecDepth 100000 in
theorem q_1200 : (Jvm.Cond.instanceMethod ({ cls := "QuarrelBookModel", name := "isSaying", desc := "(I)Z" } : Jvm.MethodName)) ∈ lw_good := lw_mem 1200 (by decide +kernel) rfl
set_option maxRecDepth 100000 in
theorem q_1201 : (Jvm.Cond.code ({ cls := "QuarrelBookModel", name := "isSaying", desc := "(I)Z" } : Jvm.MethodName) prog_14_method_21_code (2 : Nat) (Option.some Jvm.ClassFile.FieldType.boolean)) ∈ lw_good := lw_mem 1201 (by decide +kernel) rfl
set_option maxRecDepth 100000 in
theorem q_1202 : (Jvm.Cond.methodLink "QuarrelBookModel" (160 : Nat) ({ cls := "QuarrelBookModel", name := "sayingTells", desc := "(II)I" } : Jvm.MethodName)) ∈ lw_good := lw_mem 1202 (by decide +kernel) rfl
set_option maxRecDepth 100000 in
theorem q_1204 : (Jvm.Cond.instanceMethod ({ cls := "QuarrelBookModel", name := "sayingTells", desc := "(II)I" } : Jvm.MethodName)) ∈ lw_good := lw_mem 1204 (by decide +kernel) rfl
set_option maxRecDepth 100000 in
theorem q_1205 : (Jvm.Cond.code ({ cls := "QuarrelBookModel", name := "sayingTells", desc := "(II)I" } : Jvm.MethodName) prog_14_method_31_code (3 : Nat) (Option.some Jvm.ClassFile.FieldType.int)) ∈ lw_good := lw_mem 1205 (by decide +kernel) rfl
set_option maxRecDepth 100000 in
theorem q_1214 : (Jvm.Cond.methodLink "QuarrelBookModel" (166 : Nat) ({ cls := "QuarrelBookModel", name := "lifeTells", desc := "(II)I" } : Jvm.MethodName)) ∈ lw_good := lw_mem 1214 (by decide +kernel) rfl
set_option maxRecDepth 100000 in
theorem q_1216 : (Jvm.Cond.instanceMethod ({ cls := "QuarrelBookModel", name := "lifeTells", desc := "(II)I" } : Jvm.MethodName)) ∈ lw_good := lw_mem 1216 (by decide +kernel) rfl
set_option maxRecDepth 100000 in
theorem q_1217 : (Jvm.Cond.code ({ cls := "QuarrelBookModel", name := "lifeTells", desc := "(II)I" } : Jvm.MethodName) prog_14_method_35_code (3 : Nat) (Option.some Jvm.ClassFile.FieldType.int)) ∈ lw_good := lw_mem 1217 (by decide +kernel) rfl
set_option maxRecDepth 100000 in
theorem q_1218 : (Jvm.Cond.methodLink "QuarrelBookModel" (163 : Nat) ({ cls := "QuarrelBookModel", name := "pupils", desc := "(I)I" } : Jvm.MethodName)) ∈ lw_good := lw_mem 1218 (by decide +kernel) rfl
set_option maxRecDepth 100000 in
theorem q_1220 : (Jvm.Cond.instanceMethod ({ cls := "QuarrelBookModel", name := "pupils", desc := "(I)I" } : Jvm.MethodName)) ∈ lw_good := lw_mem 1220 (by decide +kernel) rfl
set_option maxRecDepth 100000 in
theorem q_1221 : (Jvm.Cond.code ({ cls := "QuarrelBookModel", name := "pupils", desc := "(I)I" } : Jvm.MethodName) prog_14_method_34_code (6 : Nat) (Option.some Jvm.ClassFile.FieldType.int)) ∈ lw_good := lw_mem 1221 (by decide +kernel) rfl
set_option maxRecDepth 100000 in
theorem q_1223 : (Jvm.Cond.instanceMethod ({ cls := "QuarrelBookModel", name := "fault", desc := "(I)I" } : Jvm.MethodName)) ∈ lw_good := lw_mem 1223 (by decide +kernel) rfl
set_option maxRecDepth 100000 in
theorem q_1224 : (Jvm.Cond.selects "QuarrelBookModel" ({ cls := "QuarrelBookModel", name := "fault", desc := "(I)I" } : Jvm.MethodName) ({ cls := "QuarrelBookModel", name := "fault", desc := "(I)I" } : Jvm.MethodName)) ∈ lw_good := lw_mem 1224 (by decide +kernel) rfl
set_option maxRecDepth 100000 in
theorem q_1225 : (Jvm.Cond.code ({ cls := "QuarrelBookModel", name := "fault", desc := "(I)I" } : Jvm.MethodName) prog_14_method_40_code (3 : Nat) (Option.some Jvm.ClassFile.FieldType.int)) ∈ lw_good := lw_mem 1225 (by decide +kernel) rfl
set_option maxRecDepth 100000 in
theorem q_1226 : (Jvm.Cond.methodLink "QuarrelBookModel" (178 : Nat) ({ cls := "QuarrelBookModel", name := "goesOn", desc := "(I)I" } : Jvm.MethodName)) ∈ lw_good := lw_mem 1226 (by decide +kernel) rfl
set_option maxRecDepth 100000 in
theorem q_1228 : (Jvm.Cond.instanceMethod ({ cls := "QuarrelBookModel", name := "goesOn", desc := "(I)I" } : Jvm.MethodName)) ∈ lw_good := lw_mem 1228 (by decide +kernel) rfl
set_option maxRecDepth 100000 in
theorem q_1229 : (Jvm.Cond.code ({ cls := "QuarrelBookModel", name := "goesOn", desc := "(I)I" } : Jvm.MethodName) prog_14_method_39_code (8 : Nat) (Option.some Jvm.ClassFile.FieldType.int)) ∈ lw_good := lw_mem 1229 (by decide +kernel) rfl
set_option maxRecDepth 100000 in
theorem q_1230 : (Jvm.Cond.methodLink "QuarrelBookModel" (169 : Nat) ({ cls := "QuarrelBookModel", name := "byteAt", desc := "(II)I" } : Jvm.MethodName)) ∈ lw_good := lw_mem 1230 (by decide +kernel) rfl
set_option maxRecDepth 100000 in
theorem q_1232 : (Jvm.Cond.instanceMethod ({ cls := "QuarrelBookModel", name := "byteAt", desc := "(II)I" } : Jvm.MethodName)) ∈ lw_good := lw_mem 1232 (by decide +kernel) rfl
set_option maxRecDepth 100000 in
theorem q_1233 : (Jvm.Cond.code ({ cls := "QuarrelBookModel", name := "byteAt", desc := "(II)I" } : Jvm.MethodName) prog_14_method_37_code (3 : Nat) (Option.some Jvm.ClassFile.FieldType.int)) ∈ lw_good := lw_mem 1233 (by decide +kernel) rfl
set_option maxRecDepth 100000 in
theorem q_1234 : (Jvm.Cond.methodLink "QuarrelBookModel" (175 : Nat) ({ cls := "QuarrelBookModel", name := "power", desc := "(I)I" } : Jvm.MethodName)) ∈ lw_good := lw_mem 1234 (by decide +kernel) rfl
set_option maxRecDepth 100000 in
theorem q_1235 : (Jvm.Cond.static ({ cls := "QuarrelBookModel", name := "power", desc := "(I)I" } : Jvm.MethodName)) ∈ lw_good := lw_mem 1235 (by decide +kernel) rfl
set_option maxRecDepth 100000 in
theorem q_1236 : (Jvm.Cond.code ({ cls := "QuarrelBookModel", name := "power", desc := "(I)I" } : Jvm.MethodName) prog_14_method_38_code (3 : Nat) (Option.some Jvm.ClassFile.FieldType.int)) ∈ lw_good := lw_mem 1236 (by decide +kernel) rfl
set_option maxRecDepth 100000 in
theorem q_1241 : (Jvm.Cond.methodLink "QuarrelBookModel" (181 : Nat) ({ cls := "QuarrelBookModel", name := "fault", desc := "(I)I" } : Jvm.MethodName)) ∈ lw_good := lw_mem 1241 (by decide +kernel) rfl
set_option maxRecDepth 100000 in
theorem q_1246 : (Jvm.Cond.methodLink "QuarrelBookModel" (190 : Nat) ({ cls := "QuarrelBookModel", name := "isRule", desc := "(I)Z" } : Jvm.MethodName)) ∈ lw_good := lw_mem 1246 (by decide +kernel) rfl
set_option maxRecDepth 100000 in
theorem q_1247 : (Jvm.Cond.static ({ cls := "QuarrelBookModel", name := "isRule", desc := "(I)Z" } : Jvm.MethodName)) ∈ lw_good := lw_mem 1247 (by decide +kernel) rfl
set_option maxRecDepth 100000 in
theorem q_1248 : (Jvm.Cond.code ({ cls := "QuarrelBookModel", name := "isRule", desc := "(I)Z" } : Jvm.MethodName) prog_14_method_42_code (1 : Nat) (Option.some Jvm.ClassFile.FieldType.boolean)) ∈ lw_good := lw_mem 1248 (by decide +kernel) rfl
set_option maxRecDepth 100000 in
theorem q_1249 : (Jvm.Cond.methodLink "QuarrelBookModel" (193 : Nat) ({ cls := "QuarrelBookModel", name := "answer", desc := "(II)I" } : Jvm.MethodName)) ∈ lw_good := lw_mem 1249 (by decide +kernel) rfl
set_option maxRecDepth 100000 in
theorem q_1250 : (Jvm.Cond.static ({ cls := "QuarrelBookModel", name := "answer", desc := "(II)I" } : Jvm.MethodName)) ∈ lw_good := lw_mem 1250 (by decide +kernel) rfl
set_option maxRecDepth 100000 in
theorem q_1251 : (Jvm.Cond.code ({ cls := "QuarrelBookModel", name := "answer", desc := "(II)I" } : Jvm.MethodName) prog_14_method_44_code (5 : Nat) (Option.some Jvm.ClassFile.FieldType.int)) ∈ lw_good := lw_mem 1251 (by decide +kernel) rfl
set_option maxRecDepth 100000 in
theorem q_1252 : (Jvm.Cond.methodLink "QuarrelBookModel" (184 : Nat) ({ cls := "QuarrelBookModel", name := "figure", desc := "(II)I" } : Jvm.MethodName)) ∈ lw_good := lw_mem 1252 (by decide +kernel) rfl
set_option maxRecDepth 100000 in
theorem q_1253 : (Jvm.Cond.static ({ cls := "QuarrelBookModel", name := "figure", desc := "(II)I" } : Jvm.MethodName)) ∈ lw_good := lw_mem 1253 (by decide +kernel) rfl
set_option maxRecDepth 100000 in
theorem q_1254 : (Jvm.Cond.code ({ cls := "QuarrelBookModel", name := "figure", desc := "(II)I" } : Jvm.MethodName) prog_14_method_43_code (2 : Nat) (Option.some Jvm.ClassFile.FieldType.int)) ∈ lw_good := lw_mem 1254 (by decide +kernel) rfl
set_option maxRecDepth 100000 in
theorem q_1255 : (Jvm.Cond.methodLink "QuarrelBookModel" (187 : Nat) ({ cls := "QuarrelBookModel", name := "has", desc := "(II)Z" } : Jvm.MethodName)) ∈ lw_good := lw_mem 1255 (by decide +kernel) rfl
set_option maxRecDepth 100000 in
theorem q_1256 : (Jvm.Cond.static ({ cls := "QuarrelBookModel", name := "has", desc := "(II)Z" } : Jvm.MethodName)) ∈ lw_good := lw_mem 1256 (by decide +kernel) rfl
set_option maxRecDepth 100000 in
theorem q_1257 : (Jvm.Cond.code ({ cls := "QuarrelBookModel", name := "has", desc := "(II)Z" } : Jvm.MethodName) prog_14_method_6_code (2 : Nat) (Option.some Jvm.ClassFile.FieldType.boolean)) ∈ lw_good := lw_mem 1257 (by decide +kernel) rfl
set_option maxRecDepth 100000 in
theorem q_1262 : (Jvm.Cond.methodLink "QuarrelBookModel" (196 : Nat) ({ cls := "QuarrelBookModel", name := "doesFit", desc := "(III)Z" } : Jvm.MethodName)) ∈ lw_good := lw_mem 1262 (by decide +kernel) rfl
set_option maxRecDepth 100000 in
theorem q_1264 : (Jvm.Cond.instanceMethod ({ cls := "QuarrelBookModel", name := "doesFit", desc := "(III)Z" } : Jvm.MethodName)) ∈ lw_good := lw_mem 1264 (by decide +kernel) rfl
set_option maxRecDepth 100000 in
theorem q_1265 : (Jvm.Cond.code ({ cls := "QuarrelBookModel", name := "doesFit", desc := "(III)Z" } : Jvm.MethodName) prog_14_method_46_code (4 : Nat) (Option.some Jvm.ClassFile.FieldType.boolean)) ∈ lw_good := lw_mem 1265 (by decide +kernel) rfl
set_option maxRecDepth 100000 in
theorem q_1270 : (Jvm.Cond.methodLink "QuarrelBookModel" (199 : Nat) ({ cls := "QuarrelBookModel", name := "isPrice", desc := "(I)Z" } : Jvm.MethodName)) ∈ lw_good := lw_mem 1270 (by decide +kernel) rfl
set_option maxRecDepth 100000 in
theorem q_1271 : (Jvm.Cond.static ({ cls := "QuarrelBookModel", name := "isPrice", desc := "(I)Z" } : Jvm.MethodName)) ∈ lw_good := lw_mem 1271 (by decide +kernel) rfl
set_option maxRecDepth 100000 in
theorem q_1272 : (Jvm.Cond.code ({ cls := "QuarrelBookModel", name := "isPrice", desc := "(I)Z" } : Jvm.MethodName) prog_14_method_48_code (1 : Nat) (Option.some Jvm.ClassFile.FieldType.boolean)) ∈ lw_good := lw_mem 1272 (by decide +kernel) rfl
set_option maxRecDepth 100000 in
theorem q_1277 : (Jvm.Cond.methodLink "QuarrelBookModel" (202 : Nat) ({ cls := "QuarrelBookModel", name := "costOf", desc := "(II)I" } : Jvm.MethodName)) ∈ lw_good := lw_mem 1277 (by decide +kernel) rfl
set_option maxRecDepth 100000 in
theorem q_1279 : (Jvm.Cond.instanceMethod ({ cls := "QuarrelBookModel", name := "costOf", desc := "(II)I" } : Jvm.MethodName)) ∈ lw_good := lw_mem 1279 (by decide +kernel) rfl
set_option maxRecDepth 100000 in
theorem q_1280 : (Jvm.Cond.code ({ cls := "QuarrelBookModel", name := "costOf", desc := "(II)I" } : Jvm.MethodName) prog_14_method_50_code (6 : Nat) (Option.some Jvm.ClassFile.FieldType.int)) ∈ lw_good := lw_mem 1280 (by decide +kernel) rfl
set_option maxRecDepth 100000 in
theorem q_1285 : (Jvm.Cond.methodLink "QuarrelBookModel" (231 : Nat) ({ cls := "QuarrelBookModel", name := "settles", desc := "(I)V" } : Jvm.MethodName)) ∈ lw_good := lw_mem 1285 (by decide +kernel) rfl
set_option maxRecDepth 100000 in
theorem q_1287 : (Jvm.Cond.instanceMethod ({ cls := "QuarrelBookModel", name := "settles", desc := "(I)V" } : Jvm.MethodName)) ∈ lw_good := lw_mem 1287 (by decide +kernel) rfl
set_option maxRecDepth 100000 in
theorem q_1288 : (Jvm.Cond.code ({ cls := "QuarrelBookModel", name := "settles", desc := "(I)V" } : Jvm.MethodName) prog_14_method_55_code (5 : Nat) (Option.none : Option Jvm.ClassFile.FieldType)) ∈ lw_good := lw_mem 1288 (by decide +kernel) rfl
set_option maxRecDepth 100000 in
theorem q_1289 : (Jvm.Cond.methodLink "QuarrelBookModel" (208 : Nat) ({ cls := "QuarrelBookModel", name := "setTable", desc := "(I)V" } : Jvm.MethodName)) ∈ lw_good := lw_mem 1289 (by decide +kernel) rfl
set_option maxRecDepth 100000 in
theorem q_1291 : (Jvm.Cond.instanceMethod ({ cls := "QuarrelBookModel", name := "setTable", desc := "(I)V" } : Jvm.MethodName)) ∈ lw_good := lw_mem 1291 (by decide +kernel) rfl
set_option maxRecDepth 100000 in
theorem q_1292 : (Jvm.Cond.code ({ cls := "QuarrelBookModel", name := "setTable", desc := "(I)V" } : Jvm.MethodName) prog_14_method_52_code (4 : Nat) (Option.none : Option Jvm.ClassFile.FieldType)) ∈ lw_good := lw_mem 1292 (by decide +kernel) rfl
set_option maxRecDepth 100000 in
theorem q_1293 : (Jvm.Cond.constant "QuarrelBookModel" (218 : Nat) (1000000 : Int32)) ∈ lw_good := lw_mem 1293 (by decide +kernel) rfl
set_option maxRecDepth 100000 in
theorem q_1294 : (Jvm.Cond.methodLink "QuarrelBookModel" (222 : Nat) ({ cls := "QuarrelBookModel", name := "sumBy", desc := "(I)I" } : Jvm.MethodName)) ∈ lw_good := lw_mem 1294 (by decide +kernel) rfl
set_option maxRecDepth 100000 in
theorem q_1296 : (Jvm.Cond.instanceMethod ({ cls := "QuarrelBookModel", name := "sumBy", desc := "(I)I" } : Jvm.MethodName)) ∈ lw_good := lw_mem 1296 (by decide +kernel) rfl
set_option maxRecDepth 100000 in
theorem q_1297 : (Jvm.Cond.code ({ cls := "QuarrelBookModel", name := "sumBy", desc := "(I)I" } : Jvm.MethodName) prog_14_method_53_code (4 : Nat) (Option.some Jvm.ClassFile.FieldType.int)) ∈ lw_good := lw_mem 1297 (by decide +kernel) rfl
set_option maxRecDepth 100000 in
theorem q_1298 : (Jvm.Cond.methodLink "QuarrelBookModel" (228 : Nat) ({ cls := "QuarrelBookModel", name := "sumByTwo", desc := "(II)I" } : Jvm.MethodName)) ∈ lw_good := lw_mem 1298 (by decide +kernel) rfl
set_option maxRecDepth 100000 in
theorem q_1300 : (Jvm.Cond.instanceMethod ({ cls := "QuarrelBookModel", name := "sumByTwo", desc := "(II)I" } : Jvm.MethodName)) ∈ lw_good := lw_mem 1300 (by decide +kernel) rfl
set_option maxRecDepth 100000 in
theorem q_1301 : (Jvm.Cond.code ({ cls := "QuarrelBookModel", name := "sumByTwo", desc := "(II)I" } : Jvm.MethodName) prog_14_method_54_code (7 : Nat) (Option.some Jvm.ClassFile.FieldType.int)) ∈ lw_good := lw_mem 1301 (by decide +kernel) rfl
set_option maxRecDepth 100000 in
theorem q_1310 : (Jvm.Cond.methodLink "QuarrelBookModel" (234 : Nat) ({ cls := "QuarrelBookModel", name := "setCheap", desc := "(I)V" } : Jvm.MethodName)) ∈ lw_good := lw_mem 1310 (by decide +kernel) rfl
set_option maxRecDepth 100000 in
theorem q_1312 : (Jvm.Cond.instanceMethod ({ cls := "QuarrelBookModel", name := "setCheap", desc := "(I)V" } : Jvm.MethodName)) ∈ lw_good := lw_mem 1312 (by decide +kernel) rfl
set_option maxRecDepth 100000 in
theorem q_1313 : (Jvm.Cond.code ({ cls := "QuarrelBookModel", name := "setCheap", desc := "(I)V" } : Jvm.MethodName) prog_14_method_58_code (5 : Nat) (Option.none : Option Jvm.ClassFile.FieldType)) ∈ lw_good := lw_mem 1313 (by decide +kernel) rfl
set_option maxRecDepth 100000 in
theorem q_1326 : (Jvm.Cond.methodLink "QuarrelBookModel" (237 : Nat) ({ cls := "QuarrelBookModel", name := "setRules", desc := "()V" } : Jvm.MethodName)) ∈ lw_good := lw_mem 1326 (by decide +kernel) rfl
set_option maxRecDepth 100000 in
theorem q_1328 : (Jvm.Cond.instanceMethod ({ cls := "QuarrelBookModel", name := "setRules", desc := "()V" } : Jvm.MethodName)) ∈ lw_good := lw_mem 1328 (by decide +kernel) rfl
set_option maxRecDepth 100000 in
theorem q_1329 : (Jvm.Cond.code ({ cls := "QuarrelBookModel", name := "setRules", desc := "()V" } : Jvm.MethodName) prog_14_method_62_code (2 : Nat) (Option.none : Option Jvm.ClassFile.FieldType)) ∈ lw_good := lw_mem 1329 (by decide +kernel) rfl
set_option maxRecDepth 100000 in
theorem q_1330 : (Jvm.Cond.methodLink "QuarrelBookModel" (240 : Nat) ({ cls := "QuarrelBookModel", name := "againstOf", desc := "(I)I" } : Jvm.MethodName)) ∈ lw_good := lw_mem 1330 (by decide +kernel) rfl
set_option maxRecDepth 100000 in
theorem q_1332 : (Jvm.Cond.instanceMethod ({ cls := "QuarrelBookModel", name := "againstOf", desc := "(I)I" } : Jvm.MethodName)) ∈ lw_good := lw_mem 1332 (by decide +kernel) rfl
set_option maxRecDepth 100000 in
theorem q_1333 : (Jvm.Cond.code ({ cls := "QuarrelBookModel", name := "againstOf", desc := "(I)I" } : Jvm.MethodName) prog_14_method_63_code (4 : Nat) (Option.some Jvm.ClassFile.FieldType.int)) ∈ lw_good := lw_mem 1333 (by decide +kernel) rfl
set_option maxRecDepth 100000 in
theorem q_1342 : (Jvm.Cond.methodLink "QuarrelBookModel" (246 : Nat) ({ cls := "QuarrelBookModel", name := "freshOf", desc := "(II)I" } : Jvm.MethodName)) ∈ lw_good := lw_mem 1342 (by decide +kernel) rfl
set_option maxRecDepth 100000 in
theorem q_1344 : (Jvm.Cond.instanceMethod ({ cls := "QuarrelBookModel", name := "freshOf", desc := "(II)I" } : Jvm.MethodName)) ∈ lw_good := lw_mem 1344 (by decide +kernel) rfl
set_option maxRecDepth 100000 in
theorem q_1345 : (Jvm.Cond.code ({ cls := "QuarrelBookModel", name := "freshOf", desc := "(II)I" } : Jvm.MethodName) prog_14_method_66_code (3 : Nat) (Option.some Jvm.ClassFile.FieldType.int)) ∈ lw_good := lw_mem 1345 (by decide +kernel) rfl
set_option maxRecDepth 100000 in
theorem q_1346 : (Jvm.Cond.methodLink "QuarrelBookModel" (243 : Nat) ({ cls := "QuarrelBookModel", name := "freshNow", desc := "(I)I" } : Jvm.MethodName)) ∈ lw_good := lw_mem 1346 (by decide +kernel) rfl
set_option maxRecDepth 100000 in
theorem q_1348 : (Jvm.Cond.instanceMethod ({ cls := "QuarrelBookModel", name := "freshNow", desc := "(I)I" } : Jvm.MethodName)) ∈ lw_good := lw_mem 1348 (by decide +kernel) rfl
set_option maxRecDepth 100000 in
theorem q_1349 : (Jvm.Cond.code ({ cls := "QuarrelBookModel", name := "freshNow", desc := "(I)I" } : Jvm.MethodName) prog_14_method_67_code (5 : Nat) (Option.some Jvm.ClassFile.FieldType.int)) ∈ lw_good := lw_mem 1349 (by decide +kernel) rfl
set_option maxRecDepth 100000 in
theorem q_1354 : (Jvm.Cond.methodLink "QuarrelBookModel" (249 : Nat) ({ cls := "QuarrelBookModel", name := "leastIn", desc := "(III)I" } : Jvm.MethodName)) ∈ lw_good := lw_mem 1354 (by decide +kernel) rfl
set_option maxRecDepth 100000 in
theorem q_1356 : (Jvm.Cond.instanceMethod ({ cls := "QuarrelBookModel", name := "leastIn", desc := "(III)I" } : Jvm.MethodName)) ∈ lw_good := lw_mem 1356 (by decide +kernel) rfl
set_option maxRecDepth 100000 in
theorem q_1357 : (Jvm.Cond.code ({ cls := "QuarrelBookModel", name := "leastIn", desc := "(III)I" } : Jvm.MethodName) prog_14_method_69_code (9 : Nat) (Option.some Jvm.ClassFile.FieldType.int)) ∈ lw_good := lw_mem 1357 (by decide +kernel) rfl
set_option maxRecDepth 100000 in
theorem q_1358 : (Jvm.Cond.methodLink "QuarrelBookModel" (253 : Nat) ({ cls := "QuarrelBookModel", name := "isSaid", desc := "(II)Z" } : Jvm.MethodName)) ∈ lw_good := lw_mem 1358 (by decide +kernel) rfl
set_option maxRecDepth 100000 in
theorem q_1360 : (Jvm.Cond.instanceMethod ({ cls := "QuarrelBookModel", name := "isSaid", desc := "(II)Z" } : Jvm.MethodName)) ∈ lw_good := lw_mem 1360 (by decide +kernel) rfl
set_option maxRecDepth 100000 in
theorem q_1361 : (Jvm.Cond.code ({ cls := "QuarrelBookModel", name := "isSaid", desc := "(II)Z" } : Jvm.MethodName) prog_14_method_70_code (5 : Nat) (Option.some Jvm.ClassFile.FieldType.boolean)) ∈ lw_good := lw_mem 1361 (by decide +kernel) rfl
set_option maxRecDepth 100000 in
theorem q_1366 : (Jvm.Cond.methodLink "QuarrelBookModel" (256 : Nat) ({ cls := "QuarrelBookModel", name := "bits", desc := "(I)I" } : Jvm.MethodName)) ∈ lw_good := lw_mem 1366 (by decide +kernel) rfl
set_option maxRecDepth 100000 in
theorem q_1367 : (Jvm.Cond.static ({ cls := "QuarrelBookModel", name := "bits", desc := "(I)I" } : Jvm.MethodName)) ∈ lw_good := lw_mem 1367 (by decide +kernel) rfl
set_option maxRecDepth 100000 in
theorem q_1368 : (Jvm.Cond.code ({ cls := "QuarrelBookModel", name := "bits", desc := "(I)I" } : Jvm.MethodName) prog_14_method_73_code (3 : Nat) (Option.some Jvm.ClassFile.FieldType.int)) ∈ lw_good := lw_mem 1368 (by decide +kernel) rfl
set_option maxRecDepth 100000 in
theorem q_1397 : (Jvm.Cond.methodLink "QuarrelBookModel" (262 : Nat) ({ cls := "QuarrelBookModel", name := "isMove", desc := "(III)Z" } : Jvm.MethodName)) ∈ lw_good := lw_mem 1397 (by decide +kernel) rfl
set_option maxRecDepth 100000 in
theorem q_1399 : (Jvm.Cond.instanceMethod ({ cls := "QuarrelBookModel", name := "isMove", desc := "(III)Z" } : Jvm.MethodName)) ∈ lw_good := lw_mem 1399 (by decide +kernel) rfl
set_option maxRecDepth 100000 in
theorem q_1400 : (Jvm.Cond.code ({ cls := "QuarrelBookModel", name := "isMove", desc := "(III)Z" } : Jvm.MethodName) prog_14_method_80_code (4 : Nat) (Option.some Jvm.ClassFile.FieldType.boolean)) ∈ lw_good := lw_mem 1400 (by decide +kernel) rfl
set_option maxRecDepth 100000 in
theorem q_1405 : (Jvm.Cond.methodLink "QuarrelBookModel" (268 : Nat) ({ cls := "QuarrelBookModel", name := "moveTells", desc := "(II)I" } : Jvm.MethodName)) ∈ lw_good := lw_mem 1405 (by decide +kernel) rfl
set_option maxRecDepth 100000 in
theorem q_1407 : (Jvm.Cond.instanceMethod ({ cls := "QuarrelBookModel", name := "moveTells", desc := "(II)I" } : Jvm.MethodName)) ∈ lw_good := lw_mem 1407 (by decide +kernel) rfl
set_option maxRecDepth 100000 in
theorem q_1408 : (Jvm.Cond.code ({ cls := "QuarrelBookModel", name := "moveTells", desc := "(II)I" } : Jvm.MethodName) prog_14_method_82_code (3 : Nat) (Option.some Jvm.ClassFile.FieldType.int)) ∈ lw_good := lw_mem 1408 (by decide +kernel) rfl
set_option maxRecDepth 100000 in
theorem q_1417 : (Jvm.Cond.methodLink "QuarrelBookModel" (271 : Nat) ({ cls := "QuarrelBookModel", name := "doesAnswer", desc := "(II)Z" } : Jvm.MethodName)) ∈ lw_good := lw_mem 1417 (by decide +kernel) rfl
set_option maxRecDepth 100000 in
theorem q_1419 : (Jvm.Cond.instanceMethod ({ cls := "QuarrelBookModel", name := "doesAnswer", desc := "(II)Z" } : Jvm.MethodName)) ∈ lw_good := lw_mem 1419 (by decide +kernel) rfl
set_option maxRecDepth 100000 in
theorem q_1420 : (Jvm.Cond.code ({ cls := "QuarrelBookModel", name := "doesAnswer", desc := "(II)Z" } : Jvm.MethodName) prog_14_method_85_code (7 : Nat) (Option.some Jvm.ClassFile.FieldType.boolean)) ∈ lw_good := lw_mem 1420 (by decide +kernel) rfl
set_option maxRecDepth 100000 in
theorem q_1425 : (Jvm.Cond.methodLink "QuarrelBookModel" (277 : Nat) ({ cls := "QuarrelBookModel", name := "isBy", desc := "(I)Z" } : Jvm.MethodName)) ∈ lw_good := lw_mem 1425 (by decide +kernel) rfl
set_option maxRecDepth 100000 in
theorem q_1426 : (Jvm.Cond.static ({ cls := "QuarrelBookModel", name := "isBy", desc := "(I)Z" } : Jvm.MethodName)) ∈ lw_good := lw_mem 1426 (by decide +kernel) rfl
set_option maxRecDepth 100000 in
theorem q_1427 : (Jvm.Cond.code ({ cls := "QuarrelBookModel", name := "isBy", desc := "(I)Z" } : Jvm.MethodName) prog_14_method_88_code (1 : Nat) (Option.some Jvm.ClassFile.FieldType.boolean)) ∈ lw_good := lw_mem 1427 (by decide +kernel) rfl
set_option maxRecDepth 100000 in
theorem q_1428 : (Jvm.Cond.methodLink "QuarrelBookModel" (280 : Nat) ({ cls := "QuarrelBookModel", name := "lawOf", desc := "(II)I" } : Jvm.MethodName)) ∈ lw_good := lw_mem 1428 (by decide +kernel) rfl
set_option maxRecDepth 100000 in
theorem q_1430 : (Jvm.Cond.instanceMethod ({ cls := "QuarrelBookModel", name := "lawOf", desc := "(II)I" } : Jvm.MethodName)) ∈ lw_good := lw_mem 1430 (by decide +kernel) rfl
set_option maxRecDepth 100000 in
theorem q_1431 : (Jvm.Cond.code ({ cls := "QuarrelBookModel", name := "lawOf", desc := "(II)I" } : Jvm.MethodName) prog_14_method_87_code (7 : Nat) (Option.some Jvm.ClassFile.FieldType.int)) ∈ lw_good := lw_mem 1431 (by decide +kernel) rfl
set_option maxRecDepth 100000 in
theorem q_1460 : (Jvm.Cond.methodLink "QuarrelBookModel" (283 : Nat) ({ cls := "QuarrelBookModel", name := "counts", desc := "(I)I" } : Jvm.MethodName)) ∈ lw_good := lw_mem 1460 (by decide +kernel) rfl
set_option maxRecDepth 100000 in
theorem q_1462 : (Jvm.Cond.instanceMethod ({ cls := "QuarrelBookModel", name := "counts", desc := "(I)I" } : Jvm.MethodName)) ∈ lw_good := lw_mem 1462 (by decide +kernel) rfl
set_option maxRecDepth 100000 in
theorem q_1463 : (Jvm.Cond.code ({ cls := "QuarrelBookModel", name := "counts", desc := "(I)I" } : Jvm.MethodName) prog_14_method_96_code (4 : Nat) (Option.some Jvm.ClassFile.FieldType.int)) ∈ lw_good := lw_mem 1463 (by decide +kernel) rfl
set_option maxRecDepth 100000 in
theorem q_1476 : (Jvm.Cond.constantLong "QuarrelBookModel" (294 : Nat) (17 : Int64)) ∈ lw_good := lw_mem 1476 (by decide +kernel) rfl
set_option maxRecDepth 100000 in
theorem q_1477 : (Jvm.Cond.methodLink "QuarrelBookModel" (291 : Nat) ({ cls := "QuarrelBookModel", name := "mix", desc := "(I)V" } : Jvm.MethodName)) ∈ lw_good := lw_mem 1477 (by decide +kernel) rfl
set_option maxRecDepth 100000 in
theorem q_1479 : (Jvm.Cond.instanceMethod ({ cls := "QuarrelBookModel", name := "mix", desc := "(I)V" } : Jvm.MethodName)) ∈ lw_good := lw_mem 1479 (by decide +kernel) rfl
set_option maxRecDepth 100000 in
theorem q_1480 : (Jvm.Cond.code ({ cls := "QuarrelBookModel", name := "mix", desc := "(I)V" } : Jvm.MethodName) prog_14_method_100_code (2 : Nat) (Option.none : Option Jvm.ClassFile.FieldType)) ∈ lw_good := lw_mem 1480 (by decide +kernel) rfl
set_option maxRecDepth 100000 in
theorem q_1481 : (Jvm.Cond.constantLong "QuarrelBookModel" (286 : Nat) (31 : Int64)) ∈ lw_good := lw_mem 1481 (by decide +kernel) rfl
set_option maxRecDepth 100000 in
theorem q_1482 : (Jvm.Cond.methodLink "QuarrelBookModel" (296 : Nat) ({ cls := "QuarrelBookModel", name := "mixSayings", desc := "()V" } : Jvm.MethodName)) ∈ lw_good := lw_mem 1482 (by decide +kernel) rfl
set_option maxRecDepth 100000 in
theorem q_1484 : (Jvm.Cond.instanceMethod ({ cls := "QuarrelBookModel", name := "mixSayings", desc := "()V" } : Jvm.MethodName)) ∈ lw_good := lw_mem 1484 (by decide +kernel) rfl
set_option maxRecDepth 100000 in
theorem q_1485 : (Jvm.Cond.code ({ cls := "QuarrelBookModel", name := "mixSayings", desc := "()V" } : Jvm.MethodName) prog_14_method_101_code (3 : Nat) (Option.none : Option Jvm.ClassFile.FieldType)) ∈ lw_good := lw_mem 1485 (by decide +kernel) rfl
set_option maxRecDepth 100000 in
theorem qp_0 : (Jvm.Cond.selects "QuarrelBook" ({ cls := "QuarrelBook", name := "refuse", desc := "(I)I" } : Jvm.MethodName) ({ cls := "QuarrelBook", name := "refuse", desc := "(I)I" } : Jvm.MethodName)) ∈ lw_good := lw_memP 0 (by decide +kernel) rfl
set_option maxRecDepth 100000 in
theorem qp_1 : (Jvm.Cond.selects "QuarrelBook" ({ cls := "QuarrelBook", name := "tell", desc := "(II)I" } : Jvm.MethodName) ({ cls := "QuarrelBook", name := "tell", desc := "(II)I" } : Jvm.MethodName)) ∈ lw_good := lw_memP 1 (by decide +kernel) rfl
set_option maxRecDepth 100000 in
theorem qp_2 : (Jvm.Cond.selects "QuarrelBook$Text" ({ cls := "QuarrelBook$Text", name := "skipBlanks", desc := "()V" } : Jvm.MethodName) ({ cls := "QuarrelBook$Text", name := "skipBlanks", desc := "()V" } : Jvm.MethodName)) ∈ lw_good := lw_memP 2 (by decide +kernel) rfl
set_option maxRecDepth 100000 in
theorem qp_3 : (Jvm.Cond.selects "QuarrelBook$Text" ({ cls := "QuarrelBook$Text", name := "signHere", desc := "()I" } : Jvm.MethodName) ({ cls := "QuarrelBook$Text", name := "signHere", desc := "()I" } : Jvm.MethodName)) ∈ lw_good := lw_memP 3 (by decide +kernel) rfl
set_option maxRecDepth 100000 in
theorem qp_4 : (Jvm.Cond.selects "QuarrelBook$Text" ({ cls := "QuarrelBook$Text", name := "readLetters", desc := "()Z" } : Jvm.MethodName) ({ cls := "QuarrelBook$Text", name := "readLetters", desc := "()Z" } : Jvm.MethodName)) ∈ lw_good := lw_memP 4 (by decide +kernel) rfl
set_option maxRecDepth 100000 in
theorem qp_5 : (Jvm.Cond.selects "QuarrelBook$Bench" ({ cls := "QuarrelBook$Bench", name := "gatherCandidates", desc := "()I" } : Jvm.MethodName) ({ cls := "QuarrelBook$Bench", name := "gatherCandidates", desc := "()I" } : Jvm.MethodName)) ∈ lw_good := lw_memP 5 (by decide +kernel) rfl
set_option maxRecDepth 100000 in
theorem qp_6 : (Jvm.Cond.selects "QuarrelBook$Bench" ({ cls := "QuarrelBook$Bench", name := "sayingsAhead", desc := "(ILQuarrelBook$Master;[LQuarrelBook$Saying;)I" } : Jvm.MethodName) ({ cls := "QuarrelBook$Bench", name := "sayingsAhead", desc := "(ILQuarrelBook$Master;[LQuarrelBook$Saying;)I" } : Jvm.MethodName)) ∈ lw_good := lw_memP 6 (by decide +kernel) rfl
set_option maxRecDepth 100000 in
theorem qp_7 : (Jvm.Cond.selects "QuarrelBook$Bench" ({ cls := "QuarrelBook$Bench", name := "costParted", desc := "(I)I" } : Jvm.MethodName) ({ cls := "QuarrelBook$Bench", name := "costParted", desc := "(I)I" } : Jvm.MethodName)) ∈ lw_good := lw_memP 7 (by decide +kernel) rfl
set_option maxRecDepth 100000 in
theorem qp_8 : (Jvm.Cond.selects "QuarrelBook" ({ cls := "QuarrelBook", name := "tellFraction", desc := "(JJ)V" } : Jvm.MethodName) ({ cls := "QuarrelBook", name := "tellFraction", desc := "(JJ)V" } : Jvm.MethodName)) ∈ lw_good := lw_memP 8 (by decide +kernel) rfl
set_option maxRecDepth 100000 in
theorem qp_9 : (Jvm.Cond.selects "QuarrelBook$Page" ({ cls := "QuarrelBook$Page", name := "sayingsFrom", desc := "(II)I" } : Jvm.MethodName) ({ cls := "QuarrelBook$Page", name := "sayingsFrom", desc := "(II)I" } : Jvm.MethodName)) ∈ lw_good := lw_memP 9 (by decide +kernel) rfl
set_option maxRecDepth 100000 in
theorem qp_10 : (Jvm.Cond.selects "QuarrelBook$Page" ({ cls := "QuarrelBook$Page", name := "lastOpen", desc := "(II)I" } : Jvm.MethodName) ({ cls := "QuarrelBook$Page", name := "lastOpen", desc := "(II)I" } : Jvm.MethodName)) ∈ lw_good := lw_memP 10 (by decide +kernel) rfl
set_option maxRecDepth 100000 in
theorem qp_11 : (Jvm.Cond.selects "QuarrelBook$Page" ({ cls := "QuarrelBook$Page", name := "closes", desc := "(LQuarrelBook$Move;I[LQuarrelBook$Master;)Z" } : Jvm.MethodName) ({ cls := "QuarrelBook$Page", name := "closes", desc := "(LQuarrelBook$Move;I[LQuarrelBook$Master;)Z" } : Jvm.MethodName)) ∈ lw_good := lw_memP 11 (by decide +kernel) rfl
set_option maxRecDepth 100000 in
theorem qp_12 : (Jvm.Cond.selects "QuarrelBook$Page" ({ cls := "QuarrelBook$Page", name := "fitsSomeCheap", desc := "(LQuarrelBook$Saying;ILQuarrelBook$Mind;)Z" } : Jvm.MethodName) ({ cls := "QuarrelBook$Page", name := "fitsSomeCheap", desc := "(LQuarrelBook$Saying;ILQuarrelBook$Mind;)Z" } : Jvm.MethodName)) ∈ lw_good := lw_memP 12 (by decide +kernel) rfl
set_option maxRecDepth 100000 in
theorem qp_13 : (Jvm.Cond.selects "QuarrelBook$Court" ({ cls := "QuarrelBook$Court", name := "ofTheLater", desc := "(I[LQuarrelBook$Master;)I" } : Jvm.MethodName) ({ cls := "QuarrelBook$Court", name := "ofTheLater", desc := "(I[LQuarrelBook$Master;)I" } : Jvm.MethodName)) ∈ lw_good := lw_memP 13 (by decide +kernel) rfl
set_option maxRecDepth 100000 in
theorem qp_14 : (Jvm.Cond.selects "QuarrelBook$Court" ({ cls := "QuarrelBook$Court", name := "ofTheMore", desc := "(II[LQuarrelBook$Master;)I" } : Jvm.MethodName) ({ cls := "QuarrelBook$Court", name := "ofTheMore", desc := "(II[LQuarrelBook$Master;)I" } : Jvm.MethodName)) ∈ lw_good := lw_memP 14 (by decide +kernel) rfl
set_option maxRecDepth 100000 in
theorem qp_15 : (Jvm.Cond.selects "QuarrelBook" ({ cls := "QuarrelBook", name := "amount", desc := "(I)I" } : Jvm.MethodName) ({ cls := "QuarrelBook", name := "amount", desc := "(I)I" } : Jvm.MethodName)) ∈ lw_good := lw_memP 15 (by decide +kernel) rfl
set_option maxRecDepth 100000 in
theorem qp_16 : (Jvm.Cond.selects "QuarrelBook" ({ cls := "QuarrelBook", name := "rowsThere", desc := "()I" } : Jvm.MethodName) ({ cls := "QuarrelBook", name := "rowsThere", desc := "()I" } : Jvm.MethodName)) ∈ lw_good := lw_memP 16 (by decide +kernel) rfl
set_option maxRecDepth 100000 in
theorem qp_17 : (Jvm.Cond.selects "QuarrelBook" ({ cls := "QuarrelBook", name := "textsThere", desc := "()I" } : Jvm.MethodName) ({ cls := "QuarrelBook", name := "textsThere", desc := "()I" } : Jvm.MethodName)) ∈ lw_good := lw_memP 17 (by decide +kernel) rfl
set_option maxRecDepth 100000 in
theorem qp_18 : (Jvm.Cond.selects "QuarrelBookModel" ({ cls := "QuarrelBookModel", name := "meets", desc := "(I)I" } : Jvm.MethodName) ({ cls := "QuarrelBookModel", name := "meets", desc := "(I)I" } : Jvm.MethodName)) ∈ lw_good := lw_memP 18 (by decide +kernel) rfl
set_option maxRecDepth 100000 in
theorem qp_19 : (Jvm.Cond.selects "QuarrelBookModel" ({ cls := "QuarrelBookModel", name := "askedRow", desc := "(I)I" } : Jvm.MethodName) ({ cls := "QuarrelBookModel", name := "askedRow", desc := "(I)I" } : Jvm.MethodName)) ∈ lw_good := lw_memP 19 (by decide +kernel) rfl
set_option maxRecDepth 100000 in
theorem qp_20 : (Jvm.Cond.selects "QuarrelBookModel" ({ cls := "QuarrelBookModel", name := "rowAt", desc := "(II)I" } : Jvm.MethodName) ({ cls := "QuarrelBookModel", name := "rowAt", desc := "(II)I" } : Jvm.MethodName)) ∈ lw_good := lw_memP 20 (by decide +kernel) rfl
set_option maxRecDepth 100000 in
theorem qp_21 : (Jvm.Cond.selects "QuarrelBookModel" ({ cls := "QuarrelBookModel", name := "ask", desc := "(II)I" } : Jvm.MethodName) ({ cls := "QuarrelBookModel", name := "ask", desc := "(II)I" } : Jvm.MethodName)) ∈ lw_good := lw_memP 21 (by decide +kernel) rfl
set_option maxRecDepth 100000 in
theorem qp_22 : (Jvm.Cond.selects "QuarrelBookModel" ({ cls := "QuarrelBookModel", name := "askedText", desc := "(I)I" } : Jvm.MethodName) ({ cls := "QuarrelBookModel", name := "askedText", desc := "(I)I" } : Jvm.MethodName)) ∈ lw_good := lw_memP 22 (by decide +kernel) rfl
set_option maxRecDepth 100000 in
theorem qp_23 : (Jvm.Cond.selects "QuarrelBookModel" ({ cls := "QuarrelBookModel", name := "isMaster", desc := "(I)Z" } : Jvm.MethodName) ({ cls := "QuarrelBookModel", name := "isMaster", desc := "(I)Z" } : Jvm.MethodName)) ∈ lw_good := lw_memP 23 (by decide +kernel) rfl
set_option maxRecDepth 100000 in
theorem qp_24 : (Jvm.Cond.selects "QuarrelBookModel" ({ cls := "QuarrelBookModel", name := "isOf", desc := "(II)Z" } : Jvm.MethodName) ({ cls := "QuarrelBookModel", name := "isOf", desc := "(II)Z" } : Jvm.MethodName)) ∈ lw_good := lw_memP 24 (by decide +kernel) rfl
set_option maxRecDepth 100000 in
theorem qp_25 : (Jvm.Cond.selects "QuarrelBookModel" ({ cls := "QuarrelBookModel", name := "isCase", desc := "(I)Z" } : Jvm.MethodName) ({ cls := "QuarrelBookModel", name := "isCase", desc := "(I)Z" } : Jvm.MethodName)) ∈ lw_good := lw_memP 25 (by decide +kernel) rfl
set_option maxRecDepth 100000 in
theorem qp_26 : (Jvm.Cond.selects "QuarrelBookModel" ({ cls := "QuarrelBookModel", name := "sayingsOf", desc := "(I)I" } : Jvm.MethodName) ({ cls := "QuarrelBookModel", name := "sayingsOf", desc := "(I)I" } : Jvm.MethodName)) ∈ lw_good := lw_memP 26 (by decide +kernel) rfl
set_option maxRecDepth 100000 in
theorem qp_27 : (Jvm.Cond.selects "QuarrelBookModel" ({ cls := "QuarrelBookModel", name := "newSaying", desc := "(IIIII)I" } : Jvm.MethodName) ({ cls := "QuarrelBookModel", name := "newSaying", desc := "(IIIII)I" } : Jvm.MethodName)) ∈ lw_good := lw_memP 27 (by decide +kernel) rfl
set_option maxRecDepth 100000 in
theorem qp_28 : (Jvm.Cond.selects "QuarrelBookModel" ({ cls := "QuarrelBookModel", name := "isSaying", desc := "(I)Z" } : Jvm.MethodName) ({ cls := "QuarrelBookModel", name := "isSaying", desc := "(I)Z" } : Jvm.MethodName)) ∈ lw_good := lw_memP 28 (by decide +kernel) rfl
set_option maxRecDepth 100000 in
theorem qp_29 : (Jvm.Cond.selects "QuarrelBookModel" ({ cls := "QuarrelBookModel", name := "sayingTells", desc := "(II)I" } : Jvm.MethodName) ({ cls := "QuarrelBookModel", name := "sayingTells", desc := "(II)I" } : Jvm.MethodName)) ∈ lw_good := lw_memP 29 (by decide +kernel) rfl
set_option maxRecDepth 100000 in
theorem qp_30 : (Jvm.Cond.selects "QuarrelBookModel" ({ cls := "QuarrelBookModel", name := "lifeTells", desc := "(II)I" } : Jvm.MethodName) ({ cls := "QuarrelBookModel", name := "lifeTells", desc := "(II)I" } : Jvm.MethodName)) ∈ lw_good := lw_memP 30 (by decide +kernel) rfl
set_option maxRecDepth 100000 in
theorem qp_31 : (Jvm.Cond.selects "QuarrelBookModel" ({ cls := "QuarrelBookModel", name := "pupils", desc := "(I)I" } : Jvm.MethodName) ({ cls := "QuarrelBookModel", name := "pupils", desc := "(I)I" } : Jvm.MethodName)) ∈ lw_good := lw_memP 31 (by decide +kernel) rfl
set_option maxRecDepth 100000 in
theorem qp_32 : (Jvm.Cond.selects "QuarrelBookModel" ({ cls := "QuarrelBookModel", name := "goesOn", desc := "(I)I" } : Jvm.MethodName) ({ cls := "QuarrelBookModel", name := "goesOn", desc := "(I)I" } : Jvm.MethodName)) ∈ lw_good := lw_memP 32 (by decide +kernel) rfl
set_option maxRecDepth 100000 in
theorem qp_33 : (Jvm.Cond.selects "QuarrelBookModel" ({ cls := "QuarrelBookModel", name := "byteAt", desc := "(II)I" } : Jvm.MethodName) ({ cls := "QuarrelBookModel", name := "byteAt", desc := "(II)I" } : Jvm.MethodName)) ∈ lw_good := lw_memP 33 (by decide +kernel) rfl
set_option maxRecDepth 100000 in
theorem qp_34 : (Jvm.Cond.selects "QuarrelBookModel" ({ cls := "QuarrelBookModel", name := "doesFit", desc := "(III)Z" } : Jvm.MethodName) ({ cls := "QuarrelBookModel", name := "doesFit", desc := "(III)Z" } : Jvm.MethodName)) ∈ lw_good := lw_memP 34 (by decide +kernel) rfl
set_option maxRecDepth 100000 in
theorem qp_35 : (Jvm.Cond.selects "QuarrelBookModel" ({ cls := "QuarrelBookModel", name := "costOf", desc := "(II)I" } : Jvm.MethodName) ({ cls := "QuarrelBookModel", name := "costOf", desc := "(II)I" } : Jvm.MethodName)) ∈ lw_good := lw_memP 35 (by decide +kernel) rfl
set_option maxRecDepth 100000 in
theorem qp_36 : (Jvm.Cond.selects "QuarrelBookModel" ({ cls := "QuarrelBookModel", name := "settles", desc := "(I)V" } : Jvm.MethodName) ({ cls := "QuarrelBookModel", name := "settles", desc := "(I)V" } : Jvm.MethodName)) ∈ lw_good := lw_memP 36 (by decide +kernel) rfl
set_option maxRecDepth 100000 in
theorem qp_37 : (Jvm.Cond.selects "QuarrelBookModel" ({ cls := "QuarrelBookModel", name := "setTable", desc := "(I)V" } : Jvm.MethodName) ({ cls := "QuarrelBookModel", name := "setTable", desc := "(I)V" } : Jvm.MethodName)) ∈ lw_good := lw_memP 37 (by decide +kernel) rfl
set_option maxRecDepth 100000 in
theorem qp_38 : (Jvm.Cond.selects "QuarrelBookModel" ({ cls := "QuarrelBookModel", name := "sumBy", desc := "(I)I" } : Jvm.MethodName) ({ cls := "QuarrelBookModel", name := "sumBy", desc := "(I)I" } : Jvm.MethodName)) ∈ lw_good := lw_memP 38 (by decide +kernel) rfl
set_option maxRecDepth 100000 in
theorem qp_39 : (Jvm.Cond.selects "QuarrelBookModel" ({ cls := "QuarrelBookModel", name := "sumByTwo", desc := "(II)I" } : Jvm.MethodName) ({ cls := "QuarrelBookModel", name := "sumByTwo", desc := "(II)I" } : Jvm.MethodName)) ∈ lw_good := lw_memP 39 (by decide +kernel) rfl
set_option maxRecDepth 100000 in
theorem qp_40 : (Jvm.Cond.selects "QuarrelBookModel" ({ cls := "QuarrelBookModel", name := "setCheap", desc := "(I)V" } : Jvm.MethodName) ({ cls := "QuarrelBookModel", name := "setCheap", desc := "(I)V" } : Jvm.MethodName)) ∈ lw_good := lw_memP 40 (by decide +kernel) rfl
set_option maxRecDepth 100000 in
theorem qp_41 : (Jvm.Cond.selects "QuarrelBookModel" ({ cls := "QuarrelBookModel", name := "setRules", desc := "()V" } : Jvm.MethodName) ({ cls := "QuarrelBookModel", name := "setRules", desc := "()V" } : Jvm.MethodName)) ∈ lw_good := lw_memP 41 (by decide +kernel) rfl
set_option maxRecDepth 100000 in
theorem qp_42 : (Jvm.Cond.selects "QuarrelBookModel" ({ cls := "QuarrelBookModel", name := "againstOf", desc := "(I)I" } : Jvm.MethodName) ({ cls := "QuarrelBookModel", name := "againstOf", desc := "(I)I" } : Jvm.MethodName)) ∈ lw_good := lw_memP 42 (by decide +kernel) rfl
set_option maxRecDepth 100000 in
theorem qp_43 : (Jvm.Cond.selects "QuarrelBookModel" ({ cls := "QuarrelBookModel", name := "freshOf", desc := "(II)I" } : Jvm.MethodName) ({ cls := "QuarrelBookModel", name := "freshOf", desc := "(II)I" } : Jvm.MethodName)) ∈ lw_good := lw_memP 43 (by decide +kernel) rfl
set_option maxRecDepth 100000 in
theorem qp_44 : (Jvm.Cond.selects "QuarrelBookModel" ({ cls := "QuarrelBookModel", name := "freshNow", desc := "(I)I" } : Jvm.MethodName) ({ cls := "QuarrelBookModel", name := "freshNow", desc := "(I)I" } : Jvm.MethodName)) ∈ lw_good := lw_memP 44 (by decide +kernel) rfl
set_option maxRecDepth 100000 in
theorem qp_45 : (Jvm.Cond.selects "QuarrelBookModel" ({ cls := "QuarrelBookModel", name := "leastIn", desc := "(III)I" } : Jvm.MethodName) ({ cls := "QuarrelBookModel", name := "leastIn", desc := "(III)I" } : Jvm.MethodName)) ∈ lw_good := lw_memP 45 (by decide +kernel) rfl
set_option maxRecDepth 100000 in
theorem qp_46 : (Jvm.Cond.selects "QuarrelBookModel" ({ cls := "QuarrelBookModel", name := "isSaid", desc := "(II)Z" } : Jvm.MethodName) ({ cls := "QuarrelBookModel", name := "isSaid", desc := "(II)Z" } : Jvm.MethodName)) ∈ lw_good := lw_memP 46 (by decide +kernel) rfl
set_option maxRecDepth 100000 in
theorem qp_47 : (Jvm.Cond.selects "QuarrelBookModel" ({ cls := "QuarrelBookModel", name := "isMove", desc := "(III)Z" } : Jvm.MethodName) ({ cls := "QuarrelBookModel", name := "isMove", desc := "(III)Z" } : Jvm.MethodName)) ∈ lw_good := lw_memP 47 (by decide +kernel) rfl
set_option maxRecDepth 100000 in
theorem qp_48 : (Jvm.Cond.selects "QuarrelBookModel" ({ cls := "QuarrelBookModel", name := "moveTells", desc := "(II)I" } : Jvm.MethodName) ({ cls := "QuarrelBookModel", name := "moveTells", desc := "(II)I" } : Jvm.MethodName)) ∈ lw_good := lw_memP 48 (by decide +kernel) rfl
set_option maxRecDepth 100000 in
theorem qp_49 : (Jvm.Cond.selects "QuarrelBookModel" ({ cls := "QuarrelBookModel", name := "doesAnswer", desc := "(II)Z" } : Jvm.MethodName) ({ cls := "QuarrelBookModel", name := "doesAnswer", desc := "(II)Z" } : Jvm.MethodName)) ∈ lw_good := lw_memP 49 (by decide +kernel) rfl
set_option maxRecDepth 100000 in
theorem qp_50 : (Jvm.Cond.selects "QuarrelBookModel" ({ cls := "QuarrelBookModel", name := "lawOf", desc := "(II)I" } : Jvm.MethodName) ({ cls := "QuarrelBookModel", name := "lawOf", desc := "(II)I" } : Jvm.MethodName)) ∈ lw_good := lw_memP 50 (by decide +kernel) rfl
set_option maxRecDepth 100000 in
theorem qp_51 : (Jvm.Cond.selects "QuarrelBookModel" ({ cls := "QuarrelBookModel", name := "counts", desc := "(I)I" } : Jvm.MethodName) ({ cls := "QuarrelBookModel", name := "counts", desc := "(I)I" } : Jvm.MethodName)) ∈ lw_good := lw_memP 51 (by decide +kernel) rfl
set_option maxRecDepth 100000 in
theorem qp_52 : (Jvm.Cond.selects "QuarrelBookModel" ({ cls := "QuarrelBookModel", name := "mix", desc := "(I)V" } : Jvm.MethodName) ({ cls := "QuarrelBookModel", name := "mix", desc := "(I)V" } : Jvm.MethodName)) ∈ lw_good := lw_memP 52 (by decide +kernel) rfl
set_option maxRecDepth 100000 in
theorem qp_53 : (Jvm.Cond.selects "QuarrelBookModel" ({ cls := "QuarrelBookModel", name := "mixSayings", desc := "()V" } : Jvm.MethodName) ({ cls := "QuarrelBookModel", name := "mixSayings", desc := "()V" } : Jvm.MethodName)) ∈ lw_good := lw_memP 53 (by decide +kernel) rfl
