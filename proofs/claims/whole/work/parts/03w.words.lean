/-! WORDS of the tables, by their places -/
theorem tw_0 : (Jvm.Cond.initialized "StoneWorksLaw") ∈ WS := WS_of 63 (by decide +kernel) rfl
theorem tw_1 : (Jvm.Cond.initialized "StoneWorks") ∈ WS := WS_of 64 (by decide +kernel) rfl
theorem tw_2 : (Jvm.Cond.initialized "StoneWorks$Seasons") ∈ WS := WS_of 65 (by decide +kernel) rfl
theorem tw_3 : (Jvm.Cond.initialized "StoneWorks$Stores") ∈ WS := WS_of 66 (by decide +kernel) rfl
theorem tw_4 : (Jvm.Cond.initialized "StoneWorks$Tape") ∈ WS := WS_of 67 (by decide +kernel) rfl
theorem tw_5 : (Jvm.Cond.initialized "StoneWorks$Table") ∈ WS := WS_of 68 (by decide +kernel) rfl
theorem tw_6 : (Jvm.Cond.initialized "StoneWorks$TableReader") ∈ WS := WS_of 69 (by decide +kernel) rfl
theorem tw_7 : (Jvm.Cond.initialized "StoneWorks$Site") ∈ WS := WS_of 70 (by decide +kernel) rfl
theorem tw_8 : (Jvm.Cond.initialized "StoneWorks$Planner") ∈ WS := WS_of 71 (by decide +kernel) rfl
theorem tw_9 : (Jvm.Cond.initialized "StoneWorks$Tallies") ∈ WS := WS_of 72 (by decide +kernel) rfl
theorem tw_10 : (Jvm.Cond.initialized "StoneWorksModel") ∈ WS := WS_of 73 (by decide +kernel) rfl
theorem tw_11 : (Jvm.Cond.initialized "StoneWorks$Gang") ∈ WS := WS_of 74 (by decide +kernel) rfl
theorem tw_12 : (Jvm.Cond.initialized "java/lang/Math") ∈ WS := WS_of 75 (by decide +kernel) rfl
theorem tw_13 : (Jvm.Cond.initialized "java/lang/String") ∈ WS := WS_of 76 (by decide +kernel) rfl
theorem tw_14 : (Jvm.Cond.initialized "java/lang/StringLatin1") ∈ WS := WS_of 77 (by decide +kernel) rfl
theorem tw_15 : (Jvm.Cond.initialized "jdk/internal/util/Preconditions") ∈ WS := WS_of 78 (by decide +kernel) rfl
theorem tw_16 : (Jvm.Cond.initialized "java/lang/StringUTF16") ∈ WS := WS_of 79 (by decide +kernel) rfl
theorem tw_17 : (Jvm.Cond.initialized "StoneWorks$Stone") ∈ WS := WS_of 80 (by decide +kernel) rfl
theorem tw_18 : (Jvm.Cond.initialized "java/lang/Integer") ∈ WS := WS_of 81 (by decide +kernel) rfl
theorem tw_19 : (Jvm.Cond.classLink "StoneWorksLaw" (7 : Nat) "StoneWorks") ∈ WS := WS_of 82 (by decide +kernel) rfl
theorem tw_20 : (Jvm.Cond.instantiable "StoneWorks" (8 : Nat)) ∈ WS := WS_of 83 (by decide +kernel) rfl
theorem tw_21 : (Jvm.Cond.methodLink "StoneWorksLaw" (9 : Nat) ({ cls := "StoneWorks", name := "<init>", desc := "()V" } : Jvm.MethodName)) ∈ WS := WS_of 84 (by decide +kernel) rfl
theorem tw_22 : (Jvm.Cond.instanceMethod ({ cls := "StoneWorks", name := "<init>", desc := "()V" } : Jvm.MethodName)) ∈ WS := WS_of 85 (by decide +kernel) rfl
theorem tw_23 : (Jvm.Cond.code ({ cls := "StoneWorks", name := "<init>", desc := "()V" } : Jvm.MethodName) prog_1_method_1_code (1 : Nat) (Option.none : Option Jvm.ClassFile.FieldType)) ∈ WS := WS_of 86 (by decide +kernel) rfl
theorem tw_24 : (Jvm.Cond.methodLink "StoneWorks" (3 : Nat) ({ cls := "java/lang/Object", name := "<init>", desc := "()V" } : Jvm.MethodName)) ∈ WS := WS_of 87 (by decide +kernel) rfl
theorem tw_25 : (Jvm.Cond.instanceMethod ({ cls := "java/lang/Object", name := "<init>", desc := "()V" } : Jvm.MethodName)) ∈ WS := WS_of 88 (by decide +kernel) rfl
theorem tw_26 : (Jvm.Cond.code ({ cls := "java/lang/Object", name := "<init>", desc := "()V" } : Jvm.MethodName) object_method_1_code (1 : Nat) (Option.none : Option Jvm.ClassFile.FieldType)) ∈ WS := WS_of 89 (by decide +kernel) rfl
theorem tw_27 : (Jvm.Cond.classLink "StoneWorks" (9 : Nat) "StoneWorks$Seasons") ∈ WS := WS_of 90 (by decide +kernel) rfl
theorem tw_28 : (Jvm.Cond.instantiable "StoneWorks$Seasons" (7 : Nat)) ∈ WS := WS_of 91 (by decide +kernel) rfl
theorem tw_29 : (Jvm.Cond.methodLinkNest "StoneWorks" (11 : Nat) ({ cls := "StoneWorks$Seasons", name := "<init>", desc := "()V" } : Jvm.MethodName) "StoneWorks") ∈ lw_tbl := List.mem_of_getElem? (i := 92) (by decide +kernel)
theorem tw_30 : (Jvm.Cond.instanceMethod ({ cls := "StoneWorks$Seasons", name := "<init>", desc := "()V" } : Jvm.MethodName)) ∈ WS := WS_of 93 (by decide +kernel) rfl
theorem tw_31 : (Jvm.Cond.code ({ cls := "StoneWorks$Seasons", name := "<init>", desc := "()V" } : Jvm.MethodName) prog_4_method_1_code (1 : Nat) (Option.none : Option Jvm.ClassFile.FieldType)) ∈ WS := WS_of 94 (by decide +kernel) rfl
theorem tw_32 : (Jvm.Cond.methodLink "StoneWorks$Seasons" (3 : Nat) ({ cls := "java/lang/Object", name := "<init>", desc := "()V" } : Jvm.MethodName)) ∈ WS := WS_of 95 (by decide +kernel) rfl
theorem tw_33 : (Jvm.Cond.fieldLink "StoneWorks$Seasons" (11 : Nat) "StoneWorks$Seasons" "kindOf" "[I") ∈ WS := WS_of 96 (by decide +kernel) rfl
theorem tw_34 : (Jvm.Cond.fieldLink "StoneWorks$Seasons" (15 : Nat) "StoneWorks$Seasons" "firstOf" "[I") ∈ WS := WS_of 97 (by decide +kernel) rfl
theorem tw_35 : (Jvm.Cond.fieldLink "StoneWorks$Seasons" (18 : Nat) "StoneWorks$Seasons" "lastOf" "[I") ∈ WS := WS_of 98 (by decide +kernel) rfl
theorem tw_36 : (Jvm.Cond.fieldLink "StoneWorks$Seasons" (21 : Nat) "StoneWorks$Seasons" "spells" "I") ∈ WS := WS_of 99 (by decide +kernel) rfl
theorem tw_37 : (Jvm.Cond.fieldLinkNest "StoneWorks" (214 : Nat) "StoneWorks$Seasons" "spells" "I" "StoneWorks") ∈ lw_tbl := List.mem_of_getElem? (i := 100) (by decide +kernel)
theorem tw_38 : (Jvm.Cond.fieldLink "StoneWorks$Seasons" (25 : Nat) "StoneWorks$Seasons" "runFirst" "[I") ∈ WS := WS_of 101 (by decide +kernel) rfl
theorem tw_39 : (Jvm.Cond.fieldLink "StoneWorks$Seasons" (28 : Nat) "StoneWorks$Seasons" "runLast" "[I") ∈ WS := WS_of 102 (by decide +kernel) rfl
theorem tw_40 : (Jvm.Cond.fieldLink "StoneWorks$Seasons" (31 : Nat) "StoneWorks$Seasons" "runs" "I") ∈ WS := WS_of 103 (by decide +kernel) rfl
theorem tw_56 : (Jvm.Cond.arrayClass Jvm.ClassFile.FieldType.int) ∈ WS := WS_of 119 (by decide +kernel) rfl
theorem tw_57 : (Jvm.Cond.classLink "StoneWorks" (16 : Nat) "StoneWorks$Stores") ∈ WS := WS_of 120 (by decide +kernel) rfl
theorem tw_58 : (Jvm.Cond.instantiable "StoneWorks$Stores" (4 : Nat)) ∈ WS := WS_of 121 (by decide +kernel) rfl
theorem tw_59 : (Jvm.Cond.methodLinkNest "StoneWorks" (18 : Nat) ({ cls := "StoneWorks$Stores", name := "<init>", desc := "()V" } : Jvm.MethodName) "StoneWorks") ∈ lw_tbl := List.mem_of_getElem? (i := 122) (by decide +kernel)
theorem tw_60 : (Jvm.Cond.instanceMethod ({ cls := "StoneWorks$Stores", name := "<init>", desc := "()V" } : Jvm.MethodName)) ∈ WS := WS_of 123 (by decide +kernel) rfl
theorem tw_61 : (Jvm.Cond.code ({ cls := "StoneWorks$Stores", name := "<init>", desc := "()V" } : Jvm.MethodName) prog_7_method_1_code (1 : Nat) (Option.none : Option Jvm.ClassFile.FieldType)) ∈ WS := WS_of 124 (by decide +kernel) rfl
theorem tw_62 : (Jvm.Cond.methodLink "StoneWorks$Stores" (3 : Nat) ({ cls := "java/lang/Object", name := "<init>", desc := "()V" } : Jvm.MethodName)) ∈ WS := WS_of 125 (by decide +kernel) rfl
theorem tw_63 : (Jvm.Cond.fieldLink "StoneWorks$Stores" (11 : Nat) "StoneWorks$Stores" "dayOf" "[I") ∈ WS := WS_of 126 (by decide +kernel) rfl
theorem tw_64 : (Jvm.Cond.fieldLink "StoneWorks$Stores" (15 : Nat) "StoneWorks$Stores" "loadOf" "[I") ∈ WS := WS_of 127 (by decide +kernel) rfl
theorem tw_65 : (Jvm.Cond.fieldLink "StoneWorks$Stores" (18 : Nat) "StoneWorks$Stores" "boats" "I") ∈ WS := WS_of 128 (by decide +kernel) rfl
theorem tw_66 : (Jvm.Cond.fieldLinkNest "StoneWorks" (211 : Nat) "StoneWorks$Stores" "boats" "I" "StoneWorks") ∈ lw_tbl := List.mem_of_getElem? (i := 129) (by decide +kernel)
theorem tw_67 : (Jvm.Cond.fieldLink "StoneWorks$Stores" (22 : Nat) "StoneWorks$Stores" "food" "I") ∈ WS := WS_of 130 (by decide +kernel) rfl
theorem tw_68 : (Jvm.Cond.fieldLinkNest "StoneWorks$Site" (139 : Nat) "StoneWorks$Stores" "food" "I" "StoneWorks") ∈ lw_tbl := List.mem_of_getElem? (i := 131) (by decide +kernel)
theorem tw_69 : (Jvm.Cond.fieldLinkNest "StoneWorks" (202 : Nat) "StoneWorks$Stores" "food" "I" "StoneWorks") ∈ lw_tbl := List.mem_of_getElem? (i := 132) (by decide +kernel)
theorem tw_79 : (Jvm.Cond.classLink "StoneWorks" (23 : Nat) "StoneWorks$Tape") ∈ WS := WS_of 142 (by decide +kernel) rfl
theorem tw_80 : (Jvm.Cond.instantiable "StoneWorks$Tape" (2 : Nat)) ∈ WS := WS_of 143 (by decide +kernel) rfl
theorem tw_81 : (Jvm.Cond.methodLinkNest "StoneWorks" (25 : Nat) ({ cls := "StoneWorks$Tape", name := "<init>", desc := "()V" } : Jvm.MethodName) "StoneWorks") ∈ lw_tbl := List.mem_of_getElem? (i := 144) (by decide +kernel)
theorem tw_82 : (Jvm.Cond.instanceMethod ({ cls := "StoneWorks$Tape", name := "<init>", desc := "()V" } : Jvm.MethodName)) ∈ WS := WS_of 145 (by decide +kernel) rfl
theorem tw_83 : (Jvm.Cond.code ({ cls := "StoneWorks$Tape", name := "<init>", desc := "()V" } : Jvm.MethodName) prog_11_method_1_code (1 : Nat) (Option.none : Option Jvm.ClassFile.FieldType)) ∈ WS := WS_of 146 (by decide +kernel) rfl
theorem tw_84 : (Jvm.Cond.methodLink "StoneWorks$Tape" (3 : Nat) ({ cls := "java/lang/Object", name := "<init>", desc := "()V" } : Jvm.MethodName)) ∈ WS := WS_of 147 (by decide +kernel) rfl
theorem tw_85 : (Jvm.Cond.fieldLink "StoneWorks$Tape" (11 : Nat) "StoneWorks$Tape" "bytes" "[B") ∈ WS := WS_of 148 (by decide +kernel) rfl
theorem tw_86 : (Jvm.Cond.fieldLink "StoneWorks$Tape" (15 : Nat) "StoneWorks$Tape" "length" "I") ∈ WS := WS_of 149 (by decide +kernel) rfl
theorem tw_87 : (Jvm.Cond.fieldLinkNest "StoneWorks$TableReader" (38 : Nat) "StoneWorks$Tape" "length" "I" "StoneWorks") ∈ lw_tbl := List.mem_of_getElem? (i := 150) (by decide +kernel)
theorem tw_88 : (Jvm.Cond.fieldLinkNest "StoneWorks" (97 : Nat) "StoneWorks$Tape" "length" "I" "StoneWorks") ∈ lw_tbl := List.mem_of_getElem? (i := 151) (by decide +kernel)
theorem tw_94 : (Jvm.Cond.arrayClass Jvm.ClassFile.FieldType.byte) ∈ WS := WS_of 157 (by decide +kernel) rfl
theorem tw_95 : (Jvm.Cond.classLink "StoneWorks" (30 : Nat) "StoneWorks$Table") ∈ WS := WS_of 158 (by decide +kernel) rfl
theorem tw_96 : (Jvm.Cond.instantiable "StoneWorks$Table" (1 : Nat)) ∈ WS := WS_of 159 (by decide +kernel) rfl
theorem tw_97 : (Jvm.Cond.methodLink "StoneWorks" (32 : Nat) ({ cls := "StoneWorks$Table", name := "<init>", desc := "()V" } : Jvm.MethodName)) ∈ WS := WS_of 160 (by decide +kernel) rfl
theorem tw_98 : (Jvm.Cond.instanceMethod ({ cls := "StoneWorks$Table", name := "<init>", desc := "()V" } : Jvm.MethodName)) ∈ WS := WS_of 161 (by decide +kernel) rfl
theorem tw_99 : (Jvm.Cond.code ({ cls := "StoneWorks$Table", name := "<init>", desc := "()V" } : Jvm.MethodName) prog_8_method_1_code (1 : Nat) (Option.none : Option Jvm.ClassFile.FieldType)) ∈ WS := WS_of 162 (by decide +kernel) rfl
theorem tw_100 : (Jvm.Cond.methodLink "StoneWorks$Table" (3 : Nat) ({ cls := "java/lang/Object", name := "<init>", desc := "()V" } : Jvm.MethodName)) ∈ WS := WS_of 163 (by decide +kernel) rfl
theorem tw_101 : (Jvm.Cond.fieldLink "StoneWorks$Table" (15 : Nat) "StoneWorks$Table" "WITHOUT" "[I") ∈ WS := WS_of 164 (by decide +kernel) rfl
theorem tw_103 : (Jvm.Cond.methodLink "StoneWorks$Table" (18 : Nat) ({ cls := "StoneWorks$Table", name := "takeNumbers", desc := "([I)V" } : Jvm.MethodName)) ∈ WS := WS_of 166 (by decide +kernel) rfl
theorem tw_104 : (Jvm.Cond.instanceMethod ({ cls := "StoneWorks$Table", name := "takeNumbers", desc := "([I)V" } : Jvm.MethodName)) ∈ WS := WS_of 167 (by decide +kernel) rfl
theorem tw_105 : (Jvm.Cond.selects "StoneWorks$Table" ({ cls := "StoneWorks$Table", name := "takeNumbers", desc := "([I)V" } : Jvm.MethodName) ({ cls := "StoneWorks$Table", name := "takeNumbers", desc := "([I)V" } : Jvm.MethodName)) ∈ WS := WS_of 168 (by decide +kernel) rfl
theorem tw_106 : (Jvm.Cond.code ({ cls := "StoneWorks$Table", name := "takeNumbers", desc := "([I)V" } : Jvm.MethodName) prog_8_method_2_code (3 : Nat) (Option.none : Option Jvm.ClassFile.FieldType)) ∈ WS := WS_of 169 (by decide +kernel) rfl
theorem tw_107 : (Jvm.Cond.fieldLink "StoneWorks$Table" (9 : Nat) "StoneWorks$Table" "numbers" "[I") ∈ WS := WS_of 170 (by decide +kernel) rfl
theorem tw_111 : (Jvm.Cond.classLink "StoneWorks" (37 : Nat) "StoneWorks$TableReader") ∈ WS := WS_of 174 (by decide +kernel) rfl
theorem tw_112 : (Jvm.Cond.instantiable "StoneWorks$TableReader" (6 : Nat)) ∈ WS := WS_of 175 (by decide +kernel) rfl
theorem tw_113 : (Jvm.Cond.methodLink "StoneWorks" (39 : Nat) ({ cls := "StoneWorks$TableReader", name := "<init>", desc := "(LStoneWorks$Tape;)V" } : Jvm.MethodName)) ∈ WS := WS_of 176 (by decide +kernel) rfl
theorem tw_114 : (Jvm.Cond.instanceMethod ({ cls := "StoneWorks$TableReader", name := "<init>", desc := "(LStoneWorks$Tape;)V" } : Jvm.MethodName)) ∈ WS := WS_of 177 (by decide +kernel) rfl
theorem tw_115 : (Jvm.Cond.code ({ cls := "StoneWorks$TableReader", name := "<init>", desc := "(LStoneWorks$Tape;)V" } : Jvm.MethodName) prog_9_method_1_code (2 : Nat) (Option.none : Option Jvm.ClassFile.FieldType)) ∈ WS := WS_of 178 (by decide +kernel) rfl
theorem tw_116 : (Jvm.Cond.methodLink "StoneWorks$TableReader" (3 : Nat) ({ cls := "java/lang/Object", name := "<init>", desc := "()V" } : Jvm.MethodName)) ∈ WS := WS_of 179 (by decide +kernel) rfl
theorem tw_117 : (Jvm.Cond.fieldLink "StoneWorks$TableReader" (28 : Nat) "StoneWorks$TableReader" "tape" "LStoneWorks$Tape;") ∈ WS := WS_of 180 (by decide +kernel) rfl
theorem tw_118 : (Jvm.Cond.fieldLink "StoneWorks$TableReader" (9 : Nat) "StoneWorks$TableReader" "numbers" "[I") ∈ WS := WS_of 181 (by decide +kernel) rfl
theorem tw_119 : (Jvm.Cond.fieldLinkNest "StoneWorks" (107 : Nat) "StoneWorks$TableReader" "numbers" "[I" "StoneWorks") ∈ lw_tbl := List.mem_of_getElem? (i := 182) (by decide +kernel)
theorem tw_120 : (Jvm.Cond.fieldLink "StoneWorks$TableReader" (15 : Nat) "StoneWorks$TableReader" "clauses" "I") ∈ WS := WS_of 183 (by decide +kernel) rfl
theorem tw_121 : (Jvm.Cond.fieldLinkNest "StoneWorks" (115 : Nat) "StoneWorks$TableReader" "clauses" "I" "StoneWorks") ∈ lw_tbl := List.mem_of_getElem? (i := 184) (by decide +kernel)
theorem tw_122 : (Jvm.Cond.fieldLink "StoneWorks$TableReader" (19 : Nat) "StoneWorks$TableReader" "toldOnes" "I") ∈ WS := WS_of 185 (by decide +kernel) rfl
theorem tw_123 : (Jvm.Cond.fieldLink "StoneWorks$TableReader" (22 : Nat) "StoneWorks$TableReader" "place" "I") ∈ WS := WS_of 186 (by decide +kernel) rfl
theorem tw_124 : (Jvm.Cond.fieldLink "StoneWorks$TableReader" (25 : Nat) "StoneWorks$TableReader" "fault" "I") ∈ WS := WS_of 187 (by decide +kernel) rfl
theorem tw_138 : (Jvm.Cond.classLink "StoneWorks" (46 : Nat) "StoneWorks$Site") ∈ WS := WS_of 201 (by decide +kernel) rfl
theorem tw_139 : (Jvm.Cond.instantiable "StoneWorks$Site" (11 : Nat)) ∈ WS := WS_of 202 (by decide +kernel) rfl
theorem tw_140 : (Jvm.Cond.methodLink "StoneWorks" (48 : Nat) ({ cls := "StoneWorks$Site", name := "<init>", desc := "(LStoneWorks$Table;LStoneWorks$Seasons;LStoneWorks$Stores;)V" } : Jvm.MethodName)) ∈ WS := WS_of 203 (by decide +kernel) rfl
theorem tw_141 : (Jvm.Cond.instanceMethod ({ cls := "StoneWorks$Site", name := "<init>", desc := "(LStoneWorks$Table;LStoneWorks$Seasons;LStoneWorks$Stores;)V" } : Jvm.MethodName)) ∈ WS := WS_of 204 (by decide +kernel) rfl
theorem tw_142 : (Jvm.Cond.code ({ cls := "StoneWorks$Site", name := "<init>", desc := "(LStoneWorks$Table;LStoneWorks$Seasons;LStoneWorks$Stores;)V" } : Jvm.MethodName) prog_5_method_1_code (4 : Nat) (Option.none : Option Jvm.ClassFile.FieldType)) ∈ WS := WS_of 205 (by decide +kernel) rfl
theorem tw_143 : (Jvm.Cond.methodLink "StoneWorks$Site" (3 : Nat) ({ cls := "java/lang/Object", name := "<init>", desc := "()V" } : Jvm.MethodName)) ∈ WS := WS_of 206 (by decide +kernel) rfl
theorem tw_144 : (Jvm.Cond.classLink "StoneWorks$Site" (9 : Nat) "StoneWorks$Gang") ∈ WS := WS_of 207 (by decide +kernel) rfl
theorem tw_146 : (Jvm.Cond.classLink "StoneWorks$Site" (17 : Nat) "StoneWorks$Stone") ∈ WS := WS_of 209 (by decide +kernel) rfl
theorem tw_148 : (Jvm.Cond.fieldLink "StoneWorks$Site" (42 : Nat) "StoneWorks$Site" "rules" "LStoneWorks$Table;") ∈ WS := WS_of 211 (by decide +kernel) rfl
theorem tw_149 : (Jvm.Cond.fieldLink "StoneWorks$Site" (46 : Nat) "StoneWorks$Site" "seasons" "LStoneWorks$Seasons;") ∈ WS := WS_of 212 (by decide +kernel) rfl
theorem tw_150 : (Jvm.Cond.fieldLink "StoneWorks$Site" (50 : Nat) "StoneWorks$Site" "stores" "LStoneWorks$Stores;") ∈ WS := WS_of 213 (by decide +kernel) rfl
theorem tw_151 : (Jvm.Cond.fieldLink "StoneWorks$Site" (11 : Nat) "StoneWorks$Site" "gangs" "[LStoneWorks$Gang;") ∈ WS := WS_of 214 (by decide +kernel) rfl
theorem tw_152 : (Jvm.Cond.fieldLink "StoneWorks$Site" (19 : Nat) "StoneWorks$Site" "stones" "[LStoneWorks$Stone;") ∈ WS := WS_of 215 (by decide +kernel) rfl
theorem tw_153 : (Jvm.Cond.fieldLink "StoneWorks$Site" (23 : Nat) "StoneWorks$Site" "gangCount" "I") ∈ WS := WS_of 216 (by decide +kernel) rfl
theorem tw_154 : (Jvm.Cond.fieldLinkNest "StoneWorks" (196 : Nat) "StoneWorks$Site" "gangCount" "I" "StoneWorks") ∈ lw_tbl := List.mem_of_getElem? (i := 217) (by decide +kernel)
theorem tw_155 : (Jvm.Cond.fieldLink "StoneWorks$Site" (27 : Nat) "StoneWorks$Site" "stoneCount" "I") ∈ WS := WS_of 218 (by decide +kernel) rfl
theorem tw_156 : (Jvm.Cond.fieldLinkNest "StoneWorks$Planner" (101 : Nat) "StoneWorks$Site" "stoneCount" "I" "StoneWorks") ∈ lw_tbl := List.mem_of_getElem? (i := 219) (by decide +kernel)
theorem tw_157 : (Jvm.Cond.fieldLinkNest "StoneWorks" (199 : Nat) "StoneWorks$Site" "stoneCount" "I" "StoneWorks") ∈ lw_tbl := List.mem_of_getElem? (i := 220) (by decide +kernel)
theorem tw_158 : (Jvm.Cond.fieldLink "StoneWorks$Site" (30 : Nat) "StoneWorks$Site" "allMen" "I") ∈ WS := WS_of 221 (by decide +kernel) rfl
theorem tw_159 : (Jvm.Cond.fieldLink "StoneWorks$Site" (33 : Nat) "StoneWorks$Site" "rampHigh" "I") ∈ WS := WS_of 222 (by decide +kernel) rfl
theorem tw_160 : (Jvm.Cond.fieldLinkNest "StoneWorks$Planner" (140 : Nat) "StoneWorks$Site" "rampHigh" "I" "StoneWorks") ∈ lw_tbl := List.mem_of_getElem? (i := 223) (by decide +kernel)
theorem tw_161 : (Jvm.Cond.fieldLinkNest "StoneWorks" (205 : Nat) "StoneWorks$Site" "rampHigh" "I" "StoneWorks") ∈ lw_tbl := List.mem_of_getElem? (i := 224) (by decide +kernel)
theorem tw_162 : (Jvm.Cond.fieldLink "StoneWorks$Site" (36 : Nat) "StoneWorks$Site" "now" "I") ∈ WS := WS_of 225 (by decide +kernel) rfl
theorem tw_163 : (Jvm.Cond.fieldLinkNest "StoneWorks" (77 : Nat) "StoneWorks$Site" "now" "I" "StoneWorks") ∈ lw_tbl := List.mem_of_getElem? (i := 226) (by decide +kernel)
theorem tw_164 : (Jvm.Cond.fieldLinkNest "StoneWorks$Planner" (79 : Nat) "StoneWorks$Site" "now" "I" "StoneWorks") ∈ lw_tbl := List.mem_of_getElem? (i := 227) (by decide +kernel)
theorem tw_165 : (Jvm.Cond.fieldLink "StoneWorks$Site" (39 : Nat) "StoneWorks$Site" "hungerDays" "I") ∈ WS := WS_of 228 (by decide +kernel) rfl
theorem tw_166 : (Jvm.Cond.fieldLinkNest "StoneWorks" (220 : Nat) "StoneWorks$Site" "hungerDays" "I" "StoneWorks") ∈ lw_tbl := List.mem_of_getElem? (i := 229) (by decide +kernel)
theorem tw_190 : (Jvm.Cond.classLink "StoneWorks" (55 : Nat) "StoneWorks$Planner") ∈ WS := WS_of 253 (by decide +kernel) rfl
theorem tw_191 : (Jvm.Cond.instantiable "StoneWorks$Planner" (18 : Nat)) ∈ WS := WS_of 254 (by decide +kernel) rfl
theorem tw_192 : (Jvm.Cond.methodLink "StoneWorks" (57 : Nat) ({ cls := "StoneWorks$Planner", name := "<init>", desc := "(LStoneWorks$Site;LStoneWorks$Table;LStoneWorks$Seasons;)V" } : Jvm.MethodName)) ∈ WS := WS_of 255 (by decide +kernel) rfl
theorem tw_193 : (Jvm.Cond.instanceMethod ({ cls := "StoneWorks$Planner", name := "<init>", desc := "(LStoneWorks$Site;LStoneWorks$Table;LStoneWorks$Seasons;)V" } : Jvm.MethodName)) ∈ WS := WS_of 256 (by decide +kernel) rfl
theorem tw_194 : (Jvm.Cond.code ({ cls := "StoneWorks$Planner", name := "<init>", desc := "(LStoneWorks$Site;LStoneWorks$Table;LStoneWorks$Seasons;)V" } : Jvm.MethodName) prog_3_method_1_code (4 : Nat) (Option.none : Option Jvm.ClassFile.FieldType)) ∈ WS := WS_of 257 (by decide +kernel) rfl
theorem tw_195 : (Jvm.Cond.methodLink "StoneWorks$Planner" (3 : Nat) ({ cls := "java/lang/Object", name := "<init>", desc := "()V" } : Jvm.MethodName)) ∈ WS := WS_of 258 (by decide +kernel) rfl
theorem tw_196 : (Jvm.Cond.classLink "StoneWorks$Planner" (11 : Nat) "StoneWorks$Stone") ∈ WS := WS_of 259 (by decide +kernel) rfl
theorem tw_197 : (Jvm.Cond.classLink "StoneWorks$Planner" (25 : Nat) "[[I") ∈ WS := WS_of 260 (by decide +kernel) rfl
theorem tw_199 : (Jvm.Cond.fieldLink "StoneWorks$Planner" (63 : Nat) "StoneWorks$Planner" "site" "LStoneWorks$Site;") ∈ WS := WS_of 262 (by decide +kernel) rfl
theorem tw_200 : (Jvm.Cond.fieldLink "StoneWorks$Planner" (67 : Nat) "StoneWorks$Planner" "rules" "LStoneWorks$Table;") ∈ WS := WS_of 263 (by decide +kernel) rfl
theorem tw_201 : (Jvm.Cond.fieldLink "StoneWorks$Planner" (71 : Nat) "StoneWorks$Planner" "seasons" "LStoneWorks$Seasons;") ∈ WS := WS_of 264 (by decide +kernel) rfl
theorem tw_202 : (Jvm.Cond.fieldLink "StoneWorks$Planner" (13 : Nat) "StoneWorks$Planner" "stones" "[LStoneWorks$Stone;") ∈ WS := WS_of 265 (by decide +kernel) rfl
theorem tw_203 : (Jvm.Cond.fieldLink "StoneWorks$Planner" (17 : Nat) "StoneWorks$Planner" "numberOf" "[I") ∈ WS := WS_of 266 (by decide +kernel) rfl
theorem tw_204 : (Jvm.Cond.fieldLink "StoneWorks$Planner" (21 : Nat) "StoneWorks$Planner" "size" "I") ∈ WS := WS_of 267 (by decide +kernel) rfl
theorem tw_205 : (Jvm.Cond.fieldLink "StoneWorks$Planner" (27 : Nat) "StoneWorks$Planner" "leadDays" "[[I") ∈ WS := WS_of 268 (by decide +kernel) rfl
theorem tw_206 : (Jvm.Cond.fieldLink "StoneWorks$Planner" (30 : Nat) "StoneWorks$Planner" "rampDays" "[I") ∈ WS := WS_of 269 (by decide +kernel) rfl
theorem tw_207 : (Jvm.Cond.fieldLink "StoneWorks$Planner" (33 : Nat) "StoneWorks$Planner" "lesserOnes" "[I") ∈ WS := WS_of 270 (by decide +kernel) rfl
theorem tw_208 : (Jvm.Cond.fieldLink "StoneWorks$Planner" (36 : Nat) "StoneWorks$Planner" "order" "[I") ∈ WS := WS_of 271 (by decide +kernel) rfl
theorem tw_209 : (Jvm.Cond.fieldLink "StoneWorks$Planner" (39 : Nat) "StoneWorks$Planner" "takerOf" "[I") ∈ WS := WS_of 272 (by decide +kernel) rfl
theorem tw_210 : (Jvm.Cond.fieldLink "StoneWorks$Planner" (42 : Nat) "StoneWorks$Planner" "beginOf" "[I") ∈ WS := WS_of 273 (by decide +kernel) rfl
theorem tw_211 : (Jvm.Cond.fieldLink "StoneWorks$Planner" (45 : Nat) "StoneWorks$Planner" "layDayOf" "[I") ∈ WS := WS_of 274 (by decide +kernel) rfl
theorem tw_212 : (Jvm.Cond.fieldLink "StoneWorks$Planner" (48 : Nat) "StoneWorks$Planner" "freeFrom" "[I") ∈ WS := WS_of 275 (by decide +kernel) rfl
theorem tw_213 : (Jvm.Cond.fieldLink "StoneWorks$Planner" (51 : Nat) "StoneWorks$Planner" "least" "I") ∈ WS := WS_of 276 (by decide +kernel) rfl
theorem tw_214 : (Jvm.Cond.fieldLink "StoneWorks$Planner" (54 : Nat) "StoneWorks$Planner" "floor" "I") ∈ WS := WS_of 277 (by decide +kernel) rfl
theorem tw_215 : (Jvm.Cond.fieldLink "StoneWorks$Planner" (57 : Nat) "StoneWorks$Planner" "told" "[[I") ∈ WS := WS_of 278 (by decide +kernel) rfl
theorem tw_216 : (Jvm.Cond.fieldLink "StoneWorks$Planner" (60 : Nat) "StoneWorks$Planner" "toldSize" "I") ∈ WS := WS_of 279 (by decide +kernel) rfl
theorem tw_254 : (Jvm.Cond.classLink "StoneWorks" (64 : Nat) "StoneWorks$Tallies") ∈ WS := WS_of 317 (by decide +kernel) rfl
theorem tw_255 : (Jvm.Cond.instantiable "StoneWorks$Tallies" (13 : Nat)) ∈ WS := WS_of 318 (by decide +kernel) rfl
theorem tw_256 : (Jvm.Cond.methodLink "StoneWorks" (66 : Nat) ({ cls := "StoneWorks$Tallies", name := "<init>", desc := "(LStoneWorks$Site;)V" } : Jvm.MethodName)) ∈ WS := WS_of 319 (by decide +kernel) rfl
theorem tw_257 : (Jvm.Cond.instanceMethod ({ cls := "StoneWorks$Tallies", name := "<init>", desc := "(LStoneWorks$Site;)V" } : Jvm.MethodName)) ∈ WS := WS_of 320 (by decide +kernel) rfl
theorem tw_258 : (Jvm.Cond.code ({ cls := "StoneWorks$Tallies", name := "<init>", desc := "(LStoneWorks$Site;)V" } : Jvm.MethodName) prog_10_method_1_code (2 : Nat) (Option.none : Option Jvm.ClassFile.FieldType)) ∈ WS := WS_of 321 (by decide +kernel) rfl
theorem tw_259 : (Jvm.Cond.methodLink "StoneWorks$Tallies" (3 : Nat) ({ cls := "java/lang/Object", name := "<init>", desc := "()V" } : Jvm.MethodName)) ∈ WS := WS_of 322 (by decide +kernel) rfl
theorem tw_260 : (Jvm.Cond.fieldLink "StoneWorks$Tallies" (49 : Nat) "StoneWorks$Tallies" "site" "LStoneWorks$Site;") ∈ WS := WS_of 323 (by decide +kernel) rfl
theorem tw_261 : (Jvm.Cond.fieldLink "StoneWorks$Tallies" (11 : Nat) "StoneWorks$Tallies" "gangOf" "[I") ∈ WS := WS_of 324 (by decide +kernel) rfl
theorem tw_262 : (Jvm.Cond.fieldLink "StoneWorks$Tallies" (15 : Nat) "StoneWorks$Tallies" "fromOf" "[I") ∈ WS := WS_of 325 (by decide +kernel) rfl
theorem tw_263 : (Jvm.Cond.fieldLink "StoneWorks$Tallies" (18 : Nat) "StoneWorks$Tallies" "toOf" "[I") ∈ WS := WS_of 326 (by decide +kernel) rfl
theorem tw_264 : (Jvm.Cond.fieldLink "StoneWorks$Tallies" (21 : Nat) "StoneWorks$Tallies" "stonesOf" "[I") ∈ WS := WS_of 327 (by decide +kernel) rfl
theorem tw_265 : (Jvm.Cond.fieldLink "StoneWorks$Tallies" (24 : Nat) "StoneWorks$Tallies" "size" "I") ∈ WS := WS_of 328 (by decide +kernel) rfl
theorem tw_266 : (Jvm.Cond.fieldLinkNest "StoneWorks" (217 : Nat) "StoneWorks$Tallies" "size" "I" "StoneWorks") ∈ lw_tbl := List.mem_of_getElem? (i := 329) (by decide +kernel)
theorem tw_267 : (Jvm.Cond.fieldLink "StoneWorks$Tallies" (28 : Nat) "StoneWorks$Tallies" "quarrelling" "I") ∈ WS := WS_of 330 (by decide +kernel) rfl
theorem tw_268 : (Jvm.Cond.fieldLink "StoneWorks$Tallies" (31 : Nat) "StoneWorks$Tallies" "judged" "I") ∈ WS := WS_of 331 (by decide +kernel) rfl
theorem tw_269 : (Jvm.Cond.fieldLink "StoneWorks$Tallies" (34 : Nat) "StoneWorks$Tallies" "borders" "[I") ∈ WS := WS_of 332 (by decide +kernel) rfl
theorem tw_270 : (Jvm.Cond.fieldLink "StoneWorks$Tallies" (37 : Nat) "StoneWorks$Tallies" "laidAhead" "[I") ∈ WS := WS_of 333 (by decide +kernel) rfl
theorem tw_271 : (Jvm.Cond.fieldLink "StoneWorks$Tallies" (40 : Nat) "StoneWorks$Tallies" "borderCount" "I") ∈ WS := WS_of 334 (by decide +kernel) rfl
theorem tw_272 : (Jvm.Cond.fieldLink "StoneWorks$Tallies" (43 : Nat) "StoneWorks$Tallies" "beginsAt" "[I") ∈ WS := WS_of 335 (by decide +kernel) rfl
theorem tw_273 : (Jvm.Cond.fieldLink "StoneWorks$Tallies" (46 : Nat) "StoneWorks$Tallies" "endsAt" "[I") ∈ WS := WS_of 336 (by decide +kernel) rfl
theorem tw_301 : (Jvm.Cond.fieldLink "StoneWorks" (12 : Nat) "StoneWorks" "seasons" "LStoneWorks$Seasons;") ∈ WS := WS_of 364 (by decide +kernel) rfl
theorem tw_302 : (Jvm.Cond.fieldLink "StoneWorks" (19 : Nat) "StoneWorks" "stores" "LStoneWorks$Stores;") ∈ WS := WS_of 365 (by decide +kernel) rfl
theorem tw_303 : (Jvm.Cond.fieldLink "StoneWorks" (26 : Nat) "StoneWorks" "tape" "LStoneWorks$Tape;") ∈ WS := WS_of 366 (by decide +kernel) rfl
theorem tw_304 : (Jvm.Cond.fieldLink "StoneWorks" (33 : Nat) "StoneWorks" "rules" "LStoneWorks$Table;") ∈ WS := WS_of 367 (by decide +kernel) rfl
theorem tw_305 : (Jvm.Cond.fieldLink "StoneWorks" (42 : Nat) "StoneWorks" "reader" "LStoneWorks$TableReader;") ∈ WS := WS_of 368 (by decide +kernel) rfl
theorem tw_306 : (Jvm.Cond.fieldLink "StoneWorks" (51 : Nat) "StoneWorks" "site" "LStoneWorks$Site;") ∈ WS := WS_of 369 (by decide +kernel) rfl
theorem tw_307 : (Jvm.Cond.fieldLink "StoneWorks" (60 : Nat) "StoneWorks" "planner" "LStoneWorks$Planner;") ∈ WS := WS_of 370 (by decide +kernel) rfl
theorem tw_308 : (Jvm.Cond.fieldLink "StoneWorks" (69 : Nat) "StoneWorks" "tallies" "LStoneWorks$Tallies;") ∈ WS := WS_of 371 (by decide +kernel) rfl
theorem tw_326 : (Jvm.Cond.methodLink "StoneWorksLaw" (13 : Nat) ({ cls := "StoneWorks", name := "gang", desc := "(I)I" } : Jvm.MethodName)) ∈ WS := WS_of 389 (by decide +kernel) rfl
theorem tw_327 : (Jvm.Cond.instanceMethod ({ cls := "StoneWorks", name := "gang", desc := "(I)I" } : Jvm.MethodName)) ∈ WS := WS_of 390 (by decide +kernel) rfl
theorem tw_328 : (Jvm.Cond.selects "StoneWorks" ({ cls := "StoneWorks", name := "gang", desc := "(I)I" } : Jvm.MethodName) ({ cls := "StoneWorks", name := "gang", desc := "(I)I" } : Jvm.MethodName)) ∈ WS := WS_of 391 (by decide +kernel) rfl
theorem tw_329 : (Jvm.Cond.code ({ cls := "StoneWorks", name := "gang", desc := "(I)I" } : Jvm.MethodName) prog_1_method_2_code (2 : Nat) (Option.some Jvm.ClassFile.FieldType.int)) ∈ WS := WS_of 392 (by decide +kernel) rfl
theorem tw_330 : (Jvm.Cond.methodLink "StoneWorks" (73 : Nat) ({ cls := "StoneWorks$Site", name := "addGang", desc := "(I)I" } : Jvm.MethodName)) ∈ WS := WS_of 393 (by decide +kernel) rfl
theorem tw_331 : (Jvm.Cond.instanceMethod ({ cls := "StoneWorks$Site", name := "addGang", desc := "(I)I" } : Jvm.MethodName)) ∈ WS := WS_of 394 (by decide +kernel) rfl
theorem tw_332 : (Jvm.Cond.selects "StoneWorks$Site" ({ cls := "StoneWorks$Site", name := "addGang", desc := "(I)I" } : Jvm.MethodName) ({ cls := "StoneWorks$Site", name := "addGang", desc := "(I)I" } : Jvm.MethodName)) ∈ WS := WS_of 395 (by decide +kernel) rfl
theorem tw_333 : (Jvm.Cond.code ({ cls := "StoneWorks$Site", name := "addGang", desc := "(I)I" } : Jvm.MethodName) prog_5_method_2_code (2 : Nat) (Option.some Jvm.ClassFile.FieldType.int)) ∈ WS := WS_of 396 (by decide +kernel) rfl
theorem tw_334 : (Jvm.Cond.instantiable "StoneWorks$Gang" (5 : Nat)) ∈ WS := WS_of 397 (by decide +kernel) rfl
theorem tw_335 : (Jvm.Cond.methodLink "StoneWorks$Site" (54 : Nat) ({ cls := "StoneWorks$Gang", name := "<init>", desc := "(I)V" } : Jvm.MethodName)) ∈ WS := WS_of 398 (by decide +kernel) rfl
theorem tw_336 : (Jvm.Cond.instanceMethod ({ cls := "StoneWorks$Gang", name := "<init>", desc := "(I)V" } : Jvm.MethodName)) ∈ WS := WS_of 399 (by decide +kernel) rfl
theorem tw_337 : (Jvm.Cond.code ({ cls := "StoneWorks$Gang", name := "<init>", desc := "(I)V" } : Jvm.MethodName) prog_2_method_1_code (2 : Nat) (Option.none : Option Jvm.ClassFile.FieldType)) ∈ WS := WS_of 400 (by decide +kernel) rfl
theorem tw_338 : (Jvm.Cond.methodLink "StoneWorks$Gang" (3 : Nat) ({ cls := "java/lang/Object", name := "<init>", desc := "()V" } : Jvm.MethodName)) ∈ WS := WS_of 401 (by decide +kernel) rfl
theorem tw_339 : (Jvm.Cond.fieldLink "StoneWorks$Gang" (24 : Nat) "StoneWorks$Gang" "men" "I") ∈ WS := WS_of 402 (by decide +kernel) rfl
theorem tw_340 : (Jvm.Cond.fieldLinkNest "StoneWorks$Planner" (137 : Nat) "StoneWorks$Gang" "men" "I" "StoneWorks") ∈ lw_tbl := List.mem_of_getElem? (i := 403) (by decide +kernel)
theorem tw_341 : (Jvm.Cond.fieldLinkNest "StoneWorks$Site" (114 : Nat) "StoneWorks$Gang" "men" "I" "StoneWorks") ∈ lw_tbl := List.mem_of_getElem? (i := 404) (by decide +kernel)
theorem tw_342 : (Jvm.Cond.fieldLinkNest "StoneWorks" (160 : Nat) "StoneWorks$Gang" "men" "I" "StoneWorks") ∈ lw_tbl := List.mem_of_getElem? (i := 405) (by decide +kernel)
theorem tw_343 : (Jvm.Cond.fieldLink "StoneWorks$Gang" (9 : Nat) "StoneWorks$Gang" "work" "I") ∈ WS := WS_of 406 (by decide +kernel) rfl
theorem tw_344 : (Jvm.Cond.fieldLinkNest "StoneWorks$Planner" (128 : Nat) "StoneWorks$Gang" "work" "I" "StoneWorks") ∈ lw_tbl := List.mem_of_getElem? (i := 407) (by decide +kernel)
theorem tw_345 : (Jvm.Cond.fieldLinkNest "StoneWorks$Site" (77 : Nat) "StoneWorks$Gang" "work" "I" "StoneWorks") ∈ lw_tbl := List.mem_of_getElem? (i := 408) (by decide +kernel)
theorem tw_346 : (Jvm.Cond.fieldLinkNest "StoneWorks" (165 : Nat) "StoneWorks$Gang" "work" "I" "StoneWorks") ∈ lw_tbl := List.mem_of_getElem? (i := 409) (by decide +kernel)
theorem tw_347 : (Jvm.Cond.fieldLink "StoneWorks$Gang" (15 : Nat) "StoneWorks$Gang" "left" "I") ∈ WS := WS_of 410 (by decide +kernel) rfl
theorem tw_348 : (Jvm.Cond.fieldLinkNest "StoneWorks" (168 : Nat) "StoneWorks$Gang" "left" "I" "StoneWorks") ∈ lw_tbl := List.mem_of_getElem? (i := 411) (by decide +kernel)
theorem tw_349 : (Jvm.Cond.fieldLinkNest "StoneWorks$Site" (160 : Nat) "StoneWorks$Gang" "left" "I" "StoneWorks") ∈ lw_tbl := List.mem_of_getElem? (i := 412) (by decide +kernel)
theorem tw_350 : (Jvm.Cond.fieldLink "StoneWorks$Gang" (18 : Nat) "StoneWorks$Gang" "laid" "I") ∈ WS := WS_of 413 (by decide +kernel) rfl
theorem tw_351 : (Jvm.Cond.fieldLinkNest "StoneWorks" (171 : Nat) "StoneWorks$Gang" "laid" "I" "StoneWorks") ∈ lw_tbl := List.mem_of_getElem? (i := 414) (by decide +kernel)
theorem tw_352 : (Jvm.Cond.fieldLinkNest "StoneWorks$Site" (167 : Nat) "StoneWorks$Gang" "laid" "I" "StoneWorks") ∈ lw_tbl := List.mem_of_getElem? (i := 415) (by decide +kernel)
theorem tw_353 : (Jvm.Cond.fieldLink "StoneWorks$Gang" (21 : Nat) "StoneWorks$Gang" "stillDays" "I") ∈ WS := WS_of 416 (by decide +kernel) rfl
theorem tw_354 : (Jvm.Cond.fieldLinkNest "StoneWorks" (174 : Nat) "StoneWorks$Gang" "stillDays" "I" "StoneWorks") ∈ lw_tbl := List.mem_of_getElem? (i := 417) (by decide +kernel)
theorem tw_355 : (Jvm.Cond.fieldLinkNest "StoneWorks$Site" (157 : Nat) "StoneWorks$Gang" "stillDays" "I" "StoneWorks") ∈ lw_tbl := List.mem_of_getElem? (i := 418) (by decide +kernel)
theorem tw_367 : (Jvm.Cond.methodLink "StoneWorksLaw" (18 : Nat) ({ cls := "StoneWorks", name := "boat", desc := "(II)I" } : Jvm.MethodName)) ∈ WS := WS_of 430 (by decide +kernel) rfl
theorem tw_368 : (Jvm.Cond.instanceMethod ({ cls := "StoneWorks", name := "boat", desc := "(II)I" } : Jvm.MethodName)) ∈ WS := WS_of 431 (by decide +kernel) rfl
theorem tw_369 : (Jvm.Cond.selects "StoneWorks" ({ cls := "StoneWorks", name := "boat", desc := "(II)I" } : Jvm.MethodName) ({ cls := "StoneWorks", name := "boat", desc := "(II)I" } : Jvm.MethodName)) ∈ WS := WS_of 432 (by decide +kernel) rfl
theorem tw_370 : (Jvm.Cond.code ({ cls := "StoneWorks", name := "boat", desc := "(II)I" } : Jvm.MethodName) prog_1_method_3_code (3 : Nat) (Option.some Jvm.ClassFile.FieldType.int)) ∈ WS := WS_of 433 (by decide +kernel) rfl
theorem tw_371 : (Jvm.Cond.methodLink "StoneWorks" (81 : Nat) ({ cls := "StoneWorks$Stores", name := "addBoat", desc := "(II)I" } : Jvm.MethodName)) ∈ WS := WS_of 434 (by decide +kernel) rfl
theorem tw_372 : (Jvm.Cond.instanceMethod ({ cls := "StoneWorks$Stores", name := "addBoat", desc := "(II)I" } : Jvm.MethodName)) ∈ WS := WS_of 435 (by decide +kernel) rfl
theorem tw_373 : (Jvm.Cond.selects "StoneWorks$Stores" ({ cls := "StoneWorks$Stores", name := "addBoat", desc := "(II)I" } : Jvm.MethodName) ({ cls := "StoneWorks$Stores", name := "addBoat", desc := "(II)I" } : Jvm.MethodName)) ∈ WS := WS_of 436 (by decide +kernel) rfl
theorem tw_374 : (Jvm.Cond.code ({ cls := "StoneWorks$Stores", name := "addBoat", desc := "(II)I" } : Jvm.MethodName) prog_7_method_2_code (3 : Nat) (Option.some Jvm.ClassFile.FieldType.int)) ∈ WS := WS_of 437 (by decide +kernel) rfl
theorem tw_375 : (Jvm.Cond.methodLinkNest "StoneWorks$Stores" (25 : Nat) ({ cls := "StoneWorks", name := "isDay", desc := "(I)Z" } : Jvm.MethodName) "StoneWorks") ∈ lw_tbl := List.mem_of_getElem? (i := 438) (by decide +kernel)
theorem tw_376 : (Jvm.Cond.static ({ cls := "StoneWorks", name := "isDay", desc := "(I)Z" } : Jvm.MethodName)) ∈ WS := WS_of 439 (by decide +kernel) rfl
theorem tw_377 : (Jvm.Cond.code ({ cls := "StoneWorks", name := "isDay", desc := "(I)Z" } : Jvm.MethodName) prog_1_method_22_code (1 : Nat) (Option.some Jvm.ClassFile.FieldType.boolean)) ∈ WS := WS_of 440 (by decide +kernel) rfl
theorem tw_378 : (Jvm.Cond.constant "StoneWorks$Stores" (29 : Nat) (1000000 : Int32)) ∈ WS := WS_of 441 (by decide +kernel) rfl
theorem tw_379 : (Jvm.Cond.methodLink "StoneWorksLaw" (23 : Nat) ({ cls := "StoneWorks", name := "spell", desc := "(III)I" } : Jvm.MethodName)) ∈ WS := WS_of 442 (by decide +kernel) rfl
theorem tw_380 : (Jvm.Cond.instanceMethod ({ cls := "StoneWorks", name := "spell", desc := "(III)I" } : Jvm.MethodName)) ∈ WS := WS_of 443 (by decide +kernel) rfl
theorem tw_381 : (Jvm.Cond.selects "StoneWorks" ({ cls := "StoneWorks", name := "spell", desc := "(III)I" } : Jvm.MethodName) ({ cls := "StoneWorks", name := "spell", desc := "(III)I" } : Jvm.MethodName)) ∈ WS := WS_of 444 (by decide +kernel) rfl
theorem tw_382 : (Jvm.Cond.code ({ cls := "StoneWorks", name := "spell", desc := "(III)I" } : Jvm.MethodName) prog_1_method_4_code (4 : Nat) (Option.some Jvm.ClassFile.FieldType.int)) ∈ WS := WS_of 445 (by decide +kernel) rfl
theorem tw_383 : (Jvm.Cond.methodLink "StoneWorks" (85 : Nat) ({ cls := "StoneWorks$Seasons", name := "addSpell", desc := "(III)I" } : Jvm.MethodName)) ∈ WS := WS_of 446 (by decide +kernel) rfl
theorem tw_384 : (Jvm.Cond.instanceMethod ({ cls := "StoneWorks$Seasons", name := "addSpell", desc := "(III)I" } : Jvm.MethodName)) ∈ WS := WS_of 447 (by decide +kernel) rfl
theorem tw_385 : (Jvm.Cond.selects "StoneWorks$Seasons" ({ cls := "StoneWorks$Seasons", name := "addSpell", desc := "(III)I" } : Jvm.MethodName) ({ cls := "StoneWorks$Seasons", name := "addSpell", desc := "(III)I" } : Jvm.MethodName)) ∈ WS := WS_of 448 (by decide +kernel) rfl
theorem tw_386 : (Jvm.Cond.code ({ cls := "StoneWorks$Seasons", name := "addSpell", desc := "(III)I" } : Jvm.MethodName) prog_4_method_2_code (4 : Nat) (Option.some Jvm.ClassFile.FieldType.int)) ∈ WS := WS_of 449 (by decide +kernel) rfl
theorem tw_387 : (Jvm.Cond.methodLinkNest "StoneWorks$Seasons" (34 : Nat) ({ cls := "StoneWorks", name := "isDay", desc := "(I)Z" } : Jvm.MethodName) "StoneWorks") ∈ lw_tbl := List.mem_of_getElem? (i := 450) (by decide +kernel)
theorem tw_388 : (Jvm.Cond.methodLink "StoneWorks$Seasons" (38 : Nat) ({ cls := "StoneWorks$Seasons", name := "addRun", desc := "(II)V" } : Jvm.MethodName)) ∈ WS := WS_of 451 (by decide +kernel) rfl
theorem tw_390 : (Jvm.Cond.instanceMethod ({ cls := "StoneWorks$Seasons", name := "addRun", desc := "(II)V" } : Jvm.MethodName)) ∈ WS := WS_of 453 (by decide +kernel) rfl
theorem tw_391 : (Jvm.Cond.code ({ cls := "StoneWorks$Seasons", name := "addRun", desc := "(II)V" } : Jvm.MethodName) prog_4_method_3_code (7 : Nat) (Option.none : Option Jvm.ClassFile.FieldType)) ∈ WS := WS_of 454 (by decide +kernel) rfl
theorem tw_392 : (Jvm.Cond.methodLink "StoneWorks$Seasons" (42 : Nat) ({ cls := "java/lang/Math", name := "min", desc := "(II)I" } : Jvm.MethodName)) ∈ WS := WS_of 455 (by decide +kernel) rfl
theorem tw_393 : (Jvm.Cond.static ({ cls := "java/lang/Math", name := "min", desc := "(II)I" } : Jvm.MethodName)) ∈ WS := WS_of 456 (by decide +kernel) rfl
theorem tw_394 : (Jvm.Cond.code ({ cls := "java/lang/Math", name := "min", desc := "(II)I" } : Jvm.MethodName) prog_15_method_69_code (2 : Nat) (Option.some Jvm.ClassFile.FieldType.int)) ∈ WS := WS_of 457 (by decide +kernel) rfl
theorem tw_395 : (Jvm.Cond.methodLink "StoneWorks$Seasons" (48 : Nat) ({ cls := "java/lang/Math", name := "max", desc := "(II)I" } : Jvm.MethodName)) ∈ WS := WS_of 458 (by decide +kernel) rfl
theorem tw_396 : (Jvm.Cond.static ({ cls := "java/lang/Math", name := "max", desc := "(II)I" } : Jvm.MethodName)) ∈ WS := WS_of 459 (by decide +kernel) rfl
theorem tw_397 : (Jvm.Cond.code ({ cls := "java/lang/Math", name := "max", desc := "(II)I" } : Jvm.MethodName) prog_15_method_65_code (2 : Nat) (Option.some Jvm.ClassFile.FieldType.int)) ∈ WS := WS_of 460 (by decide +kernel) rfl
theorem tw_398 : (Jvm.Cond.methodLink "StoneWorksLaw" (28 : Nat) ({ cls := "StoneWorks", name := "feed", desc := "(IIIII)I" } : Jvm.MethodName)) ∈ WS := WS_of 461 (by decide +kernel) rfl
theorem tw_399 : (Jvm.Cond.instanceMethod ({ cls := "StoneWorks", name := "feed", desc := "(IIIII)I" } : Jvm.MethodName)) ∈ WS := WS_of 462 (by decide +kernel) rfl
theorem tw_400 : (Jvm.Cond.selects "StoneWorks" ({ cls := "StoneWorks", name := "feed", desc := "(IIIII)I" } : Jvm.MethodName) ({ cls := "StoneWorks", name := "feed", desc := "(IIIII)I" } : Jvm.MethodName)) ∈ WS := WS_of 463 (by decide +kernel) rfl
theorem tw_401 : (Jvm.Cond.code ({ cls := "StoneWorks", name := "feed", desc := "(IIIII)I" } : Jvm.MethodName) prog_1_method_5_code (6 : Nat) (Option.some Jvm.ClassFile.FieldType.int)) ∈ WS := WS_of 464 (by decide +kernel) rfl
theorem tw_402 : (Jvm.Cond.methodLink "StoneWorks" (89 : Nat) ({ cls := "StoneWorks$Tape", name := "hasRoom", desc := "()Z" } : Jvm.MethodName)) ∈ WS := WS_of 465 (by decide +kernel) rfl
theorem tw_403 : (Jvm.Cond.instanceMethod ({ cls := "StoneWorks$Tape", name := "hasRoom", desc := "()Z" } : Jvm.MethodName)) ∈ WS := WS_of 466 (by decide +kernel) rfl
theorem tw_404 : (Jvm.Cond.selects "StoneWorks$Tape" ({ cls := "StoneWorks$Tape", name := "hasRoom", desc := "()Z" } : Jvm.MethodName) ({ cls := "StoneWorks$Tape", name := "hasRoom", desc := "()Z" } : Jvm.MethodName)) ∈ WS := WS_of 467 (by decide +kernel) rfl
theorem tw_405 : (Jvm.Cond.code ({ cls := "StoneWorks$Tape", name := "hasRoom", desc := "()Z" } : Jvm.MethodName) prog_11_method_2_code (1 : Nat) (Option.some Jvm.ClassFile.FieldType.boolean)) ∈ WS := WS_of 468 (by decide +kernel) rfl
theorem tw_406 : (Jvm.Cond.methodLink "StoneWorks" (93 : Nat) ({ cls := "StoneWorks$Tape", name := "putNumber", desc := "(I)V" } : Jvm.MethodName)) ∈ WS := WS_of 469 (by decide +kernel) rfl
theorem tw_407 : (Jvm.Cond.instanceMethod ({ cls := "StoneWorks$Tape", name := "putNumber", desc := "(I)V" } : Jvm.MethodName)) ∈ WS := WS_of 470 (by decide +kernel) rfl
theorem tw_408 : (Jvm.Cond.selects "StoneWorks$Tape" ({ cls := "StoneWorks$Tape", name := "putNumber", desc := "(I)V" } : Jvm.MethodName) ({ cls := "StoneWorks$Tape", name := "putNumber", desc := "(I)V" } : Jvm.MethodName)) ∈ WS := WS_of 471 (by decide +kernel) rfl
theorem tw_409 : (Jvm.Cond.code ({ cls := "StoneWorks$Tape", name := "putNumber", desc := "(I)V" } : Jvm.MethodName) prog_11_method_3_code (3 : Nat) (Option.none : Option Jvm.ClassFile.FieldType)) ∈ WS := WS_of 472 (by decide +kernel) rfl
theorem tw_410 : (Jvm.Cond.methodLink "StoneWorksLaw" (33 : Nat) ({ cls := "StoneWorks", name := "end", desc := "(I)I" } : Jvm.MethodName)) ∈ WS := WS_of 473 (by decide +kernel) rfl
theorem tw_411 : (Jvm.Cond.instanceMethod ({ cls := "StoneWorks", name := "end", desc := "(I)I" } : Jvm.MethodName)) ∈ WS := WS_of 474 (by decide +kernel) rfl
theorem tw_412 : (Jvm.Cond.selects "StoneWorks" ({ cls := "StoneWorks", name := "end", desc := "(I)I" } : Jvm.MethodName) ({ cls := "StoneWorks", name := "end", desc := "(I)I" } : Jvm.MethodName)) ∈ WS := WS_of 475 (by decide +kernel) rfl
theorem tw_413 : (Jvm.Cond.code ({ cls := "StoneWorks", name := "end", desc := "(I)I" } : Jvm.MethodName) prog_1_method_6_code (2 : Nat) (Option.some Jvm.ClassFile.FieldType.int)) ∈ WS := WS_of 476 (by decide +kernel) rfl
theorem tw_414 : (Jvm.Cond.methodLink "StoneWorks" (100 : Nat) ({ cls := "StoneWorks$Tape", name := "keepFirst", desc := "(I)I" } : Jvm.MethodName)) ∈ WS := WS_of 477 (by decide +kernel) rfl
theorem tw_415 : (Jvm.Cond.instanceMethod ({ cls := "StoneWorks$Tape", name := "keepFirst", desc := "(I)I" } : Jvm.MethodName)) ∈ WS := WS_of 478 (by decide +kernel) rfl
theorem tw_416 : (Jvm.Cond.selects "StoneWorks$Tape" ({ cls := "StoneWorks$Tape", name := "keepFirst", desc := "(I)I" } : Jvm.MethodName) ({ cls := "StoneWorks$Tape", name := "keepFirst", desc := "(I)I" } : Jvm.MethodName)) ∈ WS := WS_of 479 (by decide +kernel) rfl
theorem tw_417 : (Jvm.Cond.code ({ cls := "StoneWorks$Tape", name := "keepFirst", desc := "(I)I" } : Jvm.MethodName) prog_11_method_4_code (2 : Nat) (Option.some Jvm.ClassFile.FieldType.int)) ∈ WS := WS_of 480 (by decide +kernel) rfl
theorem tw_418 : (Jvm.Cond.methodLink "StoneWorksLaw" (37 : Nat) ({ cls := "StoneWorks", name := "table", desc := "()I" } : Jvm.MethodName)) ∈ WS := WS_of 481 (by decide +kernel) rfl
theorem tw_419 : (Jvm.Cond.instanceMethod ({ cls := "StoneWorks", name := "table", desc := "()I" } : Jvm.MethodName)) ∈ WS := WS_of 482 (by decide +kernel) rfl
theorem tw_420 : (Jvm.Cond.selects "StoneWorks" ({ cls := "StoneWorks", name := "table", desc := "()I" } : Jvm.MethodName) ({ cls := "StoneWorks", name := "table", desc := "()I" } : Jvm.MethodName)) ∈ WS := WS_of 483 (by decide +kernel) rfl
theorem tw_421 : (Jvm.Cond.code ({ cls := "StoneWorks", name := "table", desc := "()I" } : Jvm.MethodName) prog_1_method_7_code (2 : Nat) (Option.some Jvm.ClassFile.FieldType.int)) ∈ WS := WS_of 484 (by decide +kernel) rfl
theorem tw_422 : (Jvm.Cond.methodLink "StoneWorks" (103 : Nat) ({ cls := "StoneWorks$TableReader", name := "readTape", desc := "()I" } : Jvm.MethodName)) ∈ WS := WS_of 485 (by decide +kernel) rfl
theorem tw_423 : (Jvm.Cond.instanceMethod ({ cls := "StoneWorks$TableReader", name := "readTape", desc := "()I" } : Jvm.MethodName)) ∈ WS := WS_of 486 (by decide +kernel) rfl
theorem tw_424 : (Jvm.Cond.selects "StoneWorks$TableReader" ({ cls := "StoneWorks$TableReader", name := "readTape", desc := "()I" } : Jvm.MethodName) ({ cls := "StoneWorks$TableReader", name := "readTape", desc := "()I" } : Jvm.MethodName)) ∈ WS := WS_of 487 (by decide +kernel) rfl
theorem tw_425 : (Jvm.Cond.code ({ cls := "StoneWorks$TableReader", name := "readTape", desc := "()I" } : Jvm.MethodName) prog_9_method_2_code (3 : Nat) (Option.some Jvm.ClassFile.FieldType.int)) ∈ WS := WS_of 488 (by decide +kernel) rfl
theorem tw_426 : (Jvm.Cond.methodLink "StoneWorks$TableReader" (32 : Nat) ({ cls := "StoneWorks$TableReader", name := "begin", desc := "()V" } : Jvm.MethodName)) ∈ WS := WS_of 489 (by decide +kernel) rfl
theorem tw_428 : (Jvm.Cond.instanceMethod ({ cls := "StoneWorks$TableReader", name := "begin", desc := "()V" } : Jvm.MethodName)) ∈ WS := WS_of 491 (by decide +kernel) rfl
theorem tw_429 : (Jvm.Cond.code ({ cls := "StoneWorks$TableReader", name := "begin", desc := "()V" } : Jvm.MethodName) prog_9_method_3_code (2 : Nat) (Option.none : Option Jvm.ClassFile.FieldType)) ∈ WS := WS_of 492 (by decide +kernel) rfl
theorem tw_430 : (Jvm.Cond.fieldLinkNest "StoneWorks$TableReader" (47 : Nat) "StoneWorks$Table" "WITHOUT" "[I" "StoneWorks") ∈ lw_tbl := List.mem_of_getElem? (i := 493) (by decide +kernel)
theorem tw_431 : (Jvm.Cond.methodLink "StoneWorks$TableReader" (35 : Nat) ({ cls := "StoneWorks$TableReader", name := "skipBlanks", desc := "()V" } : Jvm.MethodName)) ∈ WS := WS_of 494 (by decide +kernel) rfl
theorem tw_433 : (Jvm.Cond.instanceMethod ({ cls := "StoneWorks$TableReader", name := "skipBlanks", desc := "()V" } : Jvm.MethodName)) ∈ WS := WS_of 496 (by decide +kernel) rfl
theorem tw_434 : (Jvm.Cond.code ({ cls := "StoneWorks$TableReader", name := "skipBlanks", desc := "()V" } : Jvm.MethodName) prog_9_method_9_code (1 : Nat) (Option.none : Option Jvm.ClassFile.FieldType)) ∈ WS := WS_of 497 (by decide +kernel) rfl
theorem tw_435 : (Jvm.Cond.methodLink "StoneWorks$TableReader" (63 : Nat) ({ cls := "StoneWorks$Tape", name := "byteAt", desc := "(I)I" } : Jvm.MethodName)) ∈ WS := WS_of 498 (by decide +kernel) rfl
theorem tw_436 : (Jvm.Cond.instanceMethod ({ cls := "StoneWorks$Tape", name := "byteAt", desc := "(I)I" } : Jvm.MethodName)) ∈ WS := WS_of 499 (by decide +kernel) rfl
theorem tw_437 : (Jvm.Cond.selects "StoneWorks$Tape" ({ cls := "StoneWorks$Tape", name := "byteAt", desc := "(I)I" } : Jvm.MethodName) ({ cls := "StoneWorks$Tape", name := "byteAt", desc := "(I)I" } : Jvm.MethodName)) ∈ WS := WS_of 500 (by decide +kernel) rfl
theorem tw_438 : (Jvm.Cond.code ({ cls := "StoneWorks$Tape", name := "byteAt", desc := "(I)I" } : Jvm.MethodName) prog_11_method_5_code (2 : Nat) (Option.some Jvm.ClassFile.FieldType.int)) ∈ WS := WS_of 501 (by decide +kernel) rfl
theorem tw_439 : (Jvm.Cond.methodLink "StoneWorks$TableReader" (43 : Nat) ({ cls := "StoneWorks$TableReader", name := "readClause", desc := "()Z" } : Jvm.MethodName)) ∈ WS := WS_of 502 (by decide +kernel) rfl
theorem tw_441 : (Jvm.Cond.instanceMethod ({ cls := "StoneWorks$TableReader", name := "readClause", desc := "()Z" } : Jvm.MethodName)) ∈ WS := WS_of 504 (by decide +kernel) rfl
theorem tw_442 : (Jvm.Cond.code ({ cls := "StoneWorks$TableReader", name := "readClause", desc := "()Z" } : Jvm.MethodName) prog_9_method_4_code (3 : Nat) (Option.some Jvm.ClassFile.FieldType.boolean)) ∈ WS := WS_of 505 (by decide +kernel) rfl
theorem tw_443 : (Jvm.Cond.methodLink "StoneWorks$TableReader" (52 : Nat) ({ cls := "StoneWorks$TableReader", name := "readWord", desc := "()I" } : Jvm.MethodName)) ∈ WS := WS_of 506 (by decide +kernel) rfl
theorem tw_445 : (Jvm.Cond.instanceMethod ({ cls := "StoneWorks$TableReader", name := "readWord", desc := "()I" } : Jvm.MethodName)) ∈ WS := WS_of 508 (by decide +kernel) rfl
theorem tw_446 : (Jvm.Cond.code ({ cls := "StoneWorks$TableReader", name := "readWord", desc := "()I" } : Jvm.MethodName) prog_9_method_5_code (3 : Nat) (Option.some Jvm.ClassFile.FieldType.int)) ∈ WS := WS_of 509 (by decide +kernel) rfl
theorem tw_447 : (Jvm.Cond.methodLink "StoneWorks$TableReader" (71 : Nat) ({ cls := "StoneWorks$Tape", name := "isLetter", desc := "(I)Z" } : Jvm.MethodName)) ∈ WS := WS_of 510 (by decide +kernel) rfl
theorem tw_448 : (Jvm.Cond.instanceMethod ({ cls := "StoneWorks$Tape", name := "isLetter", desc := "(I)Z" } : Jvm.MethodName)) ∈ WS := WS_of 511 (by decide +kernel) rfl
theorem tw_449 : (Jvm.Cond.selects "StoneWorks$Tape" ({ cls := "StoneWorks$Tape", name := "isLetter", desc := "(I)Z" } : Jvm.MethodName) ({ cls := "StoneWorks$Tape", name := "isLetter", desc := "(I)Z" } : Jvm.MethodName)) ∈ WS := WS_of 512 (by decide +kernel) rfl
theorem tw_450 : (Jvm.Cond.code ({ cls := "StoneWorks$Tape", name := "isLetter", desc := "(I)Z" } : Jvm.MethodName) prog_11_method_6_code (2 : Nat) (Option.some Jvm.ClassFile.FieldType.boolean)) ∈ WS := WS_of 513 (by decide +kernel) rfl
theorem tw_451 : (Jvm.Cond.methodLink "StoneWorks$Tape" (19 : Nat) ({ cls := "StoneWorks$Tape", name := "byteAt", desc := "(I)I" } : Jvm.MethodName)) ∈ WS := WS_of 514 (by decide +kernel) rfl
theorem tw_452 : (Jvm.Cond.methodLink "StoneWorks$TableReader" (74 : Nat) ({ cls := "StoneWorks$TableReader", name := "clauseAt", desc := "(I)I" } : Jvm.MethodName)) ∈ WS := WS_of 515 (by decide +kernel) rfl
theorem tw_454 : (Jvm.Cond.instanceMethod ({ cls := "StoneWorks$TableReader", name := "clauseAt", desc := "(I)I" } : Jvm.MethodName)) ∈ WS := WS_of 517 (by decide +kernel) rfl
theorem tw_455 : (Jvm.Cond.code ({ cls := "StoneWorks$TableReader", name := "clauseAt", desc := "(I)I" } : Jvm.MethodName) prog_9_method_6_code (3 : Nat) (Option.some Jvm.ClassFile.FieldType.int)) ∈ WS := WS_of 518 (by decide +kernel) rfl
theorem tw_456 : (Jvm.Cond.methodLink "StoneWorks$TableReader" (77 : Nat) ({ cls := "StoneWorks$TableReader", name := "wordOf", desc := "(I)Ljava/lang/String;" } : Jvm.MethodName)) ∈ WS := WS_of 519 (by decide +kernel) rfl
theorem tw_457 : (Jvm.Cond.static ({ cls := "StoneWorks$TableReader", name := "wordOf", desc := "(I)Ljava/lang/String;" } : Jvm.MethodName)) ∈ WS := WS_of 520 (by decide +kernel) rfl
theorem tw_458 : (Jvm.Cond.code ({ cls := "StoneWorks$TableReader", name := "wordOf", desc := "(I)Ljava/lang/String;" } : Jvm.MethodName) prog_9_method_7_code (1 : Nat) (Option.some (Jvm.ClassFile.FieldType.object "java/lang/String"))) ∈ WS := WS_of 521 (by decide +kernel) rfl
theorem tw_466 : (Jvm.Cond.methodLink "StoneWorks$TableReader" (81 : Nat) ({ cls := "StoneWorks$Tape", name := "hasWord", desc := "(IILjava/lang/String;)Z" } : Jvm.MethodName)) ∈ WS := WS_of 529 (by decide +kernel) rfl
theorem tw_467 : (Jvm.Cond.instanceMethod ({ cls := "StoneWorks$Tape", name := "hasWord", desc := "(IILjava/lang/String;)Z" } : Jvm.MethodName)) ∈ WS := WS_of 530 (by decide +kernel) rfl
theorem tw_468 : (Jvm.Cond.selects "StoneWorks$Tape" ({ cls := "StoneWorks$Tape", name := "hasWord", desc := "(IILjava/lang/String;)Z" } : Jvm.MethodName) ({ cls := "StoneWorks$Tape", name := "hasWord", desc := "(IILjava/lang/String;)Z" } : Jvm.MethodName)) ∈ WS := WS_of 531 (by decide +kernel) rfl
theorem tw_469 : (Jvm.Cond.code ({ cls := "StoneWorks$Tape", name := "hasWord", desc := "(IILjava/lang/String;)Z" } : Jvm.MethodName) prog_11_method_8_code (5 : Nat) (Option.some Jvm.ClassFile.FieldType.boolean)) ∈ WS := WS_of 532 (by decide +kernel) rfl
theorem tw_470 : (Jvm.Cond.methodLink "StoneWorks$Tape" (23 : Nat) ({ cls := "java/lang/String", name := "length", desc := "()I" } : Jvm.MethodName)) ∈ WS := WS_of 533 (by decide +kernel) rfl
theorem tw_471 : (Jvm.Cond.instanceMethod ({ cls := "java/lang/String", name := "length", desc := "()I" } : Jvm.MethodName)) ∈ WS := WS_of 534 (by decide +kernel) rfl
theorem tw_472 : (Jvm.Cond.selects "java/lang/String" ({ cls := "java/lang/String", name := "length", desc := "()I" } : Jvm.MethodName) ({ cls := "java/lang/String", name := "length", desc := "()I" } : Jvm.MethodName)) ∈ WS := WS_of 535 (by decide +kernel) rfl
theorem tw_473 : (Jvm.Cond.code ({ cls := "java/lang/String", name := "length", desc := "()I" } : Jvm.MethodName) prog_16_method_54_code (1 : Nat) (Option.some Jvm.ClassFile.FieldType.int)) ∈ WS := WS_of 536 (by decide +kernel) rfl
theorem tw_474 : (Jvm.Cond.methodLink "java/lang/String" (335 : Nat) ({ cls := "java/lang/String", name := "coder", desc := "()B" } : Jvm.MethodName)) ∈ WS := WS_of 537 (by decide +kernel) rfl
theorem tw_475 : (Jvm.Cond.instanceMethod ({ cls := "java/lang/String", name := "coder", desc := "()B" } : Jvm.MethodName)) ∈ WS := WS_of 538 (by decide +kernel) rfl
theorem tw_476 : (Jvm.Cond.selects "java/lang/String" ({ cls := "java/lang/String", name := "coder", desc := "()B" } : Jvm.MethodName) ({ cls := "java/lang/String", name := "coder", desc := "()B" } : Jvm.MethodName)) ∈ WS := WS_of 539 (by decide +kernel) rfl
theorem tw_477 : (Jvm.Cond.code ({ cls := "java/lang/String", name := "coder", desc := "()B" } : Jvm.MethodName) prog_16_method_152_code (1 : Nat) (Option.some Jvm.ClassFile.FieldType.byte)) ∈ WS := WS_of 540 (by decide +kernel) rfl
theorem tw_478 : (Jvm.Cond.fieldLink "java/lang/String" (38 : Nat) "java/lang/String" "COMPACT_STRINGS" "Z") ∈ WS := WS_of 541 (by decide +kernel) rfl
theorem tw_480 : (Jvm.Cond.methodLink "StoneWorks$Tape" (28 : Nat) ({ cls := "java/lang/String", name := "charAt", desc := "(I)C" } : Jvm.MethodName)) ∈ WS := WS_of 543 (by decide +kernel) rfl
theorem tw_481 : (Jvm.Cond.instanceMethod ({ cls := "java/lang/String", name := "charAt", desc := "(I)C" } : Jvm.MethodName)) ∈ WS := WS_of 544 (by decide +kernel) rfl
theorem tw_482 : (Jvm.Cond.selects "java/lang/String" ({ cls := "java/lang/String", name := "charAt", desc := "(I)C" } : Jvm.MethodName) ({ cls := "java/lang/String", name := "charAt", desc := "(I)C" } : Jvm.MethodName)) ∈ WS := WS_of 545 (by decide +kernel) rfl
theorem tw_483 : (Jvm.Cond.code ({ cls := "java/lang/String", name := "charAt", desc := "(I)C" } : Jvm.MethodName) prog_16_method_56_code (2 : Nat) (Option.some Jvm.ClassFile.FieldType.char)) ∈ WS := WS_of 546 (by decide +kernel) rfl
theorem tw_484 : (Jvm.Cond.methodLink "java/lang/String" (492 : Nat) ({ cls := "java/lang/String", name := "isLatin1", desc := "()Z" } : Jvm.MethodName)) ∈ WS := WS_of 547 (by decide +kernel) rfl
theorem tw_485 : (Jvm.Cond.instanceMethod ({ cls := "java/lang/String", name := "isLatin1", desc := "()Z" } : Jvm.MethodName)) ∈ WS := WS_of 548 (by decide +kernel) rfl
theorem tw_486 : (Jvm.Cond.selects "java/lang/String" ({ cls := "java/lang/String", name := "isLatin1", desc := "()Z" } : Jvm.MethodName) ({ cls := "java/lang/String", name := "isLatin1", desc := "()Z" } : Jvm.MethodName)) ∈ WS := WS_of 549 (by decide +kernel) rfl
theorem tw_487 : (Jvm.Cond.code ({ cls := "java/lang/String", name := "isLatin1", desc := "()Z" } : Jvm.MethodName) prog_16_method_154_code (1 : Nat) (Option.some Jvm.ClassFile.FieldType.boolean)) ∈ WS := WS_of 550 (by decide +kernel) rfl
theorem tw_488 : (Jvm.Cond.methodLink "java/lang/String" (495 : Nat) ({ cls := "java/lang/StringLatin1", name := "charAt", desc := "([BI)C" } : Jvm.MethodName)) ∈ WS := WS_of 551 (by decide +kernel) rfl
theorem tw_489 : (Jvm.Cond.static ({ cls := "java/lang/StringLatin1", name := "charAt", desc := "([BI)C" } : Jvm.MethodName)) ∈ WS := WS_of 552 (by decide +kernel) rfl
theorem tw_490 : (Jvm.Cond.code ({ cls := "java/lang/StringLatin1", name := "charAt", desc := "([BI)C" } : Jvm.MethodName) prog_17_method_2_code (2 : Nat) (Option.some Jvm.ClassFile.FieldType.char)) ∈ WS := WS_of 553 (by decide +kernel) rfl
theorem tw_491 : (Jvm.Cond.methodLink "java/lang/StringLatin1" (9 : Nat) ({ cls := "java/lang/String", name := "checkIndex", desc := "(II)V" } : Jvm.MethodName)) ∈ WS := WS_of 554 (by decide +kernel) rfl
theorem tw_492 : (Jvm.Cond.static ({ cls := "java/lang/String", name := "checkIndex", desc := "(II)V" } : Jvm.MethodName)) ∈ WS := WS_of 555 (by decide +kernel) rfl
theorem tw_493 : (Jvm.Cond.code ({ cls := "java/lang/String", name := "checkIndex", desc := "(II)V" } : Jvm.MethodName) prog_16_method_155_code (2 : Nat) (Option.none : Option Jvm.ClassFile.FieldType)) ∈ WS := WS_of 556 (by decide +kernel) rfl
theorem tw_494 : (Jvm.Cond.fieldLink "java/lang/String" (1053 : Nat) "jdk/internal/util/Preconditions" "SIOOBE_FORMATTER" "Ljava/util/function/BiFunction;") ∈ WS := WS_of 557 (by decide +kernel) rfl
theorem tw_496 : (Jvm.Cond.methodLink "java/lang/String" (1059 : Nat) ({ cls := "jdk/internal/util/Preconditions", name := "checkIndex", desc := "(IILjava/util/function/BiFunction;)I" } : Jvm.MethodName)) ∈ WS := WS_of 559 (by decide +kernel) rfl
theorem tw_497 : (Jvm.Cond.static ({ cls := "jdk/internal/util/Preconditions", name := "checkIndex", desc := "(IILjava/util/function/BiFunction;)I" } : Jvm.MethodName)) ∈ WS := WS_of 560 (by decide +kernel) rfl
theorem tw_498 : (Jvm.Cond.code ({ cls := "jdk/internal/util/Preconditions", name := "checkIndex", desc := "(IILjava/util/function/BiFunction;)I" } : Jvm.MethodName) prog_19_method_11_code (3 : Nat) (Option.some Jvm.ClassFile.FieldType.int)) ∈ WS := WS_of 561 (by decide +kernel) rfl
theorem tw_499 : (Jvm.Cond.methodLink "java/lang/String" (498 : Nat) ({ cls := "java/lang/StringUTF16", name := "charAt", desc := "([BI)C" } : Jvm.MethodName)) ∈ WS := WS_of 562 (by decide +kernel) rfl
theorem tw_500 : (Jvm.Cond.static ({ cls := "java/lang/StringUTF16", name := "charAt", desc := "([BI)C" } : Jvm.MethodName)) ∈ WS := WS_of 563 (by decide +kernel) rfl
theorem tw_501 : (Jvm.Cond.code ({ cls := "java/lang/StringUTF16", name := "charAt", desc := "([BI)C" } : Jvm.MethodName) prog_18_method_83_code (2 : Nat) (Option.some Jvm.ClassFile.FieldType.char)) ∈ WS := WS_of 564 (by decide +kernel) rfl
theorem tw_502 : (Jvm.Cond.methodLink "java/lang/StringUTF16" (67 : Nat) ({ cls := "java/lang/StringUTF16", name := "checkIndex", desc := "(I[B)V" } : Jvm.MethodName)) ∈ WS := WS_of 565 (by decide +kernel) rfl
theorem tw_503 : (Jvm.Cond.static ({ cls := "java/lang/StringUTF16", name := "checkIndex", desc := "(I[B)V" } : Jvm.MethodName)) ∈ WS := WS_of 566 (by decide +kernel) rfl
theorem tw_504 : (Jvm.Cond.code ({ cls := "java/lang/StringUTF16", name := "checkIndex", desc := "(I[B)V" } : Jvm.MethodName) prog_18_method_91_code (2 : Nat) (Option.none : Option Jvm.ClassFile.FieldType)) ∈ WS := WS_of 567 (by decide +kernel) rfl
theorem tw_505 : (Jvm.Cond.methodLink "java/lang/StringUTF16" (48 : Nat) ({ cls := "java/lang/StringUTF16", name := "length", desc := "([B)I" } : Jvm.MethodName)) ∈ WS := WS_of 568 (by decide +kernel) rfl
theorem tw_506 : (Jvm.Cond.static ({ cls := "java/lang/StringUTF16", name := "length", desc := "([B)I" } : Jvm.MethodName)) ∈ WS := WS_of 569 (by decide +kernel) rfl
theorem tw_507 : (Jvm.Cond.code ({ cls := "java/lang/StringUTF16", name := "length", desc := "([B)I" } : Jvm.MethodName) prog_18_method_6_code (1 : Nat) (Option.some Jvm.ClassFile.FieldType.int)) ∈ WS := WS_of 570 (by decide +kernel) rfl
theorem tw_508 : (Jvm.Cond.methodLink "java/lang/StringUTF16" (414 : Nat) ({ cls := "java/lang/String", name := "checkIndex", desc := "(II)V" } : Jvm.MethodName)) ∈ WS := WS_of 571 (by decide +kernel) rfl
theorem tw_509 : (Jvm.Cond.methodLink "java/lang/StringUTF16" (71 : Nat) ({ cls := "java/lang/StringUTF16", name := "getChar", desc := "([BI)C" } : Jvm.MethodName)) ∈ WS := WS_of 572 (by decide +kernel) rfl
theorem tw_510 : (Jvm.Cond.static ({ cls := "java/lang/StringUTF16", name := "getChar", desc := "([BI)C" } : Jvm.MethodName)) ∈ WS := WS_of 573 (by decide +kernel) rfl
theorem tw_511 : (Jvm.Cond.code ({ cls := "java/lang/StringUTF16", name := "getChar", desc := "([BI)C" } : Jvm.MethodName) prog_18_method_5_code (2 : Nat) (Option.some Jvm.ClassFile.FieldType.char)) ∈ WS := WS_of 574 (by decide +kernel) rfl
theorem tw_512 : (Jvm.Cond.fieldLink "java/lang/StringUTF16" (44 : Nat) "java/lang/StringUTF16" "$assertionsDisabled" "Z") ∈ WS := WS_of 575 (by decide +kernel) rfl
theorem tw_514 : (Jvm.Cond.fieldLink "java/lang/StringUTF16" (59 : Nat) "java/lang/StringUTF16" "HI_BYTE_SHIFT" "I") ∈ WS := WS_of 577 (by decide +kernel) rfl
theorem tw_516 : (Jvm.Cond.fieldLink "java/lang/StringUTF16" (63 : Nat) "java/lang/StringUTF16" "LO_BYTE_SHIFT" "I") ∈ WS := WS_of 579 (by decide +kernel) rfl
theorem tw_518 : (Jvm.Cond.methodLink "StoneWorks$TableReader" (67 : Nat) ({ cls := "StoneWorks$TableReader", name := "fail", desc := "(II)Z" } : Jvm.MethodName)) ∈ WS := WS_of 581 (by decide +kernel) rfl
theorem tw_520 : (Jvm.Cond.instanceMethod ({ cls := "StoneWorks$TableReader", name := "fail", desc := "(II)Z" } : Jvm.MethodName)) ∈ WS := WS_of 583 (by decide +kernel) rfl
theorem tw_521 : (Jvm.Cond.code ({ cls := "StoneWorks$TableReader", name := "fail", desc := "(II)Z" } : Jvm.MethodName) prog_9_method_10_code (3 : Nat) (Option.some Jvm.ClassFile.FieldType.boolean)) ∈ WS := WS_of 584 (by decide +kernel) rfl
theorem tw_522 : (Jvm.Cond.fieldLink "StoneWorks$TableReader" (56 : Nat) "StoneWorks$TableReader" "NUMBERS_FROM" "[I") ∈ WS := WS_of 585 (by decide +kernel) rfl
theorem tw_524 : (Jvm.Cond.methodLink "StoneWorks$TableReader" (59 : Nat) ({ cls := "StoneWorks$TableReader", name := "readNumber", desc := "(I)Z" } : Jvm.MethodName)) ∈ WS := WS_of 587 (by decide +kernel) rfl
theorem tw_526 : (Jvm.Cond.instanceMethod ({ cls := "StoneWorks$TableReader", name := "readNumber", desc := "(I)Z" } : Jvm.MethodName)) ∈ WS := WS_of 589 (by decide +kernel) rfl
theorem tw_527 : (Jvm.Cond.code ({ cls := "StoneWorks$TableReader", name := "readNumber", desc := "(I)Z" } : Jvm.MethodName) prog_9_method_8_code (4 : Nat) (Option.some Jvm.ClassFile.FieldType.boolean)) ∈ WS := WS_of 590 (by decide +kernel) rfl
theorem tw_528 : (Jvm.Cond.methodLink "StoneWorks$TableReader" (99 : Nat) ({ cls := "StoneWorks$Tape", name := "isDigit", desc := "(I)Z" } : Jvm.MethodName)) ∈ WS := WS_of 591 (by decide +kernel) rfl
theorem tw_529 : (Jvm.Cond.instanceMethod ({ cls := "StoneWorks$Tape", name := "isDigit", desc := "(I)Z" } : Jvm.MethodName)) ∈ WS := WS_of 592 (by decide +kernel) rfl
theorem tw_530 : (Jvm.Cond.selects "StoneWorks$Tape" ({ cls := "StoneWorks$Tape", name := "isDigit", desc := "(I)Z" } : Jvm.MethodName) ({ cls := "StoneWorks$Tape", name := "isDigit", desc := "(I)Z" } : Jvm.MethodName)) ∈ WS := WS_of 593 (by decide +kernel) rfl
theorem tw_531 : (Jvm.Cond.code ({ cls := "StoneWorks$Tape", name := "isDigit", desc := "(I)Z" } : Jvm.MethodName) prog_11_method_7_code (2 : Nat) (Option.some Jvm.ClassFile.FieldType.boolean)) ∈ WS := WS_of 594 (by decide +kernel) rfl
theorem tw_532 : (Jvm.Cond.fieldLink "StoneWorks$TableReader" (102 : Nat) "StoneWorks$TableReader" "GREATEST" "[I") ∈ WS := WS_of 595 (by decide +kernel) rfl
theorem tw_534 : (Jvm.Cond.methodLink "StoneWorks" (111 : Nat) ({ cls := "StoneWorks$Table", name := "takeNumbers", desc := "([I)V" } : Jvm.MethodName)) ∈ WS := WS_of 597 (by decide +kernel) rfl
theorem tw_535 : (Jvm.Cond.methodLink "StoneWorksLaw" (42 : Nat) ({ cls := "StoneWorks", name := "stone", desc := "(II)I" } : Jvm.MethodName)) ∈ WS := WS_of 598 (by decide +kernel) rfl
theorem tw_536 : (Jvm.Cond.instanceMethod ({ cls := "StoneWorks", name := "stone", desc := "(II)I" } : Jvm.MethodName)) ∈ WS := WS_of 599 (by decide +kernel) rfl
theorem tw_537 : (Jvm.Cond.selects "StoneWorks" ({ cls := "StoneWorks", name := "stone", desc := "(II)I" } : Jvm.MethodName) ({ cls := "StoneWorks", name := "stone", desc := "(II)I" } : Jvm.MethodName)) ∈ WS := WS_of 600 (by decide +kernel) rfl
theorem tw_538 : (Jvm.Cond.code ({ cls := "StoneWorks", name := "stone", desc := "(II)I" } : Jvm.MethodName) prog_1_method_8_code (3 : Nat) (Option.some Jvm.ClassFile.FieldType.int)) ∈ WS := WS_of 601 (by decide +kernel) rfl
theorem tw_539 : (Jvm.Cond.methodLink "StoneWorks" (118 : Nat) ({ cls := "StoneWorks$Site", name := "addStone", desc := "(II)I" } : Jvm.MethodName)) ∈ WS := WS_of 602 (by decide +kernel) rfl
theorem tw_540 : (Jvm.Cond.instanceMethod ({ cls := "StoneWorks$Site", name := "addStone", desc := "(II)I" } : Jvm.MethodName)) ∈ WS := WS_of 603 (by decide +kernel) rfl
theorem tw_541 : (Jvm.Cond.selects "StoneWorks$Site" ({ cls := "StoneWorks$Site", name := "addStone", desc := "(II)I" } : Jvm.MethodName) ({ cls := "StoneWorks$Site", name := "addStone", desc := "(II)I" } : Jvm.MethodName)) ∈ WS := WS_of 604 (by decide +kernel) rfl
theorem tw_542 : (Jvm.Cond.code ({ cls := "StoneWorks$Site", name := "addStone", desc := "(II)I" } : Jvm.MethodName) prog_5_method_3_code (3 : Nat) (Option.some Jvm.ClassFile.FieldType.int)) ∈ WS := WS_of 605 (by decide +kernel) rfl
theorem tw_543 : (Jvm.Cond.instantiable "StoneWorks$Stone" (6 : Nat)) ∈ WS := WS_of 606 (by decide +kernel) rfl
theorem tw_544 : (Jvm.Cond.methodLink "StoneWorks$Site" (57 : Nat) ({ cls := "StoneWorks$Stone", name := "<init>", desc := "(II)V" } : Jvm.MethodName)) ∈ WS := WS_of 607 (by decide +kernel) rfl
theorem tw_545 : (Jvm.Cond.instanceMethod ({ cls := "StoneWorks$Stone", name := "<init>", desc := "(II)V" } : Jvm.MethodName)) ∈ WS := WS_of 608 (by decide +kernel) rfl
theorem tw_546 : (Jvm.Cond.code ({ cls := "StoneWorks$Stone", name := "<init>", desc := "(II)V" } : Jvm.MethodName) prog_6_method_1_code (3 : Nat) (Option.none : Option Jvm.ClassFile.FieldType)) ∈ WS := WS_of 609 (by decide +kernel) rfl
theorem tw_547 : (Jvm.Cond.methodLink "StoneWorks$Stone" (3 : Nat) ({ cls := "java/lang/Object", name := "<init>", desc := "()V" } : Jvm.MethodName)) ∈ WS := WS_of 610 (by decide +kernel) rfl
theorem tw_548 : (Jvm.Cond.fieldLink "StoneWorks$Stone" (24 : Nat) "StoneWorks$Stone" "weight" "I") ∈ WS := WS_of 611 (by decide +kernel) rfl
theorem tw_549 : (Jvm.Cond.fieldLinkNest "StoneWorks$Table" (32 : Nat) "StoneWorks$Stone" "weight" "I" "StoneWorks") ∈ lw_tbl := List.mem_of_getElem? (i := 612) (by decide +kernel)
theorem tw_550 : (Jvm.Cond.fieldLinkNest "StoneWorks$Planner" (143 : Nat) "StoneWorks$Stone" "weight" "I" "StoneWorks") ∈ lw_tbl := List.mem_of_getElem? (i := 613) (by decide +kernel)
theorem tw_551 : (Jvm.Cond.fieldLink "StoneWorks$Stone" (27 : Nat) "StoneWorks$Stone" "course" "I") ∈ WS := WS_of 614 (by decide +kernel) rfl
theorem tw_552 : (Jvm.Cond.fieldLinkNest "StoneWorks$Planner" (117 : Nat) "StoneWorks$Stone" "course" "I" "StoneWorks") ∈ lw_tbl := List.mem_of_getElem? (i := 615) (by decide +kernel)
theorem tw_553 : (Jvm.Cond.fieldLinkNest "StoneWorks$Table" (46 : Nat) "StoneWorks$Stone" "course" "I" "StoneWorks") ∈ lw_tbl := List.mem_of_getElem? (i := 616) (by decide +kernel)
theorem tw_554 : (Jvm.Cond.fieldLinkNest "StoneWorks$Site" (117 : Nat) "StoneWorks$Stone" "course" "I" "StoneWorks") ∈ lw_tbl := List.mem_of_getElem? (i := 617) (by decide +kernel)
theorem tw_555 : (Jvm.Cond.fieldLink "StoneWorks$Stone" (9 : Nat) "StoneWorks$Stone" "state" "I") ∈ WS := WS_of 618 (by decide +kernel) rfl
theorem tw_556 : (Jvm.Cond.fieldLinkNest "StoneWorks$Table" (28 : Nat) "StoneWorks$Stone" "state" "I" "StoneWorks") ∈ lw_tbl := List.mem_of_getElem? (i := 619) (by decide +kernel)
theorem tw_557 : (Jvm.Cond.fieldLinkNest "StoneWorks$Planner" (114 : Nat) "StoneWorks$Stone" "state" "I" "StoneWorks") ∈ lw_tbl := List.mem_of_getElem? (i := 620) (by decide +kernel)
theorem tw_558 : (Jvm.Cond.fieldLinkNest "StoneWorks$Site" (60 : Nat) "StoneWorks$Stone" "state" "I" "StoneWorks") ∈ lw_tbl := List.mem_of_getElem? (i := 621) (by decide +kernel)
theorem tw_559 : (Jvm.Cond.fieldLinkNest "StoneWorks" (138 : Nat) "StoneWorks$Stone" "state" "I" "StoneWorks") ∈ lw_tbl := List.mem_of_getElem? (i := 622) (by decide +kernel)
theorem tw_560 : (Jvm.Cond.fieldLink "StoneWorks$Stone" (15 : Nat) "StoneWorks$Stone" "worker" "I") ∈ WS := WS_of 623 (by decide +kernel) rfl
theorem tw_561 : (Jvm.Cond.fieldLinkNest "StoneWorks$Planner" (111 : Nat) "StoneWorks$Stone" "worker" "I" "StoneWorks") ∈ lw_tbl := List.mem_of_getElem? (i := 624) (by decide +kernel)
theorem tw_562 : (Jvm.Cond.fieldLinkNest "StoneWorks$Site" (80 : Nat) "StoneWorks$Stone" "worker" "I" "StoneWorks") ∈ lw_tbl := List.mem_of_getElem? (i := 625) (by decide +kernel)
theorem tw_563 : (Jvm.Cond.fieldLinkNest "StoneWorks" (143 : Nat) "StoneWorks$Stone" "worker" "I" "StoneWorks") ∈ lw_tbl := List.mem_of_getElem? (i := 626) (by decide +kernel)
theorem tw_564 : (Jvm.Cond.fieldLink "StoneWorks$Stone" (18 : Nat) "StoneWorks$Stone" "mark" "I") ∈ WS := WS_of 627 (by decide +kernel) rfl
theorem tw_565 : (Jvm.Cond.fieldLinkNest "StoneWorks$Site" (63 : Nat) "StoneWorks$Stone" "mark" "I" "StoneWorks") ∈ lw_tbl := List.mem_of_getElem? (i := 628) (by decide +kernel)
theorem tw_566 : (Jvm.Cond.fieldLinkNest "StoneWorks" (146 : Nat) "StoneWorks$Stone" "mark" "I" "StoneWorks") ∈ lw_tbl := List.mem_of_getElem? (i := 629) (by decide +kernel)
theorem tw_567 : (Jvm.Cond.fieldLink "StoneWorks$Stone" (21 : Nat) "StoneWorks$Stone" "laidOn" "I") ∈ WS := WS_of 630 (by decide +kernel) rfl
theorem tw_568 : (Jvm.Cond.fieldLinkNest "StoneWorks$Site" (66 : Nat) "StoneWorks$Stone" "laidOn" "I" "StoneWorks") ∈ lw_tbl := List.mem_of_getElem? (i := 631) (by decide +kernel)
theorem tw_569 : (Jvm.Cond.fieldLinkNest "StoneWorks" (149 : Nat) "StoneWorks$Stone" "laidOn" "I" "StoneWorks") ∈ lw_tbl := List.mem_of_getElem? (i := 632) (by decide +kernel)
theorem tw_583 : (Jvm.Cond.methodLink "StoneWorksLaw" (46 : Nat) ({ cls := "StoneWorks", name := "send", desc := "(II)I" } : Jvm.MethodName)) ∈ WS := WS_of 646 (by decide +kernel) rfl
theorem tw_584 : (Jvm.Cond.instanceMethod ({ cls := "StoneWorks", name := "send", desc := "(II)I" } : Jvm.MethodName)) ∈ WS := WS_of 647 (by decide +kernel) rfl
theorem tw_585 : (Jvm.Cond.selects "StoneWorks" ({ cls := "StoneWorks", name := "send", desc := "(II)I" } : Jvm.MethodName) ({ cls := "StoneWorks", name := "send", desc := "(II)I" } : Jvm.MethodName)) ∈ WS := WS_of 648 (by decide +kernel) rfl
theorem tw_586 : (Jvm.Cond.code ({ cls := "StoneWorks", name := "send", desc := "(II)I" } : Jvm.MethodName) prog_1_method_9_code (3 : Nat) (Option.some Jvm.ClassFile.FieldType.int)) ∈ WS := WS_of 649 (by decide +kernel) rfl
theorem tw_587 : (Jvm.Cond.methodLink "StoneWorks" (121 : Nat) ({ cls := "StoneWorks$Site", name := "sendToStone", desc := "(II)I" } : Jvm.MethodName)) ∈ WS := WS_of 650 (by decide +kernel) rfl
theorem tw_588 : (Jvm.Cond.instanceMethod ({ cls := "StoneWorks$Site", name := "sendToStone", desc := "(II)I" } : Jvm.MethodName)) ∈ WS := WS_of 651 (by decide +kernel) rfl
theorem tw_589 : (Jvm.Cond.selects "StoneWorks$Site" ({ cls := "StoneWorks$Site", name := "sendToStone", desc := "(II)I" } : Jvm.MethodName) ({ cls := "StoneWorks$Site", name := "sendToStone", desc := "(II)I" } : Jvm.MethodName)) ∈ WS := WS_of 652 (by decide +kernel) rfl
theorem tw_590 : (Jvm.Cond.code ({ cls := "StoneWorks$Site", name := "sendToStone", desc := "(II)I" } : Jvm.MethodName) prog_5_method_8_code (6 : Nat) (Option.some Jvm.ClassFile.FieldType.int)) ∈ WS := WS_of 653 (by decide +kernel) rfl
theorem tw_591 : (Jvm.Cond.methodLink "StoneWorks$Site" (69 : Nat) ({ cls := "StoneWorks$Site", name := "gangAt", desc := "(I)LStoneWorks$Gang;" } : Jvm.MethodName)) ∈ WS := WS_of 654 (by decide +kernel) rfl
theorem tw_592 : (Jvm.Cond.instanceMethod ({ cls := "StoneWorks$Site", name := "gangAt", desc := "(I)LStoneWorks$Gang;" } : Jvm.MethodName)) ∈ WS := WS_of 655 (by decide +kernel) rfl
theorem tw_593 : (Jvm.Cond.selects "StoneWorks$Site" ({ cls := "StoneWorks$Site", name := "gangAt", desc := "(I)LStoneWorks$Gang;" } : Jvm.MethodName) ({ cls := "StoneWorks$Site", name := "gangAt", desc := "(I)LStoneWorks$Gang;" } : Jvm.MethodName)) ∈ WS := WS_of 656 (by decide +kernel) rfl
theorem tw_594 : (Jvm.Cond.code ({ cls := "StoneWorks$Site", name := "gangAt", desc := "(I)LStoneWorks$Gang;" } : Jvm.MethodName) prog_5_method_4_code (2 : Nat) (Option.some (Jvm.ClassFile.FieldType.object "StoneWorks$Gang"))) ∈ WS := WS_of 657 (by decide +kernel) rfl
theorem tw_595 : (Jvm.Cond.methodLink "StoneWorks$Site" (73 : Nat) ({ cls := "StoneWorks$Site", name := "stoneAt", desc := "(I)LStoneWorks$Stone;" } : Jvm.MethodName)) ∈ WS := WS_of 658 (by decide +kernel) rfl
theorem tw_596 : (Jvm.Cond.instanceMethod ({ cls := "StoneWorks$Site", name := "stoneAt", desc := "(I)LStoneWorks$Stone;" } : Jvm.MethodName)) ∈ WS := WS_of 659 (by decide +kernel) rfl
theorem tw_597 : (Jvm.Cond.selects "StoneWorks$Site" ({ cls := "StoneWorks$Site", name := "stoneAt", desc := "(I)LStoneWorks$Stone;" } : Jvm.MethodName) ({ cls := "StoneWorks$Site", name := "stoneAt", desc := "(I)LStoneWorks$Stone;" } : Jvm.MethodName)) ∈ WS := WS_of 660 (by decide +kernel) rfl
theorem tw_598 : (Jvm.Cond.code ({ cls := "StoneWorks$Site", name := "stoneAt", desc := "(I)LStoneWorks$Stone;" } : Jvm.MethodName) prog_5_method_5_code (2 : Nat) (Option.some (Jvm.ClassFile.FieldType.object "StoneWorks$Stone"))) ∈ WS := WS_of 661 (by decide +kernel) rfl
theorem tw_599 : (Jvm.Cond.methodLink "StoneWorks$Site" (83 : Nat) ({ cls := "StoneWorks$Stone", name := "isDone", desc := "()Z" } : Jvm.MethodName)) ∈ WS := WS_of 662 (by decide +kernel) rfl
theorem tw_600 : (Jvm.Cond.instanceMethod ({ cls := "StoneWorks$Stone", name := "isDone", desc := "()Z" } : Jvm.MethodName)) ∈ WS := WS_of 663 (by decide +kernel) rfl
theorem tw_601 : (Jvm.Cond.selects "StoneWorks$Stone" ({ cls := "StoneWorks$Stone", name := "isDone", desc := "()Z" } : Jvm.MethodName) ({ cls := "StoneWorks$Stone", name := "isDone", desc := "()Z" } : Jvm.MethodName)) ∈ WS := WS_of 664 (by decide +kernel) rfl
theorem tw_602 : (Jvm.Cond.code ({ cls := "StoneWorks$Stone", name := "isDone", desc := "()Z" } : Jvm.MethodName) prog_6_method_2_code (1 : Nat) (Option.some Jvm.ClassFile.FieldType.boolean)) ∈ WS := WS_of 665 (by decide +kernel) rfl
theorem tw_603 : (Jvm.Cond.methodLink "StoneWorks$Site" (87 : Nat) ({ cls := "StoneWorks$Site", name := "hindranceOfNext", desc := "(LStoneWorks$Gang;LStoneWorks$Stone;)I" } : Jvm.MethodName)) ∈ WS := WS_of 666 (by decide +kernel) rfl
theorem tw_605 : (Jvm.Cond.instanceMethod ({ cls := "StoneWorks$Site", name := "hindranceOfNext", desc := "(LStoneWorks$Gang;LStoneWorks$Stone;)I" } : Jvm.MethodName)) ∈ WS := WS_of 668 (by decide +kernel) rfl
theorem tw_606 : (Jvm.Cond.code ({ cls := "StoneWorks$Site", name := "hindranceOfNext", desc := "(LStoneWorks$Gang;LStoneWorks$Stone;)I" } : Jvm.MethodName) prog_5_method_9_code (4 : Nat) (Option.some Jvm.ClassFile.FieldType.int)) ∈ WS := WS_of 669 (by decide +kernel) rfl
theorem tw_607 : (Jvm.Cond.methodLink "StoneWorks$Site" (100 : Nat) ({ cls := "StoneWorks$Seasons", name := "isOn", desc := "(II)Z" } : Jvm.MethodName)) ∈ WS := WS_of 670 (by decide +kernel) rfl
theorem tw_608 : (Jvm.Cond.instanceMethod ({ cls := "StoneWorks$Seasons", name := "isOn", desc := "(II)Z" } : Jvm.MethodName)) ∈ WS := WS_of 671 (by decide +kernel) rfl
theorem tw_609 : (Jvm.Cond.selects "StoneWorks$Seasons" ({ cls := "StoneWorks$Seasons", name := "isOn", desc := "(II)Z" } : Jvm.MethodName) ({ cls := "StoneWorks$Seasons", name := "isOn", desc := "(II)Z" } : Jvm.MethodName)) ∈ WS := WS_of 672 (by decide +kernel) rfl
theorem tw_610 : (Jvm.Cond.code ({ cls := "StoneWorks$Seasons", name := "isOn", desc := "(II)Z" } : Jvm.MethodName) prog_4_method_4_code (4 : Nat) (Option.some Jvm.ClassFile.FieldType.boolean)) ∈ WS := WS_of 673 (by decide +kernel) rfl
theorem tw_611 : (Jvm.Cond.methodLink "StoneWorks$Site" (106 : Nat) ({ cls := "StoneWorks$Table", name := "pullOf", desc := "(LStoneWorks$Stone;Z)I" } : Jvm.MethodName)) ∈ WS := WS_of 674 (by decide +kernel) rfl
theorem tw_612 : (Jvm.Cond.instanceMethod ({ cls := "StoneWorks$Table", name := "pullOf", desc := "(LStoneWorks$Stone;Z)I" } : Jvm.MethodName)) ∈ WS := WS_of 675 (by decide +kernel) rfl
theorem tw_613 : (Jvm.Cond.selects "StoneWorks$Table" ({ cls := "StoneWorks$Table", name := "pullOf", desc := "(LStoneWorks$Stone;Z)I" } : Jvm.MethodName) ({ cls := "StoneWorks$Table", name := "pullOf", desc := "(LStoneWorks$Stone;Z)I" } : Jvm.MethodName)) ∈ WS := WS_of 676 (by decide +kernel) rfl
theorem tw_614 : (Jvm.Cond.code ({ cls := "StoneWorks$Table", name := "pullOf", desc := "(LStoneWorks$Stone;Z)I" } : Jvm.MethodName) prog_8_method_4_code (3 : Nat) (Option.some Jvm.ClassFile.FieldType.int)) ∈ WS := WS_of 677 (by decide +kernel) rfl
theorem tw_615 : (Jvm.Cond.methodLink "StoneWorks$Table" (22 : Nat) ({ cls := "StoneWorks$Stone", name := "wantsHaul", desc := "()Z" } : Jvm.MethodName)) ∈ WS := WS_of 678 (by decide +kernel) rfl
theorem tw_616 : (Jvm.Cond.instanceMethod ({ cls := "StoneWorks$Stone", name := "wantsHaul", desc := "()Z" } : Jvm.MethodName)) ∈ WS := WS_of 679 (by decide +kernel) rfl
theorem tw_617 : (Jvm.Cond.selects "StoneWorks$Stone" ({ cls := "StoneWorks$Stone", name := "wantsHaul", desc := "()Z" } : Jvm.MethodName) ({ cls := "StoneWorks$Stone", name := "wantsHaul", desc := "()Z" } : Jvm.MethodName)) ∈ WS := WS_of 680 (by decide +kernel) rfl
theorem tw_618 : (Jvm.Cond.code ({ cls := "StoneWorks$Stone", name := "wantsHaul", desc := "()Z" } : Jvm.MethodName) prog_6_method_3_code (1 : Nat) (Option.some Jvm.ClassFile.FieldType.boolean)) ∈ WS := WS_of 681 (by decide +kernel) rfl
theorem tw_619 : (Jvm.Cond.methodLink "StoneWorks$Table" (35 : Nat) ({ cls := "StoneWorks$Table", name := "pullOfWeight", desc := "(II)I" } : Jvm.MethodName)) ∈ WS := WS_of 682 (by decide +kernel) rfl
theorem tw_620 : (Jvm.Cond.instanceMethod ({ cls := "StoneWorks$Table", name := "pullOfWeight", desc := "(II)I" } : Jvm.MethodName)) ∈ WS := WS_of 683 (by decide +kernel) rfl
theorem tw_621 : (Jvm.Cond.selects "StoneWorks$Table" ({ cls := "StoneWorks$Table", name := "pullOfWeight", desc := "(II)I" } : Jvm.MethodName) ({ cls := "StoneWorks$Table", name := "pullOfWeight", desc := "(II)I" } : Jvm.MethodName)) ∈ WS := WS_of 684 (by decide +kernel) rfl
theorem tw_622 : (Jvm.Cond.code ({ cls := "StoneWorks$Table", name := "pullOfWeight", desc := "(II)I" } : Jvm.MethodName) prog_8_method_5_code (3 : Nat) (Option.some Jvm.ClassFile.FieldType.int)) ∈ WS := WS_of 685 (by decide +kernel) rfl
theorem tw_623 : (Jvm.Cond.methodLink "StoneWorks$Table" (39 : Nat) ({ cls := "StoneWorks$Table", name := "numberAt", desc := "(I)I" } : Jvm.MethodName)) ∈ WS := WS_of 686 (by decide +kernel) rfl
theorem tw_624 : (Jvm.Cond.instanceMethod ({ cls := "StoneWorks$Table", name := "numberAt", desc := "(I)I" } : Jvm.MethodName)) ∈ WS := WS_of 687 (by decide +kernel) rfl
theorem tw_625 : (Jvm.Cond.selects "StoneWorks$Table" ({ cls := "StoneWorks$Table", name := "numberAt", desc := "(I)I" } : Jvm.MethodName) ({ cls := "StoneWorks$Table", name := "numberAt", desc := "(I)I" } : Jvm.MethodName)) ∈ WS := WS_of 688 (by decide +kernel) rfl
theorem tw_626 : (Jvm.Cond.code ({ cls := "StoneWorks$Table", name := "numberAt", desc := "(I)I" } : Jvm.MethodName) prog_8_method_3_code (2 : Nat) (Option.some Jvm.ClassFile.FieldType.int)) ∈ WS := WS_of 689 (by decide +kernel) rfl
theorem tw_627 : (Jvm.Cond.methodLinkNest "StoneWorks$Table" (43 : Nat) ({ cls := "StoneWorks", name := "upwards", desc := "(II)I" } : Jvm.MethodName) "StoneWorks") ∈ lw_tbl := List.mem_of_getElem? (i := 690) (by decide +kernel)
theorem tw_628 : (Jvm.Cond.static ({ cls := "StoneWorks", name := "upwards", desc := "(II)I" } : Jvm.MethodName)) ∈ WS := WS_of 691 (by decide +kernel) rfl
theorem tw_629 : (Jvm.Cond.code ({ cls := "StoneWorks", name := "upwards", desc := "(II)I" } : Jvm.MethodName) prog_1_method_23_code (2 : Nat) (Option.some Jvm.ClassFile.FieldType.int)) ∈ WS := WS_of 692 (by decide +kernel) rfl
theorem tw_630 : (Jvm.Cond.methodLink "StoneWorks$Site" (110 : Nat) ({ cls := "StoneWorks$Table", name := "numberAt", desc := "(I)I" } : Jvm.MethodName)) ∈ WS := WS_of 693 (by decide +kernel) rfl
theorem tw_631 : (Jvm.Cond.methodLink "StoneWorks$Site" (120 : Nat) ({ cls := "StoneWorks$Site", name := "waitsForLesser", desc := "(LStoneWorks$Stone;)Z" } : Jvm.MethodName)) ∈ WS := WS_of 694 (by decide +kernel) rfl
theorem tw_633 : (Jvm.Cond.instanceMethod ({ cls := "StoneWorks$Site", name := "waitsForLesser", desc := "(LStoneWorks$Stone;)Z" } : Jvm.MethodName)) ∈ WS := WS_of 696 (by decide +kernel) rfl
theorem tw_634 : (Jvm.Cond.code ({ cls := "StoneWorks$Site", name := "waitsForLesser", desc := "(LStoneWorks$Stone;)Z" } : Jvm.MethodName) prog_5_method_10_code (3 : Nat) (Option.some Jvm.ClassFile.FieldType.boolean)) ∈ WS := WS_of 697 (by decide +kernel) rfl
theorem tw_635 : (Jvm.Cond.methodLink "StoneWorks$Site" (91 : Nat) ({ cls := "StoneWorks$Table", name := "lengthOfNext", desc := "(LStoneWorks$Stone;)I" } : Jvm.MethodName)) ∈ WS := WS_of 698 (by decide +kernel) rfl
theorem tw_636 : (Jvm.Cond.instanceMethod ({ cls := "StoneWorks$Table", name := "lengthOfNext", desc := "(LStoneWorks$Stone;)I" } : Jvm.MethodName)) ∈ WS := WS_of 699 (by decide +kernel) rfl
theorem tw_637 : (Jvm.Cond.selects "StoneWorks$Table" ({ cls := "StoneWorks$Table", name := "lengthOfNext", desc := "(LStoneWorks$Stone;)I" } : Jvm.MethodName) ({ cls := "StoneWorks$Table", name := "lengthOfNext", desc := "(LStoneWorks$Stone;)I" } : Jvm.MethodName)) ∈ WS := WS_of 700 (by decide +kernel) rfl
theorem tw_638 : (Jvm.Cond.code ({ cls := "StoneWorks$Table", name := "lengthOfNext", desc := "(LStoneWorks$Stone;)I" } : Jvm.MethodName) prog_8_method_6_code (2 : Nat) (Option.some Jvm.ClassFile.FieldType.int)) ∈ WS := WS_of 701 (by decide +kernel) rfl
theorem tw_639 : (Jvm.Cond.methodLink "StoneWorks$Site" (97 : Nat) ({ cls := "StoneWorks$Gang", name := "takeWork", desc := "(II)V" } : Jvm.MethodName)) ∈ WS := WS_of 702 (by decide +kernel) rfl
theorem tw_640 : (Jvm.Cond.instanceMethod ({ cls := "StoneWorks$Gang", name := "takeWork", desc := "(II)V" } : Jvm.MethodName)) ∈ WS := WS_of 703 (by decide +kernel) rfl
theorem tw_641 : (Jvm.Cond.selects "StoneWorks$Gang" ({ cls := "StoneWorks$Gang", name := "takeWork", desc := "(II)V" } : Jvm.MethodName) ({ cls := "StoneWorks$Gang", name := "takeWork", desc := "(II)V" } : Jvm.MethodName)) ∈ WS := WS_of 704 (by decide +kernel) rfl
theorem tw_642 : (Jvm.Cond.code ({ cls := "StoneWorks$Gang", name := "takeWork", desc := "(II)V" } : Jvm.MethodName) prog_2_method_2_code (3 : Nat) (Option.none : Option Jvm.ClassFile.FieldType)) ∈ WS := WS_of 705 (by decide +kernel) rfl
theorem tw_643 : (Jvm.Cond.methodLink "StoneWorksLaw" (50 : Nat) ({ cls := "StoneWorks", name := "raise", desc := "(I)I" } : Jvm.MethodName)) ∈ WS := WS_of 706 (by decide +kernel) rfl
theorem tw_644 : (Jvm.Cond.instanceMethod ({ cls := "StoneWorks", name := "raise", desc := "(I)I" } : Jvm.MethodName)) ∈ WS := WS_of 707 (by decide +kernel) rfl
theorem tw_645 : (Jvm.Cond.selects "StoneWorks" ({ cls := "StoneWorks", name := "raise", desc := "(I)I" } : Jvm.MethodName) ({ cls := "StoneWorks", name := "raise", desc := "(I)I" } : Jvm.MethodName)) ∈ WS := WS_of 708 (by decide +kernel) rfl
theorem tw_646 : (Jvm.Cond.code ({ cls := "StoneWorks", name := "raise", desc := "(I)I" } : Jvm.MethodName) prog_1_method_10_code (2 : Nat) (Option.some Jvm.ClassFile.FieldType.int)) ∈ WS := WS_of 709 (by decide +kernel) rfl
theorem tw_647 : (Jvm.Cond.methodLink "StoneWorks" (124 : Nat) ({ cls := "StoneWorks$Site", name := "sendToRamp", desc := "(I)I" } : Jvm.MethodName)) ∈ WS := WS_of 710 (by decide +kernel) rfl
theorem tw_648 : (Jvm.Cond.instanceMethod ({ cls := "StoneWorks$Site", name := "sendToRamp", desc := "(I)I" } : Jvm.MethodName)) ∈ WS := WS_of 711 (by decide +kernel) rfl
theorem tw_649 : (Jvm.Cond.selects "StoneWorks$Site" ({ cls := "StoneWorks$Site", name := "sendToRamp", desc := "(I)I" } : Jvm.MethodName) ({ cls := "StoneWorks$Site", name := "sendToRamp", desc := "(I)I" } : Jvm.MethodName)) ∈ WS := WS_of 712 (by decide +kernel) rfl
theorem tw_650 : (Jvm.Cond.code ({ cls := "StoneWorks$Site", name := "sendToRamp", desc := "(I)I" } : Jvm.MethodName) prog_5_method_11_code (3 : Nat) (Option.some Jvm.ClassFile.FieldType.int)) ∈ WS := WS_of 713 (by decide +kernel) rfl
theorem tw_651 : (Jvm.Cond.methodLink "StoneWorks$Site" (124 : Nat) ({ cls := "StoneWorks$Site", name := "isRampRaised", desc := "()Z" } : Jvm.MethodName)) ∈ WS := WS_of 714 (by decide +kernel) rfl
theorem tw_653 : (Jvm.Cond.instanceMethod ({ cls := "StoneWorks$Site", name := "isRampRaised", desc := "()Z" } : Jvm.MethodName)) ∈ WS := WS_of 716 (by decide +kernel) rfl
theorem tw_654 : (Jvm.Cond.code ({ cls := "StoneWorks$Site", name := "isRampRaised", desc := "()Z" } : Jvm.MethodName) prog_5_method_12_code (2 : Nat) (Option.some Jvm.ClassFile.FieldType.boolean)) ∈ WS := WS_of 717 (by decide +kernel) rfl
theorem tw_655 : (Jvm.Cond.methodLink "StoneWorksLaw" (54 : Nat) ({ cls := "StoneWorks", name := "callOff", desc := "(I)Z" } : Jvm.MethodName)) ∈ WS := WS_of 718 (by decide +kernel) rfl
theorem tw_656 : (Jvm.Cond.instanceMethod ({ cls := "StoneWorks", name := "callOff", desc := "(I)Z" } : Jvm.MethodName)) ∈ WS := WS_of 719 (by decide +kernel) rfl
theorem tw_657 : (Jvm.Cond.selects "StoneWorks" ({ cls := "StoneWorks", name := "callOff", desc := "(I)Z" } : Jvm.MethodName) ({ cls := "StoneWorks", name := "callOff", desc := "(I)Z" } : Jvm.MethodName)) ∈ WS := WS_of 720 (by decide +kernel) rfl
theorem tw_658 : (Jvm.Cond.code ({ cls := "StoneWorks", name := "callOff", desc := "(I)Z" } : Jvm.MethodName) prog_1_method_11_code (2 : Nat) (Option.some Jvm.ClassFile.FieldType.boolean)) ∈ WS := WS_of 721 (by decide +kernel) rfl
theorem tw_659 : (Jvm.Cond.methodLink "StoneWorks" (127 : Nat) ({ cls := "StoneWorks$Site", name := "stopWork", desc := "(I)Z" } : Jvm.MethodName)) ∈ WS := WS_of 722 (by decide +kernel) rfl
theorem tw_660 : (Jvm.Cond.instanceMethod ({ cls := "StoneWorks$Site", name := "stopWork", desc := "(I)Z" } : Jvm.MethodName)) ∈ WS := WS_of 723 (by decide +kernel) rfl
theorem tw_661 : (Jvm.Cond.selects "StoneWorks$Site" ({ cls := "StoneWorks$Site", name := "stopWork", desc := "(I)Z" } : Jvm.MethodName) ({ cls := "StoneWorks$Site", name := "stopWork", desc := "(I)Z" } : Jvm.MethodName)) ∈ WS := WS_of 724 (by decide +kernel) rfl
theorem tw_662 : (Jvm.Cond.code ({ cls := "StoneWorks$Site", name := "stopWork", desc := "(I)Z" } : Jvm.MethodName) prog_5_method_13_code (3 : Nat) (Option.some Jvm.ClassFile.FieldType.boolean)) ∈ WS := WS_of 725 (by decide +kernel) rfl
theorem tw_663 : (Jvm.Cond.methodLink "StoneWorks$Site" (127 : Nat) ({ cls := "StoneWorks$Site", name := "leaveWork", desc := "(LStoneWorks$Gang;)V" } : Jvm.MethodName)) ∈ WS := WS_of 726 (by decide +kernel) rfl
theorem tw_665 : (Jvm.Cond.instanceMethod ({ cls := "StoneWorks$Site", name := "leaveWork", desc := "(LStoneWorks$Gang;)V" } : Jvm.MethodName)) ∈ WS := WS_of 728 (by decide +kernel) rfl
theorem tw_666 : (Jvm.Cond.code ({ cls := "StoneWorks$Site", name := "leaveWork", desc := "(LStoneWorks$Gang;)V" } : Jvm.MethodName) prog_5_method_14_code (3 : Nat) (Option.none : Option Jvm.ClassFile.FieldType)) ∈ WS := WS_of 729 (by decide +kernel) rfl
theorem tw_667 : (Jvm.Cond.methodLink "StoneWorks$Site" (131 : Nat) ({ cls := "StoneWorks$Gang", name := "dropWork", desc := "()V" } : Jvm.MethodName)) ∈ WS := WS_of 730 (by decide +kernel) rfl
theorem tw_668 : (Jvm.Cond.instanceMethod ({ cls := "StoneWorks$Gang", name := "dropWork", desc := "()V" } : Jvm.MethodName)) ∈ WS := WS_of 731 (by decide +kernel) rfl
theorem tw_669 : (Jvm.Cond.selects "StoneWorks$Gang" ({ cls := "StoneWorks$Gang", name := "dropWork", desc := "()V" } : Jvm.MethodName) ({ cls := "StoneWorks$Gang", name := "dropWork", desc := "()V" } : Jvm.MethodName)) ∈ WS := WS_of 732 (by decide +kernel) rfl
theorem tw_670 : (Jvm.Cond.code ({ cls := "StoneWorks$Gang", name := "dropWork", desc := "()V" } : Jvm.MethodName) prog_2_method_3_code (1 : Nat) (Option.none : Option Jvm.ClassFile.FieldType)) ∈ WS := WS_of 733 (by decide +kernel) rfl
theorem tw_671 : (Jvm.Cond.methodLink "StoneWorksLaw" (59 : Nat) ({ cls := "StoneWorks", name := "pass", desc := "(I)I" } : Jvm.MethodName)) ∈ WS := WS_of 734 (by decide +kernel) rfl
theorem tw_672 : (Jvm.Cond.instanceMethod ({ cls := "StoneWorks", name := "pass", desc := "(I)I" } : Jvm.MethodName)) ∈ WS := WS_of 735 (by decide +kernel) rfl
theorem tw_673 : (Jvm.Cond.selects "StoneWorks" ({ cls := "StoneWorks", name := "pass", desc := "(I)I" } : Jvm.MethodName) ({ cls := "StoneWorks", name := "pass", desc := "(I)I" } : Jvm.MethodName)) ∈ WS := WS_of 736 (by decide +kernel) rfl
theorem tw_674 : (Jvm.Cond.code ({ cls := "StoneWorks", name := "pass", desc := "(I)I" } : Jvm.MethodName) prog_1_method_12_code (3 : Nat) (Option.some Jvm.ClassFile.FieldType.int)) ∈ WS := WS_of 737 (by decide +kernel) rfl
theorem tw_675 : (Jvm.Cond.methodLink "StoneWorks" (131 : Nat) ({ cls := "StoneWorks$Site", name := "liveDay", desc := "()V" } : Jvm.MethodName)) ∈ WS := WS_of 738 (by decide +kernel) rfl
theorem tw_676 : (Jvm.Cond.instanceMethod ({ cls := "StoneWorks$Site", name := "liveDay", desc := "()V" } : Jvm.MethodName)) ∈ WS := WS_of 739 (by decide +kernel) rfl
theorem tw_677 : (Jvm.Cond.selects "StoneWorks$Site" ({ cls := "StoneWorks$Site", name := "liveDay", desc := "()V" } : Jvm.MethodName) ({ cls := "StoneWorks$Site", name := "liveDay", desc := "()V" } : Jvm.MethodName)) ∈ WS := WS_of 740 (by decide +kernel) rfl
theorem tw_678 : (Jvm.Cond.code ({ cls := "StoneWorks$Site", name := "liveDay", desc := "()V" } : Jvm.MethodName) prog_5_method_15_code (5 : Nat) (Option.none : Option Jvm.ClassFile.FieldType)) ∈ WS := WS_of 741 (by decide +kernel) rfl
theorem tw_679 : (Jvm.Cond.methodLink "StoneWorks$Site" (134 : Nat) ({ cls := "StoneWorks$Stores", name := "landBoats", desc := "(I)V" } : Jvm.MethodName)) ∈ WS := WS_of 742 (by decide +kernel) rfl
theorem tw_680 : (Jvm.Cond.instanceMethod ({ cls := "StoneWorks$Stores", name := "landBoats", desc := "(I)V" } : Jvm.MethodName)) ∈ WS := WS_of 743 (by decide +kernel) rfl
theorem tw_681 : (Jvm.Cond.selects "StoneWorks$Stores" ({ cls := "StoneWorks$Stores", name := "landBoats", desc := "(I)V" } : Jvm.MethodName) ({ cls := "StoneWorks$Stores", name := "landBoats", desc := "(I)V" } : Jvm.MethodName)) ∈ WS := WS_of 744 (by decide +kernel) rfl
theorem tw_682 : (Jvm.Cond.code ({ cls := "StoneWorks$Stores", name := "landBoats", desc := "(I)V" } : Jvm.MethodName) prog_7_method_3_code (3 : Nat) (Option.none : Option Jvm.ClassFile.FieldType)) ∈ WS := WS_of 745 (by decide +kernel) rfl
theorem tw_683 : (Jvm.Cond.constant "StoneWorks$Stores" (30 : Nat) (10000000 : Int32)) ∈ WS := WS_of 746 (by decide +kernel) rfl
theorem tw_684 : (Jvm.Cond.methodLink "StoneWorks$Stores" (31 : Nat) ({ cls := "java/lang/Math", name := "min", desc := "(II)I" } : Jvm.MethodName)) ∈ WS := WS_of 747 (by decide +kernel) rfl
theorem tw_685 : (Jvm.Cond.methodLink "StoneWorks$Site" (142 : Nat) ({ cls := "StoneWorks$Site", name := "isRafting", desc := "(LStoneWorks$Gang;)Z" } : Jvm.MethodName)) ∈ WS := WS_of 748 (by decide +kernel) rfl
theorem tw_687 : (Jvm.Cond.instanceMethod ({ cls := "StoneWorks$Site", name := "isRafting", desc := "(LStoneWorks$Gang;)Z" } : Jvm.MethodName)) ∈ WS := WS_of 750 (by decide +kernel) rfl
theorem tw_688 : (Jvm.Cond.code ({ cls := "StoneWorks$Site", name := "isRafting", desc := "(LStoneWorks$Gang;)Z" } : Jvm.MethodName) prog_5_method_16_code (3 : Nat) (Option.some Jvm.ClassFile.FieldType.boolean)) ∈ WS := WS_of 751 (by decide +kernel) rfl
theorem tw_689 : (Jvm.Cond.methodLink "StoneWorks$Site" (146 : Nat) ({ cls := "StoneWorks$Site", name := "workOneDay", desc := "(IZ)V" } : Jvm.MethodName)) ∈ WS := WS_of 752 (by decide +kernel) rfl
theorem tw_691 : (Jvm.Cond.instanceMethod ({ cls := "StoneWorks$Site", name := "workOneDay", desc := "(IZ)V" } : Jvm.MethodName)) ∈ WS := WS_of 754 (by decide +kernel) rfl
theorem tw_692 : (Jvm.Cond.code ({ cls := "StoneWorks$Site", name := "workOneDay", desc := "(IZ)V" } : Jvm.MethodName) prog_5_method_17_code (6 : Nat) (Option.none : Option Jvm.ClassFile.FieldType)) ∈ WS := WS_of 755 (by decide +kernel) rfl
theorem tw_693 : (Jvm.Cond.methodLink "StoneWorks$Site" (150 : Nat) ({ cls := "StoneWorks$Stone", name := "wantsHaul", desc := "()Z" } : Jvm.MethodName)) ∈ WS := WS_of 756 (by decide +kernel) rfl
theorem tw_694 : (Jvm.Cond.methodLink "StoneWorks$Site" (153 : Nat) ({ cls := "StoneWorks$Site", name := "isTooHeavy", desc := "(ILStoneWorks$Gang;)Z" } : Jvm.MethodName)) ∈ WS := WS_of 757 (by decide +kernel) rfl
theorem tw_696 : (Jvm.Cond.instanceMethod ({ cls := "StoneWorks$Site", name := "isTooHeavy", desc := "(ILStoneWorks$Gang;)Z" } : Jvm.MethodName)) ∈ WS := WS_of 759 (by decide +kernel) rfl
theorem tw_697 : (Jvm.Cond.code ({ cls := "StoneWorks$Site", name := "isTooHeavy", desc := "(ILStoneWorks$Gang;)Z" } : Jvm.MethodName) prog_5_method_18_code (3 : Nat) (Option.some Jvm.ClassFile.FieldType.boolean)) ∈ WS := WS_of 760 (by decide +kernel) rfl
theorem tw_698 : (Jvm.Cond.methodLink "StoneWorks$Site" (163 : Nat) ({ cls := "StoneWorks$Site", name := "bringFurther", desc := "(LStoneWorks$Stone;I)V" } : Jvm.MethodName)) ∈ WS := WS_of 761 (by decide +kernel) rfl
theorem tw_700 : (Jvm.Cond.instanceMethod ({ cls := "StoneWorks$Site", name := "bringFurther", desc := "(LStoneWorks$Stone;I)V" } : Jvm.MethodName)) ∈ WS := WS_of 763 (by decide +kernel) rfl
theorem tw_701 : (Jvm.Cond.code ({ cls := "StoneWorks$Site", name := "bringFurther", desc := "(LStoneWorks$Stone;I)V" } : Jvm.MethodName) prog_5_method_19_code (3 : Nat) (Option.none : Option Jvm.ClassFile.FieldType)) ∈ WS := WS_of 764 (by decide +kernel) rfl
theorem tw_702 : (Jvm.Cond.methodLink "StoneWorksLaw" (63 : Nat) ({ cls := "StoneWorks", name := "about", desc := "(II)I" } : Jvm.MethodName)) ∈ WS := WS_of 765 (by decide +kernel) rfl
theorem tw_703 : (Jvm.Cond.instanceMethod ({ cls := "StoneWorks", name := "about", desc := "(II)I" } : Jvm.MethodName)) ∈ WS := WS_of 766 (by decide +kernel) rfl
theorem tw_704 : (Jvm.Cond.selects "StoneWorks" ({ cls := "StoneWorks", name := "about", desc := "(II)I" } : Jvm.MethodName) ({ cls := "StoneWorks", name := "about", desc := "(II)I" } : Jvm.MethodName)) ∈ WS := WS_of 767 (by decide +kernel) rfl
theorem tw_705 : (Jvm.Cond.code ({ cls := "StoneWorks", name := "about", desc := "(II)I" } : Jvm.MethodName) prog_1_method_13_code (4 : Nat) (Option.some Jvm.ClassFile.FieldType.int)) ∈ WS := WS_of 768 (by decide +kernel) rfl
theorem tw_706 : (Jvm.Cond.methodLink "StoneWorks" (134 : Nat) ({ cls := "StoneWorks$Site", name := "stoneAt", desc := "(I)LStoneWorks$Stone;" } : Jvm.MethodName)) ∈ WS := WS_of 769 (by decide +kernel) rfl
theorem tw_707 : (Jvm.Cond.methodLink "StoneWorks" (152 : Nat) ({ cls := "StoneWorks$Table", name := "pullOf", desc := "(LStoneWorks$Stone;Z)I" } : Jvm.MethodName)) ∈ WS := WS_of 770 (by decide +kernel) rfl
theorem tw_708 : (Jvm.Cond.methodLink "StoneWorksLaw" (67 : Nat) ({ cls := "StoneWorks", name := "gangs", desc := "(II)I" } : Jvm.MethodName)) ∈ WS := WS_of 771 (by decide +kernel) rfl
theorem tw_709 : (Jvm.Cond.instanceMethod ({ cls := "StoneWorks", name := "gangs", desc := "(II)I" } : Jvm.MethodName)) ∈ WS := WS_of 772 (by decide +kernel) rfl
theorem tw_710 : (Jvm.Cond.selects "StoneWorks" ({ cls := "StoneWorks", name := "gangs", desc := "(II)I" } : Jvm.MethodName) ({ cls := "StoneWorks", name := "gangs", desc := "(II)I" } : Jvm.MethodName)) ∈ WS := WS_of 773 (by decide +kernel) rfl
theorem tw_711 : (Jvm.Cond.code ({ cls := "StoneWorks", name := "gangs", desc := "(II)I" } : Jvm.MethodName) prog_1_method_14_code (4 : Nat) (Option.some Jvm.ClassFile.FieldType.int)) ∈ WS := WS_of 774 (by decide +kernel) rfl
theorem tw_712 : (Jvm.Cond.methodLink "StoneWorks" (156 : Nat) ({ cls := "StoneWorks$Site", name := "gangAt", desc := "(I)LStoneWorks$Gang;" } : Jvm.MethodName)) ∈ WS := WS_of 775 (by decide +kernel) rfl
theorem tw_713 : (Jvm.Cond.methodLink "StoneWorksLaw" (71 : Nat) ({ cls := "StoneWorks", name := "plan", desc := "()I" } : Jvm.MethodName)) ∈ WS := WS_of 776 (by decide +kernel) rfl
theorem tw_714 : (Jvm.Cond.instanceMethod ({ cls := "StoneWorks", name := "plan", desc := "()I" } : Jvm.MethodName)) ∈ WS := WS_of 777 (by decide +kernel) rfl
theorem tw_715 : (Jvm.Cond.selects "StoneWorks" ({ cls := "StoneWorks", name := "plan", desc := "()I" } : Jvm.MethodName) ({ cls := "StoneWorks", name := "plan", desc := "()I" } : Jvm.MethodName)) ∈ WS := WS_of 778 (by decide +kernel) rfl
theorem tw_716 : (Jvm.Cond.code ({ cls := "StoneWorks", name := "plan", desc := "()I" } : Jvm.MethodName) prog_1_method_15_code (1 : Nat) (Option.some Jvm.ClassFile.FieldType.int)) ∈ WS := WS_of 779 (by decide +kernel) rfl
theorem tw_717 : (Jvm.Cond.methodLink "StoneWorks" (177 : Nat) ({ cls := "StoneWorks$Planner", name := "makePlan", desc := "()I" } : Jvm.MethodName)) ∈ WS := WS_of 780 (by decide +kernel) rfl
theorem tw_718 : (Jvm.Cond.instanceMethod ({ cls := "StoneWorks$Planner", name := "makePlan", desc := "()I" } : Jvm.MethodName)) ∈ WS := WS_of 781 (by decide +kernel) rfl
theorem tw_719 : (Jvm.Cond.selects "StoneWorks$Planner" ({ cls := "StoneWorks$Planner", name := "makePlan", desc := "()I" } : Jvm.MethodName) ({ cls := "StoneWorks$Planner", name := "makePlan", desc := "()I" } : Jvm.MethodName)) ∈ WS := WS_of 782 (by decide +kernel) rfl
theorem tw_720 : (Jvm.Cond.code ({ cls := "StoneWorks$Planner", name := "makePlan", desc := "()I" } : Jvm.MethodName) prog_3_method_3_code (1 : Nat) (Option.some Jvm.ClassFile.FieldType.int)) ∈ WS := WS_of 783 (by decide +kernel) rfl
theorem tw_721 : (Jvm.Cond.methodLink "StoneWorks$Planner" (75 : Nat) ({ cls := "StoneWorks$Planner", name := "gatherStones", desc := "()Z" } : Jvm.MethodName)) ∈ WS := WS_of 784 (by decide +kernel) rfl
theorem tw_723 : (Jvm.Cond.instanceMethod ({ cls := "StoneWorks$Planner", name := "gatherStones", desc := "()Z" } : Jvm.MethodName)) ∈ WS := WS_of 786 (by decide +kernel) rfl
theorem tw_724 : (Jvm.Cond.code ({ cls := "StoneWorks$Planner", name := "gatherStones", desc := "()Z" } : Jvm.MethodName) prog_3_method_4_code (3 : Nat) (Option.some Jvm.ClassFile.FieldType.boolean)) ∈ WS := WS_of 787 (by decide +kernel) rfl
theorem tw_725 : (Jvm.Cond.methodLink "StoneWorks$Planner" (104 : Nat) ({ cls := "StoneWorks$Site", name := "stoneAt", desc := "(I)LStoneWorks$Stone;" } : Jvm.MethodName)) ∈ WS := WS_of 788 (by decide +kernel) rfl
theorem tw_726 : (Jvm.Cond.methodLink "StoneWorks$Planner" (108 : Nat) ({ cls := "StoneWorks$Stone", name := "isDone", desc := "()Z" } : Jvm.MethodName)) ∈ WS := WS_of 789 (by decide +kernel) rfl
theorem tw_727 : (Jvm.Cond.methodLink "StoneWorks$Planner" (84 : Nat) ({ cls := "StoneWorks$Planner", name := "prepareWorks", desc := "()V" } : Jvm.MethodName)) ∈ WS := WS_of 790 (by decide +kernel) rfl
theorem tw_729 : (Jvm.Cond.instanceMethod ({ cls := "StoneWorks$Planner", name := "prepareWorks", desc := "()V" } : Jvm.MethodName)) ∈ WS := WS_of 792 (by decide +kernel) rfl
theorem tw_730 : (Jvm.Cond.code ({ cls := "StoneWorks$Planner", name := "prepareWorks", desc := "()V" } : Jvm.MethodName) prog_3_method_5_code (4 : Nat) (Option.none : Option Jvm.ClassFile.FieldType)) ∈ WS := WS_of 793 (by decide +kernel) rfl
theorem tw_731 : (Jvm.Cond.methodLink "StoneWorks$Planner" (120 : Nat) ({ cls := "StoneWorks$Site", name := "gangAt", desc := "(I)LStoneWorks$Gang;" } : Jvm.MethodName)) ∈ WS := WS_of 794 (by decide +kernel) rfl
theorem tw_732 : (Jvm.Cond.methodLink "StoneWorks$Planner" (124 : Nat) ({ cls := "StoneWorks$Planner", name := "leadOf", desc := "(LStoneWorks$Stone;LStoneWorks$Gang;)I" } : Jvm.MethodName)) ∈ WS := WS_of 795 (by decide +kernel) rfl
theorem tw_734 : (Jvm.Cond.instanceMethod ({ cls := "StoneWorks$Planner", name := "leadOf", desc := "(LStoneWorks$Stone;LStoneWorks$Gang;)I" } : Jvm.MethodName)) ∈ WS := WS_of 797 (by decide +kernel) rfl
theorem tw_735 : (Jvm.Cond.code ({ cls := "StoneWorks$Planner", name := "leadOf", desc := "(LStoneWorks$Stone;LStoneWorks$Gang;)I" } : Jvm.MethodName) prog_3_method_6_code (4 : Nat) (Option.some Jvm.ClassFile.FieldType.int)) ∈ WS := WS_of 798 (by decide +kernel) rfl
theorem tw_736 : (Jvm.Cond.methodLink "StoneWorks$Planner" (133 : Nat) ({ cls := "StoneWorks$Planner", name := "menWanted", desc := "(LStoneWorks$Stone;)I" } : Jvm.MethodName)) ∈ WS := WS_of 799 (by decide +kernel) rfl
theorem tw_738 : (Jvm.Cond.instanceMethod ({ cls := "StoneWorks$Planner", name := "menWanted", desc := "(LStoneWorks$Stone;)I" } : Jvm.MethodName)) ∈ WS := WS_of 801 (by decide +kernel) rfl
theorem tw_739 : (Jvm.Cond.code ({ cls := "StoneWorks$Planner", name := "menWanted", desc := "(LStoneWorks$Stone;)I" } : Jvm.MethodName) prog_3_method_7_code (4 : Nat) (Option.some Jvm.ClassFile.FieldType.int)) ∈ WS := WS_of 802 (by decide +kernel) rfl
theorem tw_740 : (Jvm.Cond.methodLink "StoneWorks$Planner" (156 : Nat) ({ cls := "StoneWorks$Table", name := "pullOfWeight", desc := "(II)I" } : Jvm.MethodName)) ∈ WS := WS_of 803 (by decide +kernel) rfl
theorem tw_741 : (Jvm.Cond.methodLink "StoneWorks$Planner" (159 : Nat) ({ cls := "java/lang/Math", name := "max", desc := "(II)I" } : Jvm.MethodName)) ∈ WS := WS_of 804 (by decide +kernel) rfl
theorem tw_742 : (Jvm.Cond.methodLink "StoneWorks$Planner" (146 : Nat) ({ cls := "StoneWorks$Table", name := "numberAt", desc := "(I)I" } : Jvm.MethodName)) ∈ WS := WS_of 805 (by decide +kernel) rfl
theorem tw_743 : (Jvm.Cond.methodLinkNest "StoneWorks$Planner" (152 : Nat) ({ cls := "StoneWorks", name := "upwards", desc := "(II)I" } : Jvm.MethodName) "StoneWorks") ∈ lw_tbl := List.mem_of_getElem? (i := 806) (by decide +kernel)
theorem tw_744 : (Jvm.Cond.methodLink "StoneWorks$Planner" (87 : Nat) ({ cls := "StoneWorks$Planner", name := "findFloor", desc := "()Z" } : Jvm.MethodName)) ∈ WS := WS_of 807 (by decide +kernel) rfl
theorem tw_746 : (Jvm.Cond.instanceMethod ({ cls := "StoneWorks$Planner", name := "findFloor", desc := "()Z" } : Jvm.MethodName)) ∈ WS := WS_of 809 (by decide +kernel) rfl
theorem tw_747 : (Jvm.Cond.code ({ cls := "StoneWorks$Planner", name := "findFloor", desc := "()Z" } : Jvm.MethodName) prog_3_method_10_code (5 : Nat) (Option.some Jvm.ClassFile.FieldType.boolean)) ∈ WS := WS_of 810 (by decide +kernel) rfl
theorem tw_748 : (Jvm.Cond.methodLink "StoneWorks$Planner" (169 : Nat) ({ cls := "StoneWorks$Planner", name := "readyDay", desc := "(II)I" } : Jvm.MethodName)) ∈ WS := WS_of 811 (by decide +kernel) rfl
theorem tw_750 : (Jvm.Cond.instanceMethod ({ cls := "StoneWorks$Planner", name := "readyDay", desc := "(II)I" } : Jvm.MethodName)) ∈ WS := WS_of 813 (by decide +kernel) rfl
theorem tw_751 : (Jvm.Cond.code ({ cls := "StoneWorks$Planner", name := "readyDay", desc := "(II)I" } : Jvm.MethodName) prog_3_method_8_code (6 : Nat) (Option.some Jvm.ClassFile.FieldType.int)) ∈ WS := WS_of 814 (by decide +kernel) rfl
theorem tw_752 : (Jvm.Cond.methodLink "StoneWorks$Planner" (164 : Nat) ({ cls := "StoneWorks$Seasons", name := "firstRaftDay", desc := "(II)I" } : Jvm.MethodName)) ∈ WS := WS_of 815 (by decide +kernel) rfl
theorem tw_753 : (Jvm.Cond.instanceMethod ({ cls := "StoneWorks$Seasons", name := "firstRaftDay", desc := "(II)I" } : Jvm.MethodName)) ∈ WS := WS_of 816 (by decide +kernel) rfl
theorem tw_754 : (Jvm.Cond.selects "StoneWorks$Seasons" ({ cls := "StoneWorks$Seasons", name := "firstRaftDay", desc := "(II)I" } : Jvm.MethodName) ({ cls := "StoneWorks$Seasons", name := "firstRaftDay", desc := "(II)I" } : Jvm.MethodName)) ∈ WS := WS_of 817 (by decide +kernel) rfl
theorem tw_755 : (Jvm.Cond.code ({ cls := "StoneWorks$Seasons", name := "firstRaftDay", desc := "(II)I" } : Jvm.MethodName) prog_4_method_5_code (5 : Nat) (Option.some Jvm.ClassFile.FieldType.int)) ∈ WS := WS_of 818 (by decide +kernel) rfl
theorem tw_756 : (Jvm.Cond.methodLink "StoneWorks$Planner" (172 : Nat) ({ cls := "java/lang/Math", name := "min", desc := "(II)I" } : Jvm.MethodName)) ∈ WS := WS_of 819 (by decide +kernel) rfl
theorem tw_757 : (Jvm.Cond.methodLink "StoneWorks$Planner" (90 : Nat) ({ cls := "StoneWorks$Planner", name := "seekLeast", desc := "(III)V" } : Jvm.MethodName)) ∈ WS := WS_of 820 (by decide +kernel) rfl
theorem tw_759 : (Jvm.Cond.instanceMethod ({ cls := "StoneWorks$Planner", name := "seekLeast", desc := "(III)V" } : Jvm.MethodName)) ∈ WS := WS_of 822 (by decide +kernel) rfl
theorem tw_760 : (Jvm.Cond.code ({ cls := "StoneWorks$Planner", name := "seekLeast", desc := "(III)V" } : Jvm.MethodName) prog_3_method_13_code (7 : Nat) (Option.none : Option Jvm.ClassFile.FieldType)) ∈ WS := WS_of 823 (by decide +kernel) rfl
theorem tw_761 : (Jvm.Cond.methodLink "StoneWorks$Planner" (175 : Nat) ({ cls := "StoneWorks$Planner", name := "mayComeNext", desc := "(II)Z" } : Jvm.MethodName)) ∈ WS := WS_of 824 (by decide +kernel) rfl
theorem tw_763 : (Jvm.Cond.instanceMethod ({ cls := "StoneWorks$Planner", name := "mayComeNext", desc := "(II)Z" } : Jvm.MethodName)) ∈ WS := WS_of 826 (by decide +kernel) rfl
theorem tw_764 : (Jvm.Cond.code ({ cls := "StoneWorks$Planner", name := "mayComeNext", desc := "(II)Z" } : Jvm.MethodName) prog_3_method_14_code (3 : Nat) (Option.some Jvm.ClassFile.FieldType.boolean)) ∈ WS := WS_of 827 (by decide +kernel) rfl
theorem tw_765 : (Jvm.Cond.methodLink "StoneWorks$Planner" (178 : Nat) ({ cls := "StoneWorks$Planner", name := "leastTaker", desc := "(II)I" } : Jvm.MethodName)) ∈ WS := WS_of 828 (by decide +kernel) rfl
theorem tw_767 : (Jvm.Cond.instanceMethod ({ cls := "StoneWorks$Planner", name := "leastTaker", desc := "(II)I" } : Jvm.MethodName)) ∈ WS := WS_of 830 (by decide +kernel) rfl
theorem tw_768 : (Jvm.Cond.code ({ cls := "StoneWorks$Planner", name := "leastTaker", desc := "(II)I" } : Jvm.MethodName) prog_3_method_15_code (4 : Nat) (Option.some Jvm.ClassFile.FieldType.int)) ∈ WS := WS_of 831 (by decide +kernel) rfl
theorem tw_769 : (Jvm.Cond.methodLink "StoneWorks$Planner" (181 : Nat) ({ cls := "StoneWorks$Planner", name := "layDay", desc := "(II)I" } : Jvm.MethodName)) ∈ WS := WS_of 832 (by decide +kernel) rfl
theorem tw_771 : (Jvm.Cond.instanceMethod ({ cls := "StoneWorks$Planner", name := "layDay", desc := "(II)I" } : Jvm.MethodName)) ∈ WS := WS_of 834 (by decide +kernel) rfl
theorem tw_772 : (Jvm.Cond.code ({ cls := "StoneWorks$Planner", name := "layDay", desc := "(II)I" } : Jvm.MethodName) prog_3_method_9_code (5 : Nat) (Option.some Jvm.ClassFile.FieldType.int)) ∈ WS := WS_of 835 (by decide +kernel) rfl
theorem tw_773 : (Jvm.Cond.methodLink "StoneWorks$Planner" (184 : Nat) ({ cls := "StoneWorks$Planner", name := "place", desc := "(III)V" } : Jvm.MethodName)) ∈ WS := WS_of 836 (by decide +kernel) rfl
theorem tw_775 : (Jvm.Cond.instanceMethod ({ cls := "StoneWorks$Planner", name := "place", desc := "(III)V" } : Jvm.MethodName)) ∈ WS := WS_of 838 (by decide +kernel) rfl
theorem tw_776 : (Jvm.Cond.code ({ cls := "StoneWorks$Planner", name := "place", desc := "(III)V" } : Jvm.MethodName) prog_3_method_11_code (4 : Nat) (Option.none : Option Jvm.ClassFile.FieldType)) ∈ WS := WS_of 839 (by decide +kernel) rfl
theorem tw_777 : (Jvm.Cond.methodLink "StoneWorks$Planner" (187 : Nat) ({ cls := "StoneWorks$Planner", name := "takeBack", desc := "(II)V" } : Jvm.MethodName)) ∈ WS := WS_of 840 (by decide +kernel) rfl
theorem tw_779 : (Jvm.Cond.instanceMethod ({ cls := "StoneWorks$Planner", name := "takeBack", desc := "(II)V" } : Jvm.MethodName)) ∈ WS := WS_of 842 (by decide +kernel) rfl
theorem tw_780 : (Jvm.Cond.code ({ cls := "StoneWorks$Planner", name := "takeBack", desc := "(II)V" } : Jvm.MethodName) prog_3_method_12_code (3 : Nat) (Option.none : Option Jvm.ClassFile.FieldType)) ∈ WS := WS_of 843 (by decide +kernel) rfl
theorem tw_781 : (Jvm.Cond.methodLink "StoneWorks$Planner" (94 : Nat) ({ cls := "StoneWorks$Planner", name := "seekOrder", desc := "(II)Z" } : Jvm.MethodName)) ∈ WS := WS_of 844 (by decide +kernel) rfl
theorem tw_783 : (Jvm.Cond.instanceMethod ({ cls := "StoneWorks$Planner", name := "seekOrder", desc := "(II)Z" } : Jvm.MethodName)) ∈ WS := WS_of 846 (by decide +kernel) rfl
theorem tw_784 : (Jvm.Cond.code ({ cls := "StoneWorks$Planner", name := "seekOrder", desc := "(II)Z" } : Jvm.MethodName) prog_3_method_16_code (4 : Nat) (Option.some Jvm.ClassFile.FieldType.boolean)) ∈ WS := WS_of 847 (by decide +kernel) rfl
theorem tw_785 : (Jvm.Cond.methodLink "StoneWorks$Planner" (191 : Nat) ({ cls := "StoneWorks$Planner", name := "seekGangs", desc := "(I)Z" } : Jvm.MethodName)) ∈ WS := WS_of 848 (by decide +kernel) rfl
theorem tw_787 : (Jvm.Cond.instanceMethod ({ cls := "StoneWorks$Planner", name := "seekGangs", desc := "(I)Z" } : Jvm.MethodName)) ∈ WS := WS_of 850 (by decide +kernel) rfl
theorem tw_788 : (Jvm.Cond.code ({ cls := "StoneWorks$Planner", name := "seekGangs", desc := "(I)Z" } : Jvm.MethodName) prog_3_method_17_code (5 : Nat) (Option.some Jvm.ClassFile.FieldType.boolean)) ∈ WS := WS_of 851 (by decide +kernel) rfl
theorem tw_789 : (Jvm.Cond.methodLink "StoneWorks$Planner" (98 : Nat) ({ cls := "StoneWorks$Planner", name := "keepPlan", desc := "()V" } : Jvm.MethodName)) ∈ WS := WS_of 852 (by decide +kernel) rfl
theorem tw_791 : (Jvm.Cond.instanceMethod ({ cls := "StoneWorks$Planner", name := "keepPlan", desc := "()V" } : Jvm.MethodName)) ∈ WS := WS_of 854 (by decide +kernel) rfl
theorem tw_792 : (Jvm.Cond.code ({ cls := "StoneWorks$Planner", name := "keepPlan", desc := "()V" } : Jvm.MethodName) prog_3_method_18_code (3 : Nat) (Option.none : Option Jvm.ClassFile.FieldType)) ∈ WS := WS_of 855 (by decide +kernel) rfl
theorem tw_793 : (Jvm.Cond.methodLink "StoneWorksLaw" (75 : Nat) ({ cls := "StoneWorks", name := "planned", desc := "(II)I" } : Jvm.MethodName)) ∈ WS := WS_of 856 (by decide +kernel) rfl
theorem tw_794 : (Jvm.Cond.instanceMethod ({ cls := "StoneWorks", name := "planned", desc := "(II)I" } : Jvm.MethodName)) ∈ WS := WS_of 857 (by decide +kernel) rfl
theorem tw_795 : (Jvm.Cond.selects "StoneWorks" ({ cls := "StoneWorks", name := "planned", desc := "(II)I" } : Jvm.MethodName) ({ cls := "StoneWorks", name := "planned", desc := "(II)I" } : Jvm.MethodName)) ∈ WS := WS_of 858 (by decide +kernel) rfl
theorem tw_796 : (Jvm.Cond.code ({ cls := "StoneWorks", name := "planned", desc := "(II)I" } : Jvm.MethodName) prog_1_method_16_code (3 : Nat) (Option.some Jvm.ClassFile.FieldType.int)) ∈ WS := WS_of 859 (by decide +kernel) rfl
theorem tw_797 : (Jvm.Cond.methodLink "StoneWorks" (180 : Nat) ({ cls := "StoneWorks$Planner", name := "tell", desc := "(II)I" } : Jvm.MethodName)) ∈ WS := WS_of 860 (by decide +kernel) rfl
theorem tw_798 : (Jvm.Cond.instanceMethod ({ cls := "StoneWorks$Planner", name := "tell", desc := "(II)I" } : Jvm.MethodName)) ∈ WS := WS_of 861 (by decide +kernel) rfl
theorem tw_799 : (Jvm.Cond.selects "StoneWorks$Planner" ({ cls := "StoneWorks$Planner", name := "tell", desc := "(II)I" } : Jvm.MethodName) ({ cls := "StoneWorks$Planner", name := "tell", desc := "(II)I" } : Jvm.MethodName)) ∈ WS := WS_of 862 (by decide +kernel) rfl
theorem tw_800 : (Jvm.Cond.code ({ cls := "StoneWorks$Planner", name := "tell", desc := "(II)I" } : Jvm.MethodName) prog_3_method_2_code (3 : Nat) (Option.some Jvm.ClassFile.FieldType.int)) ∈ WS := WS_of 863 (by decide +kernel) rfl
theorem tw_801 : (Jvm.Cond.methodLink "StoneWorksLaw" (79 : Nat) ({ cls := "StoneWorks", name := "tally", desc := "(IIII)I" } : Jvm.MethodName)) ∈ WS := WS_of 864 (by decide +kernel) rfl
theorem tw_802 : (Jvm.Cond.instanceMethod ({ cls := "StoneWorks", name := "tally", desc := "(IIII)I" } : Jvm.MethodName)) ∈ WS := WS_of 865 (by decide +kernel) rfl
theorem tw_803 : (Jvm.Cond.selects "StoneWorks" ({ cls := "StoneWorks", name := "tally", desc := "(IIII)I" } : Jvm.MethodName) ({ cls := "StoneWorks", name := "tally", desc := "(IIII)I" } : Jvm.MethodName)) ∈ WS := WS_of 866 (by decide +kernel) rfl
theorem tw_804 : (Jvm.Cond.code ({ cls := "StoneWorks", name := "tally", desc := "(IIII)I" } : Jvm.MethodName) prog_1_method_17_code (5 : Nat) (Option.some Jvm.ClassFile.FieldType.int)) ∈ WS := WS_of 867 (by decide +kernel) rfl
theorem tw_805 : (Jvm.Cond.methodLink "StoneWorks" (183 : Nat) ({ cls := "StoneWorks$Tallies", name := "addTally", desc := "(IIII)I" } : Jvm.MethodName)) ∈ WS := WS_of 868 (by decide +kernel) rfl
theorem tw_806 : (Jvm.Cond.instanceMethod ({ cls := "StoneWorks$Tallies", name := "addTally", desc := "(IIII)I" } : Jvm.MethodName)) ∈ WS := WS_of 869 (by decide +kernel) rfl
theorem tw_807 : (Jvm.Cond.selects "StoneWorks$Tallies" ({ cls := "StoneWorks$Tallies", name := "addTally", desc := "(IIII)I" } : Jvm.MethodName) ({ cls := "StoneWorks$Tallies", name := "addTally", desc := "(IIII)I" } : Jvm.MethodName)) ∈ WS := WS_of 870 (by decide +kernel) rfl
theorem tw_808 : (Jvm.Cond.code ({ cls := "StoneWorks$Tallies", name := "addTally", desc := "(IIII)I" } : Jvm.MethodName) prog_10_method_2_code (5 : Nat) (Option.some Jvm.ClassFile.FieldType.int)) ∈ WS := WS_of 871 (by decide +kernel) rfl
theorem tw_809 : (Jvm.Cond.methodLinkNest "StoneWorks$Tallies" (53 : Nat) ({ cls := "StoneWorks", name := "isDay", desc := "(I)Z" } : Jvm.MethodName) "StoneWorks") ∈ lw_tbl := List.mem_of_getElem? (i := 872) (by decide +kernel)
theorem tw_810 : (Jvm.Cond.methodLink "StoneWorksLaw" (84 : Nat) ({ cls := "StoneWorks", name := "isTrue", desc := "(I)I" } : Jvm.MethodName)) ∈ WS := WS_of 873 (by decide +kernel) rfl
theorem tw_811 : (Jvm.Cond.instanceMethod ({ cls := "StoneWorks", name := "isTrue", desc := "(I)I" } : Jvm.MethodName)) ∈ WS := WS_of 874 (by decide +kernel) rfl
theorem tw_812 : (Jvm.Cond.selects "StoneWorks" ({ cls := "StoneWorks", name := "isTrue", desc := "(I)I" } : Jvm.MethodName) ({ cls := "StoneWorks", name := "isTrue", desc := "(I)I" } : Jvm.MethodName)) ∈ WS := WS_of 875 (by decide +kernel) rfl
theorem tw_813 : (Jvm.Cond.code ({ cls := "StoneWorks", name := "isTrue", desc := "(I)I" } : Jvm.MethodName) prog_1_method_18_code (2 : Nat) (Option.some Jvm.ClassFile.FieldType.int)) ∈ WS := WS_of 876 (by decide +kernel) rfl
theorem tw_814 : (Jvm.Cond.methodLink "StoneWorks" (187 : Nat) ({ cls := "StoneWorks$Tallies", name := "tellTruth", desc := "(I)I" } : Jvm.MethodName)) ∈ WS := WS_of 877 (by decide +kernel) rfl
theorem tw_815 : (Jvm.Cond.instanceMethod ({ cls := "StoneWorks$Tallies", name := "tellTruth", desc := "(I)I" } : Jvm.MethodName)) ∈ WS := WS_of 878 (by decide +kernel) rfl
theorem tw_816 : (Jvm.Cond.selects "StoneWorks$Tallies" ({ cls := "StoneWorks$Tallies", name := "tellTruth", desc := "(I)I" } : Jvm.MethodName) ({ cls := "StoneWorks$Tallies", name := "tellTruth", desc := "(I)I" } : Jvm.MethodName)) ∈ WS := WS_of 879 (by decide +kernel) rfl
theorem tw_817 : (Jvm.Cond.code ({ cls := "StoneWorks$Tallies", name := "tellTruth", desc := "(I)I" } : Jvm.MethodName) prog_10_method_3_code (2 : Nat) (Option.some Jvm.ClassFile.FieldType.int)) ∈ WS := WS_of 880 (by decide +kernel) rfl
theorem tw_818 : (Jvm.Cond.methodLink "StoneWorks$Tallies" (57 : Nat) ({ cls := "StoneWorks$Site", name := "stonesLaidBy", desc := "(III)I" } : Jvm.MethodName)) ∈ WS := WS_of 881 (by decide +kernel) rfl
theorem tw_819 : (Jvm.Cond.instanceMethod ({ cls := "StoneWorks$Site", name := "stonesLaidBy", desc := "(III)I" } : Jvm.MethodName)) ∈ WS := WS_of 882 (by decide +kernel) rfl
theorem tw_820 : (Jvm.Cond.selects "StoneWorks$Site" ({ cls := "StoneWorks$Site", name := "stonesLaidBy", desc := "(III)I" } : Jvm.MethodName) ({ cls := "StoneWorks$Site", name := "stonesLaidBy", desc := "(III)I" } : Jvm.MethodName)) ∈ WS := WS_of 883 (by decide +kernel) rfl
theorem tw_821 : (Jvm.Cond.code ({ cls := "StoneWorks$Site", name := "stonesLaidBy", desc := "(III)I" } : Jvm.MethodName) prog_5_method_7_code (7 : Nat) (Option.some Jvm.ClassFile.FieldType.int)) ∈ WS := WS_of 884 (by decide +kernel) rfl
theorem tw_822 : (Jvm.Cond.methodLink "StoneWorksLaw" (88 : Nat) ({ cls := "StoneWorks", name := "quarrel", desc := "()I" } : Jvm.MethodName)) ∈ WS := WS_of 885 (by decide +kernel) rfl
theorem tw_823 : (Jvm.Cond.instanceMethod ({ cls := "StoneWorks", name := "quarrel", desc := "()I" } : Jvm.MethodName)) ∈ WS := WS_of 886 (by decide +kernel) rfl
theorem tw_824 : (Jvm.Cond.selects "StoneWorks" ({ cls := "StoneWorks", name := "quarrel", desc := "()I" } : Jvm.MethodName) ({ cls := "StoneWorks", name := "quarrel", desc := "()I" } : Jvm.MethodName)) ∈ WS := WS_of 887 (by decide +kernel) rfl
theorem tw_825 : (Jvm.Cond.code ({ cls := "StoneWorks", name := "quarrel", desc := "()I" } : Jvm.MethodName) prog_1_method_19_code (1 : Nat) (Option.some Jvm.ClassFile.FieldType.int)) ∈ WS := WS_of 888 (by decide +kernel) rfl
theorem tw_826 : (Jvm.Cond.methodLink "StoneWorks" (190 : Nat) ({ cls := "StoneWorks$Tallies", name := "quarrelSize", desc := "()I" } : Jvm.MethodName)) ∈ WS := WS_of 889 (by decide +kernel) rfl
theorem tw_827 : (Jvm.Cond.instanceMethod ({ cls := "StoneWorks$Tallies", name := "quarrelSize", desc := "()I" } : Jvm.MethodName)) ∈ WS := WS_of 890 (by decide +kernel) rfl
theorem tw_828 : (Jvm.Cond.selects "StoneWorks$Tallies" ({ cls := "StoneWorks$Tallies", name := "quarrelSize", desc := "()I" } : Jvm.MethodName) ({ cls := "StoneWorks$Tallies", name := "quarrelSize", desc := "()I" } : Jvm.MethodName)) ∈ WS := WS_of 891 (by decide +kernel) rfl
theorem tw_829 : (Jvm.Cond.code ({ cls := "StoneWorks$Tallies", name := "quarrelSize", desc := "()I" } : Jvm.MethodName) prog_10_method_4_code (1 : Nat) (Option.some Jvm.ClassFile.FieldType.int)) ∈ WS := WS_of 892 (by decide +kernel) rfl
theorem tw_830 : (Jvm.Cond.methodLink "StoneWorks$Tallies" (63 : Nat) ({ cls := "StoneWorks$Tallies", name := "judge", desc := "()V" } : Jvm.MethodName)) ∈ WS := WS_of 893 (by decide +kernel) rfl
theorem tw_832 : (Jvm.Cond.instanceMethod ({ cls := "StoneWorks$Tallies", name := "judge", desc := "()V" } : Jvm.MethodName)) ∈ WS := WS_of 895 (by decide +kernel) rfl
theorem tw_833 : (Jvm.Cond.code ({ cls := "StoneWorks$Tallies", name := "judge", desc := "()V" } : Jvm.MethodName) prog_10_method_6_code (4 : Nat) (Option.none : Option Jvm.ClassFile.FieldType)) ∈ WS := WS_of 896 (by decide +kernel) rfl
theorem tw_834 : (Jvm.Cond.methodLink "StoneWorks$Tallies" (72 : Nat) ({ cls := "StoneWorks$Tallies", name := "agree", desc := "(I)Z" } : Jvm.MethodName)) ∈ WS := WS_of 897 (by decide +kernel) rfl
theorem tw_836 : (Jvm.Cond.instanceMethod ({ cls := "StoneWorks$Tallies", name := "agree", desc := "(I)Z" } : Jvm.MethodName)) ∈ WS := WS_of 899 (by decide +kernel) rfl
theorem tw_837 : (Jvm.Cond.code ({ cls := "StoneWorks$Tallies", name := "agree", desc := "(I)Z" } : Jvm.MethodName) prog_10_method_7_code (3 : Nat) (Option.some Jvm.ClassFile.FieldType.boolean)) ∈ WS := WS_of 900 (by decide +kernel) rfl
theorem tw_838 : (Jvm.Cond.methodLink "StoneWorks$Tallies" (75 : Nat) ({ cls := "StoneWorks$Tallies", name := "agreeOnGang", desc := "(II)Z" } : Jvm.MethodName)) ∈ WS := WS_of 901 (by decide +kernel) rfl
theorem tw_840 : (Jvm.Cond.instanceMethod ({ cls := "StoneWorks$Tallies", name := "agreeOnGang", desc := "(II)Z" } : Jvm.MethodName)) ∈ WS := WS_of 903 (by decide +kernel) rfl
theorem tw_841 : (Jvm.Cond.code ({ cls := "StoneWorks$Tallies", name := "agreeOnGang", desc := "(II)Z" } : Jvm.MethodName) prog_10_method_8_code (5 : Nat) (Option.some Jvm.ClassFile.FieldType.boolean)) ∈ WS := WS_of 904 (by decide +kernel) rfl
theorem tw_842 : (Jvm.Cond.methodLink "StoneWorks$Tallies" (79 : Nat) ({ cls := "StoneWorks$Tallies", name := "addBorder", desc := "(I)V" } : Jvm.MethodName)) ∈ WS := WS_of 905 (by decide +kernel) rfl
theorem tw_844 : (Jvm.Cond.instanceMethod ({ cls := "StoneWorks$Tallies", name := "addBorder", desc := "(I)V" } : Jvm.MethodName)) ∈ WS := WS_of 907 (by decide +kernel) rfl
theorem tw_845 : (Jvm.Cond.code ({ cls := "StoneWorks$Tallies", name := "addBorder", desc := "(I)V" } : Jvm.MethodName) prog_10_method_9_code (3 : Nat) (Option.none : Option Jvm.ClassFile.FieldType)) ∈ WS := WS_of 908 (by decide +kernel) rfl
theorem tw_846 : (Jvm.Cond.methodLink "StoneWorks$Tallies" (89 : Nat) ({ cls := "StoneWorks$Tallies", name := "borderAt", desc := "(I)I" } : Jvm.MethodName)) ∈ WS := WS_of 909 (by decide +kernel) rfl
theorem tw_848 : (Jvm.Cond.instanceMethod ({ cls := "StoneWorks$Tallies", name := "borderAt", desc := "(I)I" } : Jvm.MethodName)) ∈ WS := WS_of 911 (by decide +kernel) rfl
theorem tw_849 : (Jvm.Cond.code ({ cls := "StoneWorks$Tallies", name := "borderAt", desc := "(I)I" } : Jvm.MethodName) prog_10_method_10_code (3 : Nat) (Option.some Jvm.ClassFile.FieldType.int)) ∈ WS := WS_of 912 (by decide +kernel) rfl
theorem tw_850 : (Jvm.Cond.methodLink "StoneWorks$Tallies" (83 : Nat) ({ cls := "StoneWorks$Tallies", name := "findBorders", desc := "(I)V" } : Jvm.MethodName)) ∈ WS := WS_of 913 (by decide +kernel) rfl
theorem tw_852 : (Jvm.Cond.instanceMethod ({ cls := "StoneWorks$Tallies", name := "findBorders", desc := "(I)V" } : Jvm.MethodName)) ∈ WS := WS_of 915 (by decide +kernel) rfl
theorem tw_853 : (Jvm.Cond.code ({ cls := "StoneWorks$Tallies", name := "findBorders", desc := "(I)V" } : Jvm.MethodName) prog_10_method_11_code (3 : Nat) (Option.none : Option Jvm.ClassFile.FieldType)) ∈ WS := WS_of 916 (by decide +kernel) rfl
theorem tw_854 : (Jvm.Cond.methodLink "StoneWorks$Tallies" (92 : Nat) ({ cls := "java/lang/Math", name := "max", desc := "(II)I" } : Jvm.MethodName)) ∈ WS := WS_of 917 (by decide +kernel) rfl
theorem tw_855 : (Jvm.Cond.methodLink "StoneWorks$Tallies" (86 : Nat) ({ cls := "StoneWorks$Tallies", name := "raiseNumbers", desc := "(I)Z" } : Jvm.MethodName)) ∈ WS := WS_of 918 (by decide +kernel) rfl
theorem tw_857 : (Jvm.Cond.instanceMethod ({ cls := "StoneWorks$Tallies", name := "raiseNumbers", desc := "(I)Z" } : Jvm.MethodName)) ∈ WS := WS_of 920 (by decide +kernel) rfl
theorem tw_858 : (Jvm.Cond.code ({ cls := "StoneWorks$Tallies", name := "raiseNumbers", desc := "(I)Z" } : Jvm.MethodName) prog_10_method_12_code (4 : Nat) (Option.some Jvm.ClassFile.FieldType.boolean)) ∈ WS := WS_of 921 (by decide +kernel) rfl
theorem tw_859 : (Jvm.Cond.methodLink "StoneWorks$Tallies" (98 : Nat) ({ cls := "StoneWorks$Tallies", name := "raiseTo", desc := "(II)Z" } : Jvm.MethodName)) ∈ WS := WS_of 922 (by decide +kernel) rfl
theorem tw_861 : (Jvm.Cond.instanceMethod ({ cls := "StoneWorks$Tallies", name := "raiseTo", desc := "(II)Z" } : Jvm.MethodName)) ∈ WS := WS_of 924 (by decide +kernel) rfl
theorem tw_862 : (Jvm.Cond.code ({ cls := "StoneWorks$Tallies", name := "raiseTo", desc := "(II)Z" } : Jvm.MethodName) prog_10_method_13_code (3 : Nat) (Option.some Jvm.ClassFile.FieldType.boolean)) ∈ WS := WS_of 925 (by decide +kernel) rfl
theorem tw_863 : (Jvm.Cond.methodLink "StoneWorks$Tallies" (66 : Nat) ({ cls := "java/lang/Integer", name := "bitCount", desc := "(I)I" } : Jvm.MethodName)) ∈ WS := WS_of 926 (by decide +kernel) rfl
theorem tw_864 : (Jvm.Cond.static ({ cls := "java/lang/Integer", name := "bitCount", desc := "(I)I" } : Jvm.MethodName)) ∈ WS := WS_of 927 (by decide +kernel) rfl
theorem tw_865 : (Jvm.Cond.code ({ cls := "java/lang/Integer", name := "bitCount", desc := "(I)I" } : Jvm.MethodName) prog_14_method_49_code (1 : Nat) (Option.some Jvm.ClassFile.FieldType.int)) ∈ WS := WS_of 928 (by decide +kernel) rfl
theorem tw_866 : (Jvm.Cond.constant "java/lang/Integer" (265 : Nat) (1431655765 : Int32)) ∈ WS := WS_of 929 (by decide +kernel) rfl
theorem tw_867 : (Jvm.Cond.constant "java/lang/Integer" (266 : Nat) (858993459 : Int32)) ∈ WS := WS_of 930 (by decide +kernel) rfl
theorem tw_868 : (Jvm.Cond.constant "java/lang/Integer" (267 : Nat) (252645135 : Int32)) ∈ WS := WS_of 931 (by decide +kernel) rfl
theorem tw_869 : (Jvm.Cond.methodLink "StoneWorksLaw" (92 : Nat) ({ cls := "StoneWorks", name := "quarrels", desc := "(I)I" } : Jvm.MethodName)) ∈ WS := WS_of 932 (by decide +kernel) rfl
theorem tw_870 : (Jvm.Cond.instanceMethod ({ cls := "StoneWorks", name := "quarrels", desc := "(I)I" } : Jvm.MethodName)) ∈ WS := WS_of 933 (by decide +kernel) rfl
theorem tw_871 : (Jvm.Cond.selects "StoneWorks" ({ cls := "StoneWorks", name := "quarrels", desc := "(I)I" } : Jvm.MethodName) ({ cls := "StoneWorks", name := "quarrels", desc := "(I)I" } : Jvm.MethodName)) ∈ WS := WS_of 934 (by decide +kernel) rfl
theorem tw_872 : (Jvm.Cond.code ({ cls := "StoneWorks", name := "quarrels", desc := "(I)I" } : Jvm.MethodName) prog_1_method_20_code (2 : Nat) (Option.some Jvm.ClassFile.FieldType.int)) ∈ WS := WS_of 935 (by decide +kernel) rfl
theorem tw_873 : (Jvm.Cond.methodLink "StoneWorks" (193 : Nat) ({ cls := "StoneWorks$Tallies", name := "quarrelMember", desc := "(I)I" } : Jvm.MethodName)) ∈ WS := WS_of 936 (by decide +kernel) rfl
theorem tw_874 : (Jvm.Cond.instanceMethod ({ cls := "StoneWorks$Tallies", name := "quarrelMember", desc := "(I)I" } : Jvm.MethodName)) ∈ WS := WS_of 937 (by decide +kernel) rfl
theorem tw_875 : (Jvm.Cond.selects "StoneWorks$Tallies" ({ cls := "StoneWorks$Tallies", name := "quarrelMember", desc := "(I)I" } : Jvm.MethodName) ({ cls := "StoneWorks$Tallies", name := "quarrelMember", desc := "(I)I" } : Jvm.MethodName)) ∈ WS := WS_of 938 (by decide +kernel) rfl
theorem tw_876 : (Jvm.Cond.code ({ cls := "StoneWorks$Tallies", name := "quarrelMember", desc := "(I)I" } : Jvm.MethodName) prog_10_method_5_code (4 : Nat) (Option.some Jvm.ClassFile.FieldType.int)) ∈ WS := WS_of 939 (by decide +kernel) rfl
theorem tw_877 : (Jvm.Cond.methodLink "StoneWorksLaw" (96 : Nat) ({ cls := "StoneWorks", name := "count", desc := "(I)I" } : Jvm.MethodName)) ∈ WS := WS_of 940 (by decide +kernel) rfl
theorem tw_878 : (Jvm.Cond.instanceMethod ({ cls := "StoneWorks", name := "count", desc := "(I)I" } : Jvm.MethodName)) ∈ WS := WS_of 941 (by decide +kernel) rfl
theorem tw_879 : (Jvm.Cond.selects "StoneWorks" ({ cls := "StoneWorks", name := "count", desc := "(I)I" } : Jvm.MethodName) ({ cls := "StoneWorks", name := "count", desc := "(I)I" } : Jvm.MethodName)) ∈ WS := WS_of 942 (by decide +kernel) rfl
theorem tw_880 : (Jvm.Cond.code ({ cls := "StoneWorks", name := "count", desc := "(I)I" } : Jvm.MethodName) prog_1_method_21_code (2 : Nat) (Option.some Jvm.ClassFile.FieldType.int)) ∈ WS := WS_of 943 (by decide +kernel) rfl
theorem tw_881 : (Jvm.Cond.methodLink "StoneWorks" (208 : Nat) ({ cls := "StoneWorks$Site", name := "stonesThatAre", desc := "(I)I" } : Jvm.MethodName)) ∈ WS := WS_of 944 (by decide +kernel) rfl
theorem tw_882 : (Jvm.Cond.instanceMethod ({ cls := "StoneWorks$Site", name := "stonesThatAre", desc := "(I)I" } : Jvm.MethodName)) ∈ WS := WS_of 945 (by decide +kernel) rfl
theorem tw_883 : (Jvm.Cond.selects "StoneWorks$Site" ({ cls := "StoneWorks$Site", name := "stonesThatAre", desc := "(I)I" } : Jvm.MethodName) ({ cls := "StoneWorks$Site", name := "stonesThatAre", desc := "(I)I" } : Jvm.MethodName)) ∈ WS := WS_of 946 (by decide +kernel) rfl
theorem tw_884 : (Jvm.Cond.code ({ cls := "StoneWorks$Site", name := "stonesThatAre", desc := "(I)I" } : Jvm.MethodName) prog_5_method_6_code (4 : Nat) (Option.some Jvm.ClassFile.FieldType.int)) ∈ WS := WS_of 947 (by decide +kernel) rfl
theorem tw_885 : (Jvm.Cond.methodLink "StoneWorks" (223 : Nat) ({ cls := "StoneWorks$Table", name := "numberAt", desc := "(I)I" } : Jvm.MethodName)) ∈ WS := WS_of 948 (by decide +kernel) rfl
theorem tw_886 : (Jvm.Cond.classLink "StoneWorksLaw" (10 : Nat) "StoneWorksModel") ∈ WS := WS_of 949 (by decide +kernel) rfl
theorem tw_887 : (Jvm.Cond.instantiable "StoneWorksModel" (54 : Nat)) ∈ WS := WS_of 950 (by decide +kernel) rfl
theorem tw_888 : (Jvm.Cond.methodLink "StoneWorksLaw" (12 : Nat) ({ cls := "StoneWorksModel", name := "<init>", desc := "()V" } : Jvm.MethodName)) ∈ WS := WS_of 951 (by decide +kernel) rfl
theorem tw_889 : (Jvm.Cond.instanceMethod ({ cls := "StoneWorksModel", name := "<init>", desc := "()V" } : Jvm.MethodName)) ∈ WS := WS_of 952 (by decide +kernel) rfl
theorem tw_890 : (Jvm.Cond.code ({ cls := "StoneWorksModel", name := "<init>", desc := "()V" } : Jvm.MethodName) prog_13_method_1_code (2 : Nat) (Option.none : Option Jvm.ClassFile.FieldType)) ∈ WS := WS_of 953 (by decide +kernel) rfl
theorem tw_891 : (Jvm.Cond.methodLink "StoneWorksModel" (1 : Nat) ({ cls := "java/lang/Object", name := "<init>", desc := "()V" } : Jvm.MethodName)) ∈ WS := WS_of 954 (by decide +kernel) rfl
theorem tw_892 : (Jvm.Cond.classLink "StoneWorksModel" (120 : Nat) "[[I") ∈ WS := WS_of 955 (by decide +kernel) rfl
theorem tw_893 : (Jvm.Cond.methodLink "StoneWorksModel" (125 : Nat) ({ cls := "StoneWorksModel", name := "without", desc := "(I)I" } : Jvm.MethodName)) ∈ WS := WS_of 956 (by decide +kernel) rfl
theorem tw_894 : (Jvm.Cond.static ({ cls := "StoneWorksModel", name := "without", desc := "(I)I" } : Jvm.MethodName)) ∈ WS := WS_of 957 (by decide +kernel) rfl
theorem tw_895 : (Jvm.Cond.code ({ cls := "StoneWorksModel", name := "without", desc := "(I)I" } : Jvm.MethodName) prog_13_method_9_code (1 : Nat) (Option.some Jvm.ClassFile.FieldType.int)) ∈ WS := WS_of 958 (by decide +kernel) rfl
theorem tw_896 : (Jvm.Cond.fieldLink "StoneWorksModel" (133 : Nat) "StoneWorksModel" "now" "I") ∈ WS := WS_of 959 (by decide +kernel) rfl
theorem tw_897 : (Jvm.Cond.fieldLink "StoneWorksModel" (136 : Nat) "StoneWorksModel" "gangs" "I") ∈ WS := WS_of 960 (by decide +kernel) rfl
theorem tw_898 : (Jvm.Cond.fieldLink "StoneWorksModel" (143 : Nat) "StoneWorksModel" "boats" "I") ∈ WS := WS_of 961 (by decide +kernel) rfl
theorem tw_899 : (Jvm.Cond.fieldLink "StoneWorksModel" (147 : Nat) "StoneWorksModel" "spells" "I") ∈ WS := WS_of 962 (by decide +kernel) rfl
theorem tw_900 : (Jvm.Cond.fieldLink "StoneWorksModel" (9 : Nat) "StoneWorksModel" "men" "[I") ∈ WS := WS_of 963 (by decide +kernel) rfl
theorem tw_901 : (Jvm.Cond.fieldLink "StoneWorksModel" (13 : Nat) "StoneWorksModel" "work" "[I") ∈ WS := WS_of 964 (by decide +kernel) rfl
theorem tw_902 : (Jvm.Cond.fieldLink "StoneWorksModel" (16 : Nat) "StoneWorksModel" "left" "[I") ∈ WS := WS_of 965 (by decide +kernel) rfl
theorem tw_903 : (Jvm.Cond.fieldLink "StoneWorksModel" (19 : Nat) "StoneWorksModel" "laidBy" "[I") ∈ WS := WS_of 966 (by decide +kernel) rfl
theorem tw_904 : (Jvm.Cond.fieldLink "StoneWorksModel" (22 : Nat) "StoneWorksModel" "still" "[I") ∈ WS := WS_of 967 (by decide +kernel) rfl
theorem tw_905 : (Jvm.Cond.fieldLink "StoneWorksModel" (25 : Nat) "StoneWorksModel" "boatDay" "[I") ∈ WS := WS_of 968 (by decide +kernel) rfl
theorem tw_906 : (Jvm.Cond.fieldLink "StoneWorksModel" (28 : Nat) "StoneWorksModel" "boatFood" "[I") ∈ WS := WS_of 969 (by decide +kernel) rfl
theorem tw_907 : (Jvm.Cond.fieldLink "StoneWorksModel" (31 : Nat) "StoneWorksModel" "spellKind" "[I") ∈ WS := WS_of 970 (by decide +kernel) rfl
theorem tw_908 : (Jvm.Cond.fieldLink "StoneWorksModel" (34 : Nat) "StoneWorksModel" "spellFrom" "[I") ∈ WS := WS_of 971 (by decide +kernel) rfl
theorem tw_909 : (Jvm.Cond.fieldLink "StoneWorksModel" (37 : Nat) "StoneWorksModel" "spellTo" "[I") ∈ WS := WS_of 972 (by decide +kernel) rfl
theorem tw_910 : (Jvm.Cond.fieldLink "StoneWorksModel" (243 : Nat) "StoneWorksModel" "food" "I") ∈ WS := WS_of 973 (by decide +kernel) rfl
theorem tw_911 : (Jvm.Cond.fieldLink "StoneWorksModel" (250 : Nat) "StoneWorksModel" "hunger" "I") ∈ WS := WS_of 974 (by decide +kernel) rfl
theorem tw_912 : (Jvm.Cond.fieldLink "StoneWorksModel" (233 : Nat) "StoneWorksModel" "high" "I") ∈ WS := WS_of 975 (by decide +kernel) rfl
theorem tw_913 : (Jvm.Cond.fieldLink "StoneWorksModel" (40 : Nat) "StoneWorksModel" "tape" "[B") ∈ WS := WS_of 976 (by decide +kernel) rfl
theorem tw_914 : (Jvm.Cond.fieldLink "StoneWorksModel" (166 : Nat) "StoneWorksModel" "taped" "I") ∈ WS := WS_of 977 (by decide +kernel) rfl
theorem tw_915 : (Jvm.Cond.fieldLink "StoneWorksModel" (176 : Nat) "StoneWorksModel" "at" "I") ∈ WS := WS_of 978 (by decide +kernel) rfl
theorem tw_916 : (Jvm.Cond.fieldLink "StoneWorksModel" (179 : Nat) "StoneWorksModel" "from" "I") ∈ WS := WS_of 979 (by decide +kernel) rfl
theorem tw_917 : (Jvm.Cond.fieldLink "StoneWorksModel" (173 : Nat) "StoneWorksModel" "fault" "I") ∈ WS := WS_of 980 (by decide +kernel) rfl
theorem tw_918 : (Jvm.Cond.fieldLink "StoneWorksModel" (44 : Nat) "StoneWorksModel" "table" "[I") ∈ WS := WS_of 981 (by decide +kernel) rfl
theorem tw_919 : (Jvm.Cond.fieldLink "StoneWorksModel" (47 : Nat) "StoneWorksModel" "read" "[I") ∈ WS := WS_of 982 (by decide +kernel) rfl
theorem tw_920 : (Jvm.Cond.fieldLink "StoneWorksModel" (50 : Nat) "StoneWorksModel" "told" "[Z") ∈ WS := WS_of 983 (by decide +kernel) rfl
theorem tw_921 : (Jvm.Cond.fieldLink "StoneWorksModel" (216 : Nat) "StoneWorksModel" "stones" "I") ∈ WS := WS_of 984 (by decide +kernel) rfl
theorem tw_922 : (Jvm.Cond.fieldLink "StoneWorksModel" (54 : Nat) "StoneWorksModel" "weight" "[I") ∈ WS := WS_of 985 (by decide +kernel) rfl
theorem tw_923 : (Jvm.Cond.fieldLink "StoneWorksModel" (57 : Nat) "StoneWorksModel" "course" "[I") ∈ WS := WS_of 986 (by decide +kernel) rfl
theorem tw_924 : (Jvm.Cond.fieldLink "StoneWorksModel" (60 : Nat) "StoneWorksModel" "stage" "[I") ∈ WS := WS_of 987 (by decide +kernel) rfl
theorem tw_925 : (Jvm.Cond.fieldLink "StoneWorksModel" (63 : Nat) "StoneWorksModel" "mark" "[I") ∈ WS := WS_of 988 (by decide +kernel) rfl
theorem tw_926 : (Jvm.Cond.fieldLink "StoneWorksModel" (66 : Nat) "StoneWorksModel" "laidOn" "[I") ∈ WS := WS_of 989 (by decide +kernel) rfl
theorem tw_927 : (Jvm.Cond.fieldLink "StoneWorksModel" (262 : Nat) "StoneWorksModel" "many" "I") ∈ WS := WS_of 990 (by decide +kernel) rfl
theorem tw_928 : (Jvm.Cond.fieldLink "StoneWorksModel" (265 : Nat) "StoneWorksModel" "planned" "I") ∈ WS := WS_of 991 (by decide +kernel) rfl
theorem tw_929 : (Jvm.Cond.fieldLink "StoneWorksModel" (69 : Nat) "StoneWorksModel" "which" "[I") ∈ WS := WS_of 992 (by decide +kernel) rfl
theorem tw_930 : (Jvm.Cond.fieldLink "StoneWorksModel" (72 : Nat) "StoneWorksModel" "order" "[I") ∈ WS := WS_of 993 (by decide +kernel) rfl
theorem tw_931 : (Jvm.Cond.fieldLink "StoneWorksModel" (75 : Nat) "StoneWorksModel" "by" "[I") ∈ WS := WS_of 994 (by decide +kernel) rfl
theorem tw_932 : (Jvm.Cond.fieldLink "StoneWorksModel" (78 : Nat) "StoneWorksModel" "begins" "[I") ∈ WS := WS_of 995 (by decide +kernel) rfl
theorem tw_933 : (Jvm.Cond.fieldLink "StoneWorksModel" (81 : Nat) "StoneWorksModel" "ends" "[I") ∈ WS := WS_of 996 (by decide +kernel) rfl
theorem tw_934 : (Jvm.Cond.fieldLink "StoneWorksModel" (84 : Nat) "StoneWorksModel" "bestOrder" "[I") ∈ WS := WS_of 997 (by decide +kernel) rfl
theorem tw_935 : (Jvm.Cond.fieldLink "StoneWorksModel" (87 : Nat) "StoneWorksModel" "bestBy" "[I") ∈ WS := WS_of 998 (by decide +kernel) rfl
theorem tw_936 : (Jvm.Cond.fieldLink "StoneWorksModel" (90 : Nat) "StoneWorksModel" "bestBegins" "[I") ∈ WS := WS_of 999 (by decide +kernel) rfl
theorem tw_937 : (Jvm.Cond.fieldLink "StoneWorksModel" (93 : Nat) "StoneWorksModel" "bestEnds" "[I") ∈ WS := WS_of 1000 (by decide +kernel) rfl
theorem tw_938 : (Jvm.Cond.fieldLink "StoneWorksModel" (96 : Nat) "StoneWorksModel" "free" "[I") ∈ WS := WS_of 1001 (by decide +kernel) rfl
theorem tw_939 : (Jvm.Cond.fieldLink "StoneWorksModel" (99 : Nat) "StoneWorksModel" "rafts" "[I") ∈ WS := WS_of 1002 (by decide +kernel) rfl
theorem tw_940 : (Jvm.Cond.fieldLink "StoneWorksModel" (283 : Nat) "StoneWorksModel" "tallies" "I") ∈ WS := WS_of 1003 (by decide +kernel) rfl
theorem tw_941 : (Jvm.Cond.fieldLink "StoneWorksModel" (102 : Nat) "StoneWorksModel" "tGang" "[I") ∈ WS := WS_of 1004 (by decide +kernel) rfl
theorem tw_942 : (Jvm.Cond.fieldLink "StoneWorksModel" (105 : Nat) "StoneWorksModel" "tFrom" "[I") ∈ WS := WS_of 1005 (by decide +kernel) rfl
theorem tw_943 : (Jvm.Cond.fieldLink "StoneWorksModel" (108 : Nat) "StoneWorksModel" "tTo" "[I") ∈ WS := WS_of 1006 (by decide +kernel) rfl
theorem tw_944 : (Jvm.Cond.fieldLink "StoneWorksModel" (111 : Nat) "StoneWorksModel" "tN" "[I") ∈ WS := WS_of 1007 (by decide +kernel) rfl
theorem tw_945 : (Jvm.Cond.fieldLink "StoneWorksModel" (114 : Nat) "StoneWorksModel" "isIn" "[Z") ∈ WS := WS_of 1008 (by decide +kernel) rfl
theorem tw_946 : (Jvm.Cond.fieldLink "StoneWorksModel" (286 : Nat) "StoneWorksModel" "points" "I") ∈ WS := WS_of 1009 (by decide +kernel) rfl
theorem tw_947 : (Jvm.Cond.fieldLink "StoneWorksModel" (117 : Nat) "StoneWorksModel" "point" "[I") ∈ WS := WS_of 1010 (by decide +kernel) rfl
theorem tw_948 : (Jvm.Cond.fieldLink "StoneWorksModel" (122 : Nat) "StoneWorksModel" "most" "[[I") ∈ WS := WS_of 1011 (by decide +kernel) rfl
theorem tw_1058 : (Jvm.Cond.arrayClass Jvm.ClassFile.FieldType.boolean) ∈ WS := WS_of 1121 (by decide +kernel) rfl
theorem tw_1059 : (Jvm.Cond.methodLink "StoneWorksLaw" (17 : Nat) ({ cls := "StoneWorksModel", name := "gang", desc := "(I)I" } : Jvm.MethodName)) ∈ WS := WS_of 1122 (by decide +kernel) rfl
theorem tw_1060 : (Jvm.Cond.instanceMethod ({ cls := "StoneWorksModel", name := "gang", desc := "(I)I" } : Jvm.MethodName)) ∈ WS := WS_of 1123 (by decide +kernel) rfl
theorem tw_1061 : (Jvm.Cond.selects "StoneWorksModel" ({ cls := "StoneWorksModel", name := "gang", desc := "(I)I" } : Jvm.MethodName) ({ cls := "StoneWorksModel", name := "gang", desc := "(I)I" } : Jvm.MethodName)) ∈ WS := WS_of 1124 (by decide +kernel) rfl
theorem tw_1062 : (Jvm.Cond.code ({ cls := "StoneWorksModel", name := "gang", desc := "(I)I" } : Jvm.MethodName) prog_13_method_5_code (2 : Nat) (Option.some Jvm.ClassFile.FieldType.int)) ∈ WS := WS_of 1125 (by decide +kernel) rfl
theorem tw_1063 : (Jvm.Cond.methodLink "StoneWorksModel" (139 : Nat) ({ cls := "StoneWorksModel", name := "in", desc := "(III)Z" } : Jvm.MethodName)) ∈ WS := WS_of 1126 (by decide +kernel) rfl
theorem tw_1064 : (Jvm.Cond.static ({ cls := "StoneWorksModel", name := "in", desc := "(III)Z" } : Jvm.MethodName)) ∈ WS := WS_of 1127 (by decide +kernel) rfl
theorem tw_1065 : (Jvm.Cond.code ({ cls := "StoneWorksModel", name := "in", desc := "(III)Z" } : Jvm.MethodName) prog_13_method_3_code (3 : Nat) (Option.some Jvm.ClassFile.FieldType.boolean)) ∈ WS := WS_of 1128 (by decide +kernel) rfl
theorem tw_1066 : (Jvm.Cond.methodLink "StoneWorksLaw" (22 : Nat) ({ cls := "StoneWorksModel", name := "boat", desc := "(II)I" } : Jvm.MethodName)) ∈ WS := WS_of 1129 (by decide +kernel) rfl
theorem tw_1067 : (Jvm.Cond.instanceMethod ({ cls := "StoneWorksModel", name := "boat", desc := "(II)I" } : Jvm.MethodName)) ∈ WS := WS_of 1130 (by decide +kernel) rfl
theorem tw_1068 : (Jvm.Cond.selects "StoneWorksModel" ({ cls := "StoneWorksModel", name := "boat", desc := "(II)I" } : Jvm.MethodName) ({ cls := "StoneWorksModel", name := "boat", desc := "(II)I" } : Jvm.MethodName)) ∈ WS := WS_of 1131 (by decide +kernel) rfl
theorem tw_1069 : (Jvm.Cond.code ({ cls := "StoneWorksModel", name := "boat", desc := "(II)I" } : Jvm.MethodName) prog_13_method_6_code (3 : Nat) (Option.some Jvm.ClassFile.FieldType.int)) ∈ WS := WS_of 1132 (by decide +kernel) rfl
theorem tw_1070 : (Jvm.Cond.constant "StoneWorksModel" (146 : Nat) (1000000 : Int32)) ∈ WS := WS_of 1133 (by decide +kernel) rfl
theorem tw_1071 : (Jvm.Cond.methodLink "StoneWorksLaw" (27 : Nat) ({ cls := "StoneWorksModel", name := "spell", desc := "(III)I" } : Jvm.MethodName)) ∈ WS := WS_of 1134 (by decide +kernel) rfl
theorem tw_1072 : (Jvm.Cond.instanceMethod ({ cls := "StoneWorksModel", name := "spell", desc := "(III)I" } : Jvm.MethodName)) ∈ WS := WS_of 1135 (by decide +kernel) rfl
theorem tw_1073 : (Jvm.Cond.selects "StoneWorksModel" ({ cls := "StoneWorksModel", name := "spell", desc := "(III)I" } : Jvm.MethodName) ({ cls := "StoneWorksModel", name := "spell", desc := "(III)I" } : Jvm.MethodName)) ∈ WS := WS_of 1136 (by decide +kernel) rfl
theorem tw_1074 : (Jvm.Cond.code ({ cls := "StoneWorksModel", name := "spell", desc := "(III)I" } : Jvm.MethodName) prog_13_method_7_code (4 : Nat) (Option.some Jvm.ClassFile.FieldType.int)) ∈ WS := WS_of 1137 (by decide +kernel) rfl
theorem tw_1075 : (Jvm.Cond.methodLink "StoneWorksLaw" (32 : Nat) ({ cls := "StoneWorksModel", name := "feed", desc := "(IIIII)I" } : Jvm.MethodName)) ∈ WS := WS_of 1138 (by decide +kernel) rfl
theorem tw_1076 : (Jvm.Cond.instanceMethod ({ cls := "StoneWorksModel", name := "feed", desc := "(IIIII)I" } : Jvm.MethodName)) ∈ WS := WS_of 1139 (by decide +kernel) rfl
theorem tw_1077 : (Jvm.Cond.selects "StoneWorksModel" ({ cls := "StoneWorksModel", name := "feed", desc := "(IIIII)I" } : Jvm.MethodName) ({ cls := "StoneWorksModel", name := "feed", desc := "(IIIII)I" } : Jvm.MethodName)) ∈ WS := WS_of 1140 (by decide +kernel) rfl
theorem tw_1078 : (Jvm.Cond.code ({ cls := "StoneWorksModel", name := "feed", desc := "(IIIII)I" } : Jvm.MethodName) prog_13_method_12_code (6 : Nat) (Option.some Jvm.ClassFile.FieldType.int)) ∈ WS := WS_of 1141 (by decide +kernel) rfl
theorem tw_1079 : (Jvm.Cond.methodLink "StoneWorksModel" (169 : Nat) ({ cls := "StoneWorksModel", name := "put", desc := "(I)V" } : Jvm.MethodName)) ∈ WS := WS_of 1142 (by decide +kernel) rfl
theorem tw_1081 : (Jvm.Cond.instanceMethod ({ cls := "StoneWorksModel", name := "put", desc := "(I)V" } : Jvm.MethodName)) ∈ WS := WS_of 1144 (by decide +kernel) rfl
theorem tw_1082 : (Jvm.Cond.code ({ cls := "StoneWorksModel", name := "put", desc := "(I)V" } : Jvm.MethodName) prog_13_method_13_code (3 : Nat) (Option.none : Option Jvm.ClassFile.FieldType)) ∈ WS := WS_of 1145 (by decide +kernel) rfl
theorem tw_1083 : (Jvm.Cond.methodLink "StoneWorksLaw" (36 : Nat) ({ cls := "StoneWorksModel", name := "end", desc := "(I)I" } : Jvm.MethodName)) ∈ WS := WS_of 1146 (by decide +kernel) rfl
theorem tw_1084 : (Jvm.Cond.instanceMethod ({ cls := "StoneWorksModel", name := "end", desc := "(I)I" } : Jvm.MethodName)) ∈ WS := WS_of 1147 (by decide +kernel) rfl
theorem tw_1085 : (Jvm.Cond.selects "StoneWorksModel" ({ cls := "StoneWorksModel", name := "end", desc := "(I)I" } : Jvm.MethodName) ({ cls := "StoneWorksModel", name := "end", desc := "(I)I" } : Jvm.MethodName)) ∈ WS := WS_of 1148 (by decide +kernel) rfl
theorem tw_1086 : (Jvm.Cond.code ({ cls := "StoneWorksModel", name := "end", desc := "(I)I" } : Jvm.MethodName) prog_13_method_14_code (2 : Nat) (Option.some Jvm.ClassFile.FieldType.int)) ∈ WS := WS_of 1149 (by decide +kernel) rfl
theorem tw_1087 : (Jvm.Cond.methodLink "StoneWorksLaw" (41 : Nat) ({ cls := "StoneWorksModel", name := "table", desc := "()I" } : Jvm.MethodName)) ∈ WS := WS_of 1150 (by decide +kernel) rfl
theorem tw_1088 : (Jvm.Cond.instanceMethod ({ cls := "StoneWorksModel", name := "table", desc := "()I" } : Jvm.MethodName)) ∈ WS := WS_of 1151 (by decide +kernel) rfl
theorem tw_1089 : (Jvm.Cond.selects "StoneWorksModel" ({ cls := "StoneWorksModel", name := "table", desc := "()I" } : Jvm.MethodName) ({ cls := "StoneWorksModel", name := "table", desc := "()I" } : Jvm.MethodName)) ∈ WS := WS_of 1152 (by decide +kernel) rfl
theorem tw_1090 : (Jvm.Cond.code ({ cls := "StoneWorksModel", name := "table", desc := "()I" } : Jvm.MethodName) prog_13_method_20_code (4 : Nat) (Option.some Jvm.ClassFile.FieldType.int)) ∈ WS := WS_of 1153 (by decide +kernel) rfl
theorem tw_1091 : (Jvm.Cond.methodLink "StoneWorksModel" (192 : Nat) ({ cls := "StoneWorksModel", name := "isOver", desc := "()Z" } : Jvm.MethodName)) ∈ WS := WS_of 1154 (by decide +kernel) rfl
theorem tw_1093 : (Jvm.Cond.instanceMethod ({ cls := "StoneWorksModel", name := "isOver", desc := "()Z" } : Jvm.MethodName)) ∈ WS := WS_of 1156 (by decide +kernel) rfl
theorem tw_1094 : (Jvm.Cond.code ({ cls := "StoneWorksModel", name := "isOver", desc := "()Z" } : Jvm.MethodName) prog_13_method_16_code (1 : Nat) (Option.some Jvm.ClassFile.FieldType.boolean)) ∈ WS := WS_of 1157 (by decide +kernel) rfl
theorem tw_1095 : (Jvm.Cond.methodLink "StoneWorksModel" (213 : Nat) ({ cls := "StoneWorksModel", name := "clause", desc := "()V" } : Jvm.MethodName)) ∈ WS := WS_of 1158 (by decide +kernel) rfl
theorem tw_1097 : (Jvm.Cond.instanceMethod ({ cls := "StoneWorksModel", name := "clause", desc := "()V" } : Jvm.MethodName)) ∈ WS := WS_of 1160 (by decide +kernel) rfl
theorem tw_1098 : (Jvm.Cond.code ({ cls := "StoneWorksModel", name := "clause", desc := "()V" } : Jvm.MethodName) prog_13_method_19_code (2 : Nat) (Option.none : Option Jvm.ClassFile.FieldType)) ∈ WS := WS_of 1161 (by decide +kernel) rfl
theorem tw_1099 : (Jvm.Cond.methodLink "StoneWorksModel" (200 : Nat) ({ cls := "StoneWorksModel", name := "wordOf", desc := "(I)Ljava/lang/String;" } : Jvm.MethodName)) ∈ WS := WS_of 1162 (by decide +kernel) rfl
theorem tw_1100 : (Jvm.Cond.static ({ cls := "StoneWorksModel", name := "wordOf", desc := "(I)Ljava/lang/String;" } : Jvm.MethodName)) ∈ WS := WS_of 1163 (by decide +kernel) rfl
theorem tw_1101 : (Jvm.Cond.code ({ cls := "StoneWorksModel", name := "wordOf", desc := "(I)Ljava/lang/String;" } : Jvm.MethodName) prog_13_method_11_code (1 : Nat) (Option.some (Jvm.ClassFile.FieldType.object "java/lang/String"))) ∈ WS := WS_of 1164 (by decide +kernel) rfl
theorem tw_1110 : (Jvm.Cond.methodLink "StoneWorksModel" (204 : Nat) ({ cls := "StoneWorksModel", name := "isWord", desc := "(Ljava/lang/String;)Z" } : Jvm.MethodName)) ∈ WS := WS_of 1173 (by decide +kernel) rfl
theorem tw_1112 : (Jvm.Cond.instanceMethod ({ cls := "StoneWorksModel", name := "isWord", desc := "(Ljava/lang/String;)Z" } : Jvm.MethodName)) ∈ WS := WS_of 1175 (by decide +kernel) rfl
theorem tw_1113 : (Jvm.Cond.code ({ cls := "StoneWorksModel", name := "isWord", desc := "(Ljava/lang/String;)Z" } : Jvm.MethodName) prog_13_method_17_code (4 : Nat) (Option.some Jvm.ClassFile.FieldType.boolean)) ∈ WS := WS_of 1176 (by decide +kernel) rfl
theorem tw_1114 : (Jvm.Cond.methodLink "StoneWorksModel" (182 : Nat) ({ cls := "java/lang/String", name := "length", desc := "()I" } : Jvm.MethodName)) ∈ WS := WS_of 1177 (by decide +kernel) rfl
theorem tw_1115 : (Jvm.Cond.methodLink "StoneWorksModel" (188 : Nat) ({ cls := "java/lang/String", name := "charAt", desc := "(I)C" } : Jvm.MethodName)) ∈ WS := WS_of 1178 (by decide +kernel) rfl
theorem tw_1116 : (Jvm.Cond.methodLink "StoneWorksModel" (196 : Nat) ({ cls := "StoneWorksModel", name := "fails", desc := "(II)V" } : Jvm.MethodName)) ∈ WS := WS_of 1179 (by decide +kernel) rfl
theorem tw_1118 : (Jvm.Cond.instanceMethod ({ cls := "StoneWorksModel", name := "fails", desc := "(II)V" } : Jvm.MethodName)) ∈ WS := WS_of 1181 (by decide +kernel) rfl
theorem tw_1119 : (Jvm.Cond.code ({ cls := "StoneWorksModel", name := "fails", desc := "(II)V" } : Jvm.MethodName) prog_13_method_15_code (3 : Nat) (Option.none : Option Jvm.ClassFile.FieldType)) ∈ WS := WS_of 1182 (by decide +kernel) rfl
theorem tw_1120 : (Jvm.Cond.methodLink "StoneWorksModel" (208 : Nat) ({ cls := "StoneWorksModel", name := "most", desc := "(I)I" } : Jvm.MethodName)) ∈ WS := WS_of 1183 (by decide +kernel) rfl
theorem tw_1121 : (Jvm.Cond.static ({ cls := "StoneWorksModel", name := "most", desc := "(I)I" } : Jvm.MethodName)) ∈ WS := WS_of 1184 (by decide +kernel) rfl
theorem tw_1122 : (Jvm.Cond.code ({ cls := "StoneWorksModel", name := "most", desc := "(I)I" } : Jvm.MethodName) prog_13_method_10_code (1 : Nat) (Option.some Jvm.ClassFile.FieldType.int)) ∈ WS := WS_of 1185 (by decide +kernel) rfl
theorem tw_1123 : (Jvm.Cond.methodLink "StoneWorksModel" (210 : Nat) ({ cls := "StoneWorksModel", name := "number", desc := "(I)I" } : Jvm.MethodName)) ∈ WS := WS_of 1186 (by decide +kernel) rfl
theorem tw_1125 : (Jvm.Cond.instanceMethod ({ cls := "StoneWorksModel", name := "number", desc := "(I)I" } : Jvm.MethodName)) ∈ WS := WS_of 1188 (by decide +kernel) rfl
theorem tw_1126 : (Jvm.Cond.code ({ cls := "StoneWorksModel", name := "number", desc := "(I)I" } : Jvm.MethodName) prog_13_method_18_code (3 : Nat) (Option.some Jvm.ClassFile.FieldType.int)) ∈ WS := WS_of 1189 (by decide +kernel) rfl
theorem tw_1127 : (Jvm.Cond.methodLink "StoneWorksLaw" (45 : Nat) ({ cls := "StoneWorksModel", name := "stone", desc := "(II)I" } : Jvm.MethodName)) ∈ WS := WS_of 1190 (by decide +kernel) rfl
theorem tw_1128 : (Jvm.Cond.instanceMethod ({ cls := "StoneWorksModel", name := "stone", desc := "(II)I" } : Jvm.MethodName)) ∈ WS := WS_of 1191 (by decide +kernel) rfl
theorem tw_1129 : (Jvm.Cond.selects "StoneWorksModel" ({ cls := "StoneWorksModel", name := "stone", desc := "(II)I" } : Jvm.MethodName) ({ cls := "StoneWorksModel", name := "stone", desc := "(II)I" } : Jvm.MethodName)) ∈ WS := WS_of 1192 (by decide +kernel) rfl
theorem tw_1130 : (Jvm.Cond.code ({ cls := "StoneWorksModel", name := "stone", desc := "(II)I" } : Jvm.MethodName) prog_13_method_21_code (3 : Nat) (Option.some Jvm.ClassFile.FieldType.int)) ∈ WS := WS_of 1193 (by decide +kernel) rfl
theorem tw_1131 : (Jvm.Cond.methodLink "StoneWorksLaw" (49 : Nat) ({ cls := "StoneWorksModel", name := "send", desc := "(II)I" } : Jvm.MethodName)) ∈ WS := WS_of 1194 (by decide +kernel) rfl
theorem tw_1132 : (Jvm.Cond.instanceMethod ({ cls := "StoneWorksModel", name := "send", desc := "(II)I" } : Jvm.MethodName)) ∈ WS := WS_of 1195 (by decide +kernel) rfl
theorem tw_1133 : (Jvm.Cond.selects "StoneWorksModel" ({ cls := "StoneWorksModel", name := "send", desc := "(II)I" } : Jvm.MethodName) ({ cls := "StoneWorksModel", name := "send", desc := "(II)I" } : Jvm.MethodName)) ∈ WS := WS_of 1196 (by decide +kernel) rfl
theorem tw_1134 : (Jvm.Cond.code ({ cls := "StoneWorksModel", name := "send", desc := "(II)I" } : Jvm.MethodName) prog_13_method_25_code (5 : Nat) (Option.some Jvm.ClassFile.FieldType.int)) ∈ WS := WS_of 1197 (by decide +kernel) rfl
theorem tw_1135 : (Jvm.Cond.methodLink "StoneWorksModel" (219 : Nat) ({ cls := "StoneWorksModel", name := "isEnd", desc := "()Z" } : Jvm.MethodName)) ∈ WS := WS_of 1198 (by decide +kernel) rfl
theorem tw_1137 : (Jvm.Cond.instanceMethod ({ cls := "StoneWorksModel", name := "isEnd", desc := "()Z" } : Jvm.MethodName)) ∈ WS := WS_of 1200 (by decide +kernel) rfl
theorem tw_1138 : (Jvm.Cond.code ({ cls := "StoneWorksModel", name := "isEnd", desc := "()Z" } : Jvm.MethodName) prog_13_method_4_code (1 : Nat) (Option.some Jvm.ClassFile.FieldType.boolean)) ∈ WS := WS_of 1201 (by decide +kernel) rfl
theorem tw_1139 : (Jvm.Cond.methodLink "StoneWorksModel" (222 : Nat) ({ cls := "StoneWorksModel", name := "worker", desc := "(I)I" } : Jvm.MethodName)) ∈ WS := WS_of 1202 (by decide +kernel) rfl
theorem tw_1141 : (Jvm.Cond.instanceMethod ({ cls := "StoneWorksModel", name := "worker", desc := "(I)I" } : Jvm.MethodName)) ∈ WS := WS_of 1204 (by decide +kernel) rfl
theorem tw_1142 : (Jvm.Cond.code ({ cls := "StoneWorksModel", name := "worker", desc := "(I)I" } : Jvm.MethodName) prog_13_method_23_code (3 : Nat) (Option.some Jvm.ClassFile.FieldType.int)) ∈ WS := WS_of 1205 (by decide +kernel) rfl
theorem tw_1143 : (Jvm.Cond.methodLink "StoneWorksModel" (225 : Nat) ({ cls := "StoneWorksModel", name := "is", desc := "(II)Z" } : Jvm.MethodName)) ∈ WS := WS_of 1206 (by decide +kernel) rfl
theorem tw_1145 : (Jvm.Cond.instanceMethod ({ cls := "StoneWorksModel", name := "is", desc := "(II)Z" } : Jvm.MethodName)) ∈ WS := WS_of 1208 (by decide +kernel) rfl
theorem tw_1146 : (Jvm.Cond.code ({ cls := "StoneWorksModel", name := "is", desc := "(II)Z" } : Jvm.MethodName) prog_13_method_8_code (5 : Nat) (Option.some Jvm.ClassFile.FieldType.boolean)) ∈ WS := WS_of 1209 (by decide +kernel) rfl
theorem tw_1147 : (Jvm.Cond.methodLink "StoneWorksModel" (229 : Nat) ({ cls := "StoneWorksModel", name := "pull", desc := "(IIZ)I" } : Jvm.MethodName)) ∈ WS := WS_of 1210 (by decide +kernel) rfl
theorem tw_1149 : (Jvm.Cond.instanceMethod ({ cls := "StoneWorksModel", name := "pull", desc := "(IIZ)I" } : Jvm.MethodName)) ∈ WS := WS_of 1212 (by decide +kernel) rfl
theorem tw_1150 : (Jvm.Cond.code ({ cls := "StoneWorksModel", name := "pull", desc := "(IIZ)I" } : Jvm.MethodName) prog_13_method_22_code (5 : Nat) (Option.some Jvm.ClassFile.FieldType.int)) ∈ WS := WS_of 1213 (by decide +kernel) rfl
theorem tw_1151 : (Jvm.Cond.methodLink "StoneWorksModel" (236 : Nat) ({ cls := "StoneWorksModel", name := "lacksLesser", desc := "(I)Z" } : Jvm.MethodName)) ∈ WS := WS_of 1214 (by decide +kernel) rfl
theorem tw_1153 : (Jvm.Cond.instanceMethod ({ cls := "StoneWorksModel", name := "lacksLesser", desc := "(I)Z" } : Jvm.MethodName)) ∈ WS := WS_of 1216 (by decide +kernel) rfl
theorem tw_1154 : (Jvm.Cond.code ({ cls := "StoneWorksModel", name := "lacksLesser", desc := "(I)Z" } : Jvm.MethodName) prog_13_method_24_code (4 : Nat) (Option.some Jvm.ClassFile.FieldType.boolean)) ∈ WS := WS_of 1217 (by decide +kernel) rfl
theorem tw_1155 : (Jvm.Cond.methodLink "StoneWorksLaw" (53 : Nat) ({ cls := "StoneWorksModel", name := "raise", desc := "(I)I" } : Jvm.MethodName)) ∈ WS := WS_of 1218 (by decide +kernel) rfl
theorem tw_1156 : (Jvm.Cond.instanceMethod ({ cls := "StoneWorksModel", name := "raise", desc := "(I)I" } : Jvm.MethodName)) ∈ WS := WS_of 1219 (by decide +kernel) rfl
theorem tw_1157 : (Jvm.Cond.selects "StoneWorksModel" ({ cls := "StoneWorksModel", name := "raise", desc := "(I)I" } : Jvm.MethodName) ({ cls := "StoneWorksModel", name := "raise", desc := "(I)I" } : Jvm.MethodName)) ∈ WS := WS_of 1220 (by decide +kernel) rfl
theorem tw_1158 : (Jvm.Cond.code ({ cls := "StoneWorksModel", name := "raise", desc := "(I)I" } : Jvm.MethodName) prog_13_method_26_code (2 : Nat) (Option.some Jvm.ClassFile.FieldType.int)) ∈ WS := WS_of 1221 (by decide +kernel) rfl
theorem tw_1159 : (Jvm.Cond.methodLink "StoneWorksLaw" (58 : Nat) ({ cls := "StoneWorksModel", name := "callOff", desc := "(I)Z" } : Jvm.MethodName)) ∈ WS := WS_of 1222 (by decide +kernel) rfl
theorem tw_1160 : (Jvm.Cond.instanceMethod ({ cls := "StoneWorksModel", name := "callOff", desc := "(I)Z" } : Jvm.MethodName)) ∈ WS := WS_of 1223 (by decide +kernel) rfl
theorem tw_1161 : (Jvm.Cond.selects "StoneWorksModel" ({ cls := "StoneWorksModel", name := "callOff", desc := "(I)Z" } : Jvm.MethodName) ({ cls := "StoneWorksModel", name := "callOff", desc := "(I)Z" } : Jvm.MethodName)) ∈ WS := WS_of 1224 (by decide +kernel) rfl
theorem tw_1162 : (Jvm.Cond.code ({ cls := "StoneWorksModel", name := "callOff", desc := "(I)Z" } : Jvm.MethodName) prog_13_method_28_code (2 : Nat) (Option.some Jvm.ClassFile.FieldType.boolean)) ∈ WS := WS_of 1225 (by decide +kernel) rfl
theorem tw_1163 : (Jvm.Cond.methodLink "StoneWorksModel" (240 : Nat) ({ cls := "StoneWorksModel", name := "rests", desc := "(I)V" } : Jvm.MethodName)) ∈ WS := WS_of 1226 (by decide +kernel) rfl
theorem tw_1165 : (Jvm.Cond.instanceMethod ({ cls := "StoneWorksModel", name := "rests", desc := "(I)V" } : Jvm.MethodName)) ∈ WS := WS_of 1228 (by decide +kernel) rfl
theorem tw_1166 : (Jvm.Cond.code ({ cls := "StoneWorksModel", name := "rests", desc := "(I)V" } : Jvm.MethodName) prog_13_method_27_code (2 : Nat) (Option.none : Option Jvm.ClassFile.FieldType)) ∈ WS := WS_of 1229 (by decide +kernel) rfl
theorem tw_1167 : (Jvm.Cond.methodLink "StoneWorksLaw" (62 : Nat) ({ cls := "StoneWorksModel", name := "pass", desc := "(I)I" } : Jvm.MethodName)) ∈ WS := WS_of 1230 (by decide +kernel) rfl
theorem tw_1168 : (Jvm.Cond.instanceMethod ({ cls := "StoneWorksModel", name := "pass", desc := "(I)I" } : Jvm.MethodName)) ∈ WS := WS_of 1231 (by decide +kernel) rfl
theorem tw_1169 : (Jvm.Cond.selects "StoneWorksModel" ({ cls := "StoneWorksModel", name := "pass", desc := "(I)I" } : Jvm.MethodName) ({ cls := "StoneWorksModel", name := "pass", desc := "(I)I" } : Jvm.MethodName)) ∈ WS := WS_of 1232 (by decide +kernel) rfl
theorem tw_1170 : (Jvm.Cond.code ({ cls := "StoneWorksModel", name := "pass", desc := "(I)I" } : Jvm.MethodName) prog_13_method_32_code (3 : Nat) (Option.some Jvm.ClassFile.FieldType.int)) ∈ WS := WS_of 1233 (by decide +kernel) rfl
theorem tw_1171 : (Jvm.Cond.methodLink "StoneWorksModel" (256 : Nat) ({ cls := "StoneWorksModel", name := "day", desc := "()V" } : Jvm.MethodName)) ∈ WS := WS_of 1234 (by decide +kernel) rfl
theorem tw_1173 : (Jvm.Cond.instanceMethod ({ cls := "StoneWorksModel", name := "day", desc := "()V" } : Jvm.MethodName)) ∈ WS := WS_of 1236 (by decide +kernel) rfl
theorem tw_1174 : (Jvm.Cond.code ({ cls := "StoneWorksModel", name := "day", desc := "()V" } : Jvm.MethodName) prog_13_method_30_code (6 : Nat) (Option.none : Option Jvm.ClassFile.FieldType)) ∈ WS := WS_of 1237 (by decide +kernel) rfl
theorem tw_1175 : (Jvm.Cond.constant "StoneWorksModel" (246 : Nat) (10000000 : Int32)) ∈ WS := WS_of 1238 (by decide +kernel) rfl
theorem tw_1176 : (Jvm.Cond.methodLink "StoneWorksModel" (247 : Nat) ({ cls := "StoneWorksModel", name := "allMen", desc := "()I" } : Jvm.MethodName)) ∈ WS := WS_of 1239 (by decide +kernel) rfl
theorem tw_1178 : (Jvm.Cond.instanceMethod ({ cls := "StoneWorksModel", name := "allMen", desc := "()I" } : Jvm.MethodName)) ∈ WS := WS_of 1241 (by decide +kernel) rfl
theorem tw_1179 : (Jvm.Cond.code ({ cls := "StoneWorksModel", name := "allMen", desc := "()I" } : Jvm.MethodName) prog_13_method_29_code (3 : Nat) (Option.some Jvm.ClassFile.FieldType.int)) ∈ WS := WS_of 1242 (by decide +kernel) rfl
theorem tw_1180 : (Jvm.Cond.methodLink "StoneWorksModel" (253 : Nat) ({ cls := "StoneWorksModel", name := "works", desc := "(I)V" } : Jvm.MethodName)) ∈ WS := WS_of 1243 (by decide +kernel) rfl
theorem tw_1182 : (Jvm.Cond.instanceMethod ({ cls := "StoneWorksModel", name := "works", desc := "(I)V" } : Jvm.MethodName)) ∈ WS := WS_of 1245 (by decide +kernel) rfl
theorem tw_1183 : (Jvm.Cond.code ({ cls := "StoneWorksModel", name := "works", desc := "(I)V" } : Jvm.MethodName) prog_13_method_31_code (4 : Nat) (Option.none : Option Jvm.ClassFile.FieldType)) ∈ WS := WS_of 1246 (by decide +kernel) rfl
theorem tw_1184 : (Jvm.Cond.methodLink "StoneWorksLaw" (66 : Nat) ({ cls := "StoneWorksModel", name := "about", desc := "(II)I" } : Jvm.MethodName)) ∈ WS := WS_of 1247 (by decide +kernel) rfl
theorem tw_1185 : (Jvm.Cond.instanceMethod ({ cls := "StoneWorksModel", name := "about", desc := "(II)I" } : Jvm.MethodName)) ∈ WS := WS_of 1248 (by decide +kernel) rfl
theorem tw_1186 : (Jvm.Cond.selects "StoneWorksModel" ({ cls := "StoneWorksModel", name := "about", desc := "(II)I" } : Jvm.MethodName) ({ cls := "StoneWorksModel", name := "about", desc := "(II)I" } : Jvm.MethodName)) ∈ WS := WS_of 1249 (by decide +kernel) rfl
theorem tw_1187 : (Jvm.Cond.code ({ cls := "StoneWorksModel", name := "about", desc := "(II)I" } : Jvm.MethodName) prog_13_method_33_code (3 : Nat) (Option.some Jvm.ClassFile.FieldType.int)) ∈ WS := WS_of 1250 (by decide +kernel) rfl
theorem tw_1188 : (Jvm.Cond.methodLink "StoneWorksLaw" (70 : Nat) ({ cls := "StoneWorksModel", name := "gangs", desc := "(II)I" } : Jvm.MethodName)) ∈ WS := WS_of 1251 (by decide +kernel) rfl
theorem tw_1189 : (Jvm.Cond.instanceMethod ({ cls := "StoneWorksModel", name := "gangs", desc := "(II)I" } : Jvm.MethodName)) ∈ WS := WS_of 1252 (by decide +kernel) rfl
theorem tw_1190 : (Jvm.Cond.selects "StoneWorksModel" ({ cls := "StoneWorksModel", name := "gangs", desc := "(II)I" } : Jvm.MethodName) ({ cls := "StoneWorksModel", name := "gangs", desc := "(II)I" } : Jvm.MethodName)) ∈ WS := WS_of 1253 (by decide +kernel) rfl
theorem tw_1191 : (Jvm.Cond.code ({ cls := "StoneWorksModel", name := "gangs", desc := "(II)I" } : Jvm.MethodName) prog_13_method_34_code (3 : Nat) (Option.some Jvm.ClassFile.FieldType.int)) ∈ WS := WS_of 1254 (by decide +kernel) rfl
theorem tw_1192 : (Jvm.Cond.methodLink "StoneWorksLaw" (74 : Nat) ({ cls := "StoneWorksModel", name := "plan", desc := "()I" } : Jvm.MethodName)) ∈ WS := WS_of 1255 (by decide +kernel) rfl
theorem tw_1193 : (Jvm.Cond.instanceMethod ({ cls := "StoneWorksModel", name := "plan", desc := "()I" } : Jvm.MethodName)) ∈ WS := WS_of 1256 (by decide +kernel) rfl
theorem tw_1194 : (Jvm.Cond.selects "StoneWorksModel" ({ cls := "StoneWorksModel", name := "plan", desc := "()I" } : Jvm.MethodName) ({ cls := "StoneWorksModel", name := "plan", desc := "()I" } : Jvm.MethodName)) ∈ WS := WS_of 1257 (by decide +kernel) rfl
theorem tw_1195 : (Jvm.Cond.code ({ cls := "StoneWorksModel", name := "plan", desc := "()I" } : Jvm.MethodName) prog_13_method_40_code (7 : Nat) (Option.some Jvm.ClassFile.FieldType.int)) ∈ WS := WS_of 1258 (by decide +kernel) rfl
theorem tw_1196 : (Jvm.Cond.methodLink "StoneWorksModel" (268 : Nat) ({ cls := "StoneWorksModel", name := "rivers", desc := "()V" } : Jvm.MethodName)) ∈ WS := WS_of 1259 (by decide +kernel) rfl
theorem tw_1198 : (Jvm.Cond.instanceMethod ({ cls := "StoneWorksModel", name := "rivers", desc := "()V" } : Jvm.MethodName)) ∈ WS := WS_of 1261 (by decide +kernel) rfl
theorem tw_1199 : (Jvm.Cond.code ({ cls := "StoneWorksModel", name := "rivers", desc := "()V" } : Jvm.MethodName) prog_13_method_36_code (3 : Nat) (Option.none : Option Jvm.ClassFile.FieldType)) ∈ WS := WS_of 1262 (by decide +kernel) rfl
theorem tw_1200 : (Jvm.Cond.methodLink "StoneWorksModel" (271 : Nat) ({ cls := "StoneWorksModel", name := "gangs", desc := "(I)I" } : Jvm.MethodName)) ∈ WS := WS_of 1263 (by decide +kernel) rfl
theorem tw_1202 : (Jvm.Cond.instanceMethod ({ cls := "StoneWorksModel", name := "gangs", desc := "(I)I" } : Jvm.MethodName)) ∈ WS := WS_of 1265 (by decide +kernel) rfl
theorem tw_1203 : (Jvm.Cond.code ({ cls := "StoneWorksModel", name := "gangs", desc := "(I)I" } : Jvm.MethodName) prog_13_method_41_code (7 : Nat) (Option.some Jvm.ClassFile.FieldType.int)) ∈ WS := WS_of 1266 (by decide +kernel) rfl
theorem tw_1204 : (Jvm.Cond.methodLink "StoneWorksModel" (277 : Nat) ({ cls := "StoneWorksModel", name := "can", desc := "(II)Z" } : Jvm.MethodName)) ∈ WS := WS_of 1267 (by decide +kernel) rfl
theorem tw_1206 : (Jvm.Cond.instanceMethod ({ cls := "StoneWorksModel", name := "can", desc := "(II)Z" } : Jvm.MethodName)) ∈ WS := WS_of 1269 (by decide +kernel) rfl
theorem tw_1207 : (Jvm.Cond.code ({ cls := "StoneWorksModel", name := "can", desc := "(II)Z" } : Jvm.MethodName) prog_13_method_35_code (4 : Nat) (Option.some Jvm.ClassFile.FieldType.boolean)) ∈ WS := WS_of 1270 (by decide +kernel) rfl
theorem tw_1208 : (Jvm.Cond.methodLink "StoneWorksModel" (280 : Nat) ({ cls := "StoneWorksModel", name := "lays", desc := "(I)Z" } : Jvm.MethodName)) ∈ WS := WS_of 1271 (by decide +kernel) rfl
theorem tw_1210 : (Jvm.Cond.instanceMethod ({ cls := "StoneWorksModel", name := "lays", desc := "(I)Z" } : Jvm.MethodName)) ∈ WS := WS_of 1273 (by decide +kernel) rfl
theorem tw_1211 : (Jvm.Cond.code ({ cls := "StoneWorksModel", name := "lays", desc := "(I)Z" } : Jvm.MethodName) prog_13_method_38_code (6 : Nat) (Option.some Jvm.ClassFile.FieldType.boolean)) ∈ WS := WS_of 1274 (by decide +kernel) rfl
theorem tw_1212 : (Jvm.Cond.methodLink "StoneWorksModel" (259 : Nat) ({ cls := "StoneWorksModel", name := "raftFrom", desc := "(I)I" } : Jvm.MethodName)) ∈ WS := WS_of 1275 (by decide +kernel) rfl
theorem tw_1214 : (Jvm.Cond.instanceMethod ({ cls := "StoneWorksModel", name := "raftFrom", desc := "(I)I" } : Jvm.MethodName)) ∈ WS := WS_of 1277 (by decide +kernel) rfl
theorem tw_1215 : (Jvm.Cond.code ({ cls := "StoneWorksModel", name := "raftFrom", desc := "(I)I" } : Jvm.MethodName) prog_13_method_37_code (2 : Nat) (Option.some Jvm.ClassFile.FieldType.int)) ∈ WS := WS_of 1278 (by decide +kernel) rfl
theorem tw_1216 : (Jvm.Cond.methodLink "StoneWorksModel" (273 : Nat) ({ cls := "StoneWorksModel", name := "goesOn", desc := "([II)Z" } : Jvm.MethodName)) ∈ WS := WS_of 1279 (by decide +kernel) rfl
theorem tw_1218 : (Jvm.Cond.instanceMethod ({ cls := "StoneWorksModel", name := "goesOn", desc := "([II)Z" } : Jvm.MethodName)) ∈ WS := WS_of 1281 (by decide +kernel) rfl
theorem tw_1219 : (Jvm.Cond.code ({ cls := "StoneWorksModel", name := "goesOn", desc := "([II)Z" } : Jvm.MethodName) prog_13_method_39_code (4 : Nat) (Option.some Jvm.ClassFile.FieldType.boolean)) ∈ WS := WS_of 1282 (by decide +kernel) rfl
theorem tw_1220 : (Jvm.Cond.methodLink "StoneWorksLaw" (78 : Nat) ({ cls := "StoneWorksModel", name := "planned", desc := "(II)I" } : Jvm.MethodName)) ∈ WS := WS_of 1283 (by decide +kernel) rfl
theorem tw_1221 : (Jvm.Cond.instanceMethod ({ cls := "StoneWorksModel", name := "planned", desc := "(II)I" } : Jvm.MethodName)) ∈ WS := WS_of 1284 (by decide +kernel) rfl
theorem tw_1222 : (Jvm.Cond.selects "StoneWorksModel" ({ cls := "StoneWorksModel", name := "planned", desc := "(II)I" } : Jvm.MethodName) ({ cls := "StoneWorksModel", name := "planned", desc := "(II)I" } : Jvm.MethodName)) ∈ WS := WS_of 1285 (by decide +kernel) rfl
theorem tw_1223 : (Jvm.Cond.code ({ cls := "StoneWorksModel", name := "planned", desc := "(II)I" } : Jvm.MethodName) prog_13_method_42_code (3 : Nat) (Option.some Jvm.ClassFile.FieldType.int)) ∈ WS := WS_of 1286 (by decide +kernel) rfl
theorem tw_1224 : (Jvm.Cond.methodLink "StoneWorksLaw" (83 : Nat) ({ cls := "StoneWorksModel", name := "tally", desc := "(IIII)I" } : Jvm.MethodName)) ∈ WS := WS_of 1287 (by decide +kernel) rfl
theorem tw_1225 : (Jvm.Cond.instanceMethod ({ cls := "StoneWorksModel", name := "tally", desc := "(IIII)I" } : Jvm.MethodName)) ∈ WS := WS_of 1288 (by decide +kernel) rfl
theorem tw_1226 : (Jvm.Cond.selects "StoneWorksModel" ({ cls := "StoneWorksModel", name := "tally", desc := "(IIII)I" } : Jvm.MethodName) ({ cls := "StoneWorksModel", name := "tally", desc := "(IIII)I" } : Jvm.MethodName)) ∈ WS := WS_of 1289 (by decide +kernel) rfl
theorem tw_1227 : (Jvm.Cond.code ({ cls := "StoneWorksModel", name := "tally", desc := "(IIII)I" } : Jvm.MethodName) prog_13_method_43_code (5 : Nat) (Option.some Jvm.ClassFile.FieldType.int)) ∈ WS := WS_of 1290 (by decide +kernel) rfl
theorem tw_1228 : (Jvm.Cond.methodLink "StoneWorksLaw" (87 : Nat) ({ cls := "StoneWorksModel", name := "isTrue", desc := "(I)I" } : Jvm.MethodName)) ∈ WS := WS_of 1291 (by decide +kernel) rfl
theorem tw_1229 : (Jvm.Cond.instanceMethod ({ cls := "StoneWorksModel", name := "isTrue", desc := "(I)I" } : Jvm.MethodName)) ∈ WS := WS_of 1292 (by decide +kernel) rfl
theorem tw_1230 : (Jvm.Cond.selects "StoneWorksModel" ({ cls := "StoneWorksModel", name := "isTrue", desc := "(I)I" } : Jvm.MethodName) ({ cls := "StoneWorksModel", name := "isTrue", desc := "(I)I" } : Jvm.MethodName)) ∈ WS := WS_of 1293 (by decide +kernel) rfl
theorem tw_1231 : (Jvm.Cond.code ({ cls := "StoneWorksModel", name := "isTrue", desc := "(I)I" } : Jvm.MethodName) prog_13_method_44_code (4 : Nat) (Option.some Jvm.ClassFile.FieldType.int)) ∈ WS := WS_of 1294 (by decide +kernel) rfl
theorem tw_1232 : (Jvm.Cond.methodLink "StoneWorksLaw" (91 : Nat) ({ cls := "StoneWorksModel", name := "quarrel", desc := "()I" } : Jvm.MethodName)) ∈ WS := WS_of 1295 (by decide +kernel) rfl
theorem tw_1233 : (Jvm.Cond.instanceMethod ({ cls := "StoneWorksModel", name := "quarrel", desc := "()I" } : Jvm.MethodName)) ∈ WS := WS_of 1296 (by decide +kernel) rfl
theorem tw_1234 : (Jvm.Cond.selects "StoneWorksModel" ({ cls := "StoneWorksModel", name := "quarrel", desc := "()I" } : Jvm.MethodName) ({ cls := "StoneWorksModel", name := "quarrel", desc := "()I" } : Jvm.MethodName)) ∈ WS := WS_of 1297 (by decide +kernel) rfl
theorem tw_1235 : (Jvm.Cond.code ({ cls := "StoneWorksModel", name := "quarrel", desc := "()I" } : Jvm.MethodName) prog_13_method_48_code (3 : Nat) (Option.some Jvm.ClassFile.FieldType.int)) ∈ WS := WS_of 1298 (by decide +kernel) rfl
theorem tw_1236 : (Jvm.Cond.methodLink "StoneWorksModel" (296 : Nat) ({ cls := "StoneWorksModel", name := "canBe", desc := "()Z" } : Jvm.MethodName)) ∈ WS := WS_of 1299 (by decide +kernel) rfl
theorem tw_1238 : (Jvm.Cond.instanceMethod ({ cls := "StoneWorksModel", name := "canBe", desc := "()Z" } : Jvm.MethodName)) ∈ WS := WS_of 1301 (by decide +kernel) rfl
theorem tw_1239 : (Jvm.Cond.code ({ cls := "StoneWorksModel", name := "canBe", desc := "()Z" } : Jvm.MethodName) prog_13_method_47_code (3 : Nat) (Option.some Jvm.ClassFile.FieldType.boolean)) ∈ WS := WS_of 1302 (by decide +kernel) rfl
theorem tw_1240 : (Jvm.Cond.methodLink "StoneWorksModel" (293 : Nat) ({ cls := "StoneWorksModel", name := "canBe", desc := "(I)Z" } : Jvm.MethodName)) ∈ WS := WS_of 1303 (by decide +kernel) rfl
theorem tw_1242 : (Jvm.Cond.instanceMethod ({ cls := "StoneWorksModel", name := "canBe", desc := "(I)Z" } : Jvm.MethodName)) ∈ WS := WS_of 1305 (by decide +kernel) rfl
theorem tw_1243 : (Jvm.Cond.code ({ cls := "StoneWorksModel", name := "canBe", desc := "(I)Z" } : Jvm.MethodName) prog_13_method_46_code (6 : Nat) (Option.some Jvm.ClassFile.FieldType.boolean)) ∈ WS := WS_of 1306 (by decide +kernel) rfl
theorem tw_1244 : (Jvm.Cond.methodLink "StoneWorksModel" (289 : Nat) ({ cls := "StoneWorksModel", name := "pointOf", desc := "(I)I" } : Jvm.MethodName)) ∈ WS := WS_of 1307 (by decide +kernel) rfl
theorem tw_1246 : (Jvm.Cond.instanceMethod ({ cls := "StoneWorksModel", name := "pointOf", desc := "(I)I" } : Jvm.MethodName)) ∈ WS := WS_of 1309 (by decide +kernel) rfl
theorem tw_1247 : (Jvm.Cond.code ({ cls := "StoneWorksModel", name := "pointOf", desc := "(I)I" } : Jvm.MethodName) prog_13_method_45_code (3 : Nat) (Option.some Jvm.ClassFile.FieldType.int)) ∈ WS := WS_of 1310 (by decide +kernel) rfl
theorem tw_1248 : (Jvm.Cond.constant "StoneWorksModel" (292 : Nat) (268435456 : Int32)) ∈ WS := WS_of 1311 (by decide +kernel) rfl
theorem tw_1249 : (Jvm.Cond.methodLink "StoneWorksLaw" (95 : Nat) ({ cls := "StoneWorksModel", name := "quarrels", desc := "(I)I" } : Jvm.MethodName)) ∈ WS := WS_of 1312 (by decide +kernel) rfl
theorem tw_1250 : (Jvm.Cond.instanceMethod ({ cls := "StoneWorksModel", name := "quarrels", desc := "(I)I" } : Jvm.MethodName)) ∈ WS := WS_of 1313 (by decide +kernel) rfl
theorem tw_1251 : (Jvm.Cond.selects "StoneWorksModel" ({ cls := "StoneWorksModel", name := "quarrels", desc := "(I)I" } : Jvm.MethodName) ({ cls := "StoneWorksModel", name := "quarrels", desc := "(I)I" } : Jvm.MethodName)) ∈ WS := WS_of 1314 (by decide +kernel) rfl
theorem tw_1252 : (Jvm.Cond.code ({ cls := "StoneWorksModel", name := "quarrels", desc := "(I)I" } : Jvm.MethodName) prog_13_method_49_code (5 : Nat) (Option.some Jvm.ClassFile.FieldType.int)) ∈ WS := WS_of 1315 (by decide +kernel) rfl
theorem tw_1253 : (Jvm.Cond.methodLink "StoneWorksModel" (298 : Nat) ({ cls := "StoneWorksModel", name := "quarrel", desc := "()I" } : Jvm.MethodName)) ∈ WS := WS_of 1316 (by decide +kernel) rfl
theorem tw_1254 : (Jvm.Cond.methodLink "StoneWorksLaw" (99 : Nat) ({ cls := "StoneWorksModel", name := "count", desc := "(I)I" } : Jvm.MethodName)) ∈ WS := WS_of 1317 (by decide +kernel) rfl
theorem tw_1255 : (Jvm.Cond.instanceMethod ({ cls := "StoneWorksModel", name := "count", desc := "(I)I" } : Jvm.MethodName)) ∈ WS := WS_of 1318 (by decide +kernel) rfl
theorem tw_1256 : (Jvm.Cond.selects "StoneWorksModel" ({ cls := "StoneWorksModel", name := "count", desc := "(I)I" } : Jvm.MethodName) ({ cls := "StoneWorksModel", name := "count", desc := "(I)I" } : Jvm.MethodName)) ∈ WS := WS_of 1319 (by decide +kernel) rfl
theorem tw_1257 : (Jvm.Cond.code ({ cls := "StoneWorksModel", name := "count", desc := "(I)I" } : Jvm.MethodName) prog_13_method_50_code (4 : Nat) (Option.some Jvm.ClassFile.FieldType.int)) ∈ WS := WS_of 1320 (by decide +kernel) rfl
theorem tw_1258 : (Jvm.Cond.fieldLink "java/lang/String" (9 : Nat) "java/lang/String" "value" "[B") ∈ WS := WS_of 1321 (by decide +kernel) rfl
theorem tw_1259 : (Jvm.Cond.fieldLink "java/lang/String" (15 : Nat) "java/lang/String" "coder" "B") ∈ WS := WS_of 1322 (by decide +kernel) rfl
theorem ts_0 : Cond.selects "StoneWorks$Seasons" ({ cls := "StoneWorks$Seasons", name := "addRun", desc := "(II)V" } : Jvm.MethodName) ({ cls := "StoneWorks$Seasons", name := "addRun", desc := "(II)V" } : Jvm.MethodName) ∈ WS := WS_of 0 (by decide +kernel) rfl
theorem ts_1 : Cond.selects "StoneWorks$TableReader" ({ cls := "StoneWorks$TableReader", name := "begin", desc := "()V" } : Jvm.MethodName) ({ cls := "StoneWorks$TableReader", name := "begin", desc := "()V" } : Jvm.MethodName) ∈ WS := WS_of 1 (by decide +kernel) rfl
theorem ts_2 : Cond.selects "StoneWorks$TableReader" ({ cls := "StoneWorks$TableReader", name := "skipBlanks", desc := "()V" } : Jvm.MethodName) ({ cls := "StoneWorks$TableReader", name := "skipBlanks", desc := "()V" } : Jvm.MethodName) ∈ WS := WS_of 2 (by decide +kernel) rfl
theorem ts_3 : Cond.selects "StoneWorks$TableReader" ({ cls := "StoneWorks$TableReader", name := "readClause", desc := "()Z" } : Jvm.MethodName) ({ cls := "StoneWorks$TableReader", name := "readClause", desc := "()Z" } : Jvm.MethodName) ∈ WS := WS_of 3 (by decide +kernel) rfl
theorem ts_4 : Cond.selects "StoneWorks$TableReader" ({ cls := "StoneWorks$TableReader", name := "readWord", desc := "()I" } : Jvm.MethodName) ({ cls := "StoneWorks$TableReader", name := "readWord", desc := "()I" } : Jvm.MethodName) ∈ WS := WS_of 4 (by decide +kernel) rfl
theorem ts_5 : Cond.selects "StoneWorks$TableReader" ({ cls := "StoneWorks$TableReader", name := "clauseAt", desc := "(I)I" } : Jvm.MethodName) ({ cls := "StoneWorks$TableReader", name := "clauseAt", desc := "(I)I" } : Jvm.MethodName) ∈ WS := WS_of 5 (by decide +kernel) rfl
theorem ts_6 : Cond.selects "StoneWorks$TableReader" ({ cls := "StoneWorks$TableReader", name := "fail", desc := "(II)Z" } : Jvm.MethodName) ({ cls := "StoneWorks$TableReader", name := "fail", desc := "(II)Z" } : Jvm.MethodName) ∈ WS := WS_of 6 (by decide +kernel) rfl
theorem ts_7 : Cond.selects "StoneWorks$TableReader" ({ cls := "StoneWorks$TableReader", name := "readNumber", desc := "(I)Z" } : Jvm.MethodName) ({ cls := "StoneWorks$TableReader", name := "readNumber", desc := "(I)Z" } : Jvm.MethodName) ∈ WS := WS_of 7 (by decide +kernel) rfl
theorem ts_8 : Cond.selects "StoneWorks$Site" ({ cls := "StoneWorks$Site", name := "hindranceOfNext", desc := "(LStoneWorks$Gang;LStoneWorks$Stone;)I" } : Jvm.MethodName) ({ cls := "StoneWorks$Site", name := "hindranceOfNext", desc := "(LStoneWorks$Gang;LStoneWorks$Stone;)I" } : Jvm.MethodName) ∈ WS := WS_of 8 (by decide +kernel) rfl
theorem ts_9 : Cond.selects "StoneWorks$Site" ({ cls := "StoneWorks$Site", name := "waitsForLesser", desc := "(LStoneWorks$Stone;)Z" } : Jvm.MethodName) ({ cls := "StoneWorks$Site", name := "waitsForLesser", desc := "(LStoneWorks$Stone;)Z" } : Jvm.MethodName) ∈ WS := WS_of 9 (by decide +kernel) rfl
theorem ts_10 : Cond.selects "StoneWorks$Site" ({ cls := "StoneWorks$Site", name := "isRampRaised", desc := "()Z" } : Jvm.MethodName) ({ cls := "StoneWorks$Site", name := "isRampRaised", desc := "()Z" } : Jvm.MethodName) ∈ WS := WS_of 10 (by decide +kernel) rfl
theorem ts_11 : Cond.selects "StoneWorks$Site" ({ cls := "StoneWorks$Site", name := "leaveWork", desc := "(LStoneWorks$Gang;)V" } : Jvm.MethodName) ({ cls := "StoneWorks$Site", name := "leaveWork", desc := "(LStoneWorks$Gang;)V" } : Jvm.MethodName) ∈ WS := WS_of 11 (by decide +kernel) rfl
theorem ts_12 : Cond.selects "StoneWorks$Site" ({ cls := "StoneWorks$Site", name := "isRafting", desc := "(LStoneWorks$Gang;)Z" } : Jvm.MethodName) ({ cls := "StoneWorks$Site", name := "isRafting", desc := "(LStoneWorks$Gang;)Z" } : Jvm.MethodName) ∈ WS := WS_of 12 (by decide +kernel) rfl
theorem ts_13 : Cond.selects "StoneWorks$Site" ({ cls := "StoneWorks$Site", name := "workOneDay", desc := "(IZ)V" } : Jvm.MethodName) ({ cls := "StoneWorks$Site", name := "workOneDay", desc := "(IZ)V" } : Jvm.MethodName) ∈ WS := WS_of 13 (by decide +kernel) rfl
theorem ts_14 : Cond.selects "StoneWorks$Site" ({ cls := "StoneWorks$Site", name := "isTooHeavy", desc := "(ILStoneWorks$Gang;)Z" } : Jvm.MethodName) ({ cls := "StoneWorks$Site", name := "isTooHeavy", desc := "(ILStoneWorks$Gang;)Z" } : Jvm.MethodName) ∈ WS := WS_of 14 (by decide +kernel) rfl
theorem ts_15 : Cond.selects "StoneWorks$Site" ({ cls := "StoneWorks$Site", name := "bringFurther", desc := "(LStoneWorks$Stone;I)V" } : Jvm.MethodName) ({ cls := "StoneWorks$Site", name := "bringFurther", desc := "(LStoneWorks$Stone;I)V" } : Jvm.MethodName) ∈ WS := WS_of 15 (by decide +kernel) rfl
theorem ts_16 : Cond.selects "StoneWorks$Planner" ({ cls := "StoneWorks$Planner", name := "gatherStones", desc := "()Z" } : Jvm.MethodName) ({ cls := "StoneWorks$Planner", name := "gatherStones", desc := "()Z" } : Jvm.MethodName) ∈ WS := WS_of 16 (by decide +kernel) rfl
theorem ts_17 : Cond.selects "StoneWorks$Planner" ({ cls := "StoneWorks$Planner", name := "prepareWorks", desc := "()V" } : Jvm.MethodName) ({ cls := "StoneWorks$Planner", name := "prepareWorks", desc := "()V" } : Jvm.MethodName) ∈ WS := WS_of 17 (by decide +kernel) rfl
theorem ts_18 : Cond.selects "StoneWorks$Planner" ({ cls := "StoneWorks$Planner", name := "leadOf", desc := "(LStoneWorks$Stone;LStoneWorks$Gang;)I" } : Jvm.MethodName) ({ cls := "StoneWorks$Planner", name := "leadOf", desc := "(LStoneWorks$Stone;LStoneWorks$Gang;)I" } : Jvm.MethodName) ∈ WS := WS_of 18 (by decide +kernel) rfl
theorem ts_19 : Cond.selects "StoneWorks$Planner" ({ cls := "StoneWorks$Planner", name := "menWanted", desc := "(LStoneWorks$Stone;)I" } : Jvm.MethodName) ({ cls := "StoneWorks$Planner", name := "menWanted", desc := "(LStoneWorks$Stone;)I" } : Jvm.MethodName) ∈ WS := WS_of 19 (by decide +kernel) rfl
theorem ts_20 : Cond.selects "StoneWorks$Planner" ({ cls := "StoneWorks$Planner", name := "findFloor", desc := "()Z" } : Jvm.MethodName) ({ cls := "StoneWorks$Planner", name := "findFloor", desc := "()Z" } : Jvm.MethodName) ∈ WS := WS_of 20 (by decide +kernel) rfl
theorem ts_21 : Cond.selects "StoneWorks$Planner" ({ cls := "StoneWorks$Planner", name := "readyDay", desc := "(II)I" } : Jvm.MethodName) ({ cls := "StoneWorks$Planner", name := "readyDay", desc := "(II)I" } : Jvm.MethodName) ∈ WS := WS_of 21 (by decide +kernel) rfl
theorem ts_22 : Cond.selects "StoneWorks$Planner" ({ cls := "StoneWorks$Planner", name := "seekLeast", desc := "(III)V" } : Jvm.MethodName) ({ cls := "StoneWorks$Planner", name := "seekLeast", desc := "(III)V" } : Jvm.MethodName) ∈ WS := WS_of 22 (by decide +kernel) rfl
theorem ts_23 : Cond.selects "StoneWorks$Planner" ({ cls := "StoneWorks$Planner", name := "mayComeNext", desc := "(II)Z" } : Jvm.MethodName) ({ cls := "StoneWorks$Planner", name := "mayComeNext", desc := "(II)Z" } : Jvm.MethodName) ∈ WS := WS_of 23 (by decide +kernel) rfl
theorem ts_24 : Cond.selects "StoneWorks$Planner" ({ cls := "StoneWorks$Planner", name := "leastTaker", desc := "(II)I" } : Jvm.MethodName) ({ cls := "StoneWorks$Planner", name := "leastTaker", desc := "(II)I" } : Jvm.MethodName) ∈ WS := WS_of 24 (by decide +kernel) rfl
theorem ts_25 : Cond.selects "StoneWorks$Planner" ({ cls := "StoneWorks$Planner", name := "layDay", desc := "(II)I" } : Jvm.MethodName) ({ cls := "StoneWorks$Planner", name := "layDay", desc := "(II)I" } : Jvm.MethodName) ∈ WS := WS_of 25 (by decide +kernel) rfl
theorem ts_26 : Cond.selects "StoneWorks$Planner" ({ cls := "StoneWorks$Planner", name := "place", desc := "(III)V" } : Jvm.MethodName) ({ cls := "StoneWorks$Planner", name := "place", desc := "(III)V" } : Jvm.MethodName) ∈ WS := WS_of 26 (by decide +kernel) rfl
theorem ts_27 : Cond.selects "StoneWorks$Planner" ({ cls := "StoneWorks$Planner", name := "takeBack", desc := "(II)V" } : Jvm.MethodName) ({ cls := "StoneWorks$Planner", name := "takeBack", desc := "(II)V" } : Jvm.MethodName) ∈ WS := WS_of 27 (by decide +kernel) rfl
theorem ts_28 : Cond.selects "StoneWorks$Planner" ({ cls := "StoneWorks$Planner", name := "seekOrder", desc := "(II)Z" } : Jvm.MethodName) ({ cls := "StoneWorks$Planner", name := "seekOrder", desc := "(II)Z" } : Jvm.MethodName) ∈ WS := WS_of 28 (by decide +kernel) rfl
theorem ts_29 : Cond.selects "StoneWorks$Planner" ({ cls := "StoneWorks$Planner", name := "seekGangs", desc := "(I)Z" } : Jvm.MethodName) ({ cls := "StoneWorks$Planner", name := "seekGangs", desc := "(I)Z" } : Jvm.MethodName) ∈ WS := WS_of 29 (by decide +kernel) rfl
theorem ts_30 : Cond.selects "StoneWorks$Planner" ({ cls := "StoneWorks$Planner", name := "keepPlan", desc := "()V" } : Jvm.MethodName) ({ cls := "StoneWorks$Planner", name := "keepPlan", desc := "()V" } : Jvm.MethodName) ∈ WS := WS_of 30 (by decide +kernel) rfl
theorem ts_31 : Cond.selects "StoneWorks$Tallies" ({ cls := "StoneWorks$Tallies", name := "judge", desc := "()V" } : Jvm.MethodName) ({ cls := "StoneWorks$Tallies", name := "judge", desc := "()V" } : Jvm.MethodName) ∈ WS := WS_of 31 (by decide +kernel) rfl
theorem ts_32 : Cond.selects "StoneWorks$Tallies" ({ cls := "StoneWorks$Tallies", name := "agree", desc := "(I)Z" } : Jvm.MethodName) ({ cls := "StoneWorks$Tallies", name := "agree", desc := "(I)Z" } : Jvm.MethodName) ∈ WS := WS_of 32 (by decide +kernel) rfl
theorem ts_33 : Cond.selects "StoneWorks$Tallies" ({ cls := "StoneWorks$Tallies", name := "agreeOnGang", desc := "(II)Z" } : Jvm.MethodName) ({ cls := "StoneWorks$Tallies", name := "agreeOnGang", desc := "(II)Z" } : Jvm.MethodName) ∈ WS := WS_of 33 (by decide +kernel) rfl
theorem ts_34 : Cond.selects "StoneWorks$Tallies" ({ cls := "StoneWorks$Tallies", name := "addBorder", desc := "(I)V" } : Jvm.MethodName) ({ cls := "StoneWorks$Tallies", name := "addBorder", desc := "(I)V" } : Jvm.MethodName) ∈ WS := WS_of 34 (by decide +kernel) rfl
theorem ts_35 : Cond.selects "StoneWorks$Tallies" ({ cls := "StoneWorks$Tallies", name := "borderAt", desc := "(I)I" } : Jvm.MethodName) ({ cls := "StoneWorks$Tallies", name := "borderAt", desc := "(I)I" } : Jvm.MethodName) ∈ WS := WS_of 35 (by decide +kernel) rfl
theorem ts_36 : Cond.selects "StoneWorks$Tallies" ({ cls := "StoneWorks$Tallies", name := "findBorders", desc := "(I)V" } : Jvm.MethodName) ({ cls := "StoneWorks$Tallies", name := "findBorders", desc := "(I)V" } : Jvm.MethodName) ∈ WS := WS_of 36 (by decide +kernel) rfl
theorem ts_37 : Cond.selects "StoneWorks$Tallies" ({ cls := "StoneWorks$Tallies", name := "raiseNumbers", desc := "(I)Z" } : Jvm.MethodName) ({ cls := "StoneWorks$Tallies", name := "raiseNumbers", desc := "(I)Z" } : Jvm.MethodName) ∈ WS := WS_of 37 (by decide +kernel) rfl
theorem ts_38 : Cond.selects "StoneWorks$Tallies" ({ cls := "StoneWorks$Tallies", name := "raiseTo", desc := "(II)Z" } : Jvm.MethodName) ({ cls := "StoneWorks$Tallies", name := "raiseTo", desc := "(II)Z" } : Jvm.MethodName) ∈ WS := WS_of 38 (by decide +kernel) rfl
theorem ts_39 : Cond.selects "StoneWorksModel" ({ cls := "StoneWorksModel", name := "put", desc := "(I)V" } : Jvm.MethodName) ({ cls := "StoneWorksModel", name := "put", desc := "(I)V" } : Jvm.MethodName) ∈ WS := WS_of 39 (by decide +kernel) rfl
theorem ts_40 : Cond.selects "StoneWorksModel" ({ cls := "StoneWorksModel", name := "isOver", desc := "()Z" } : Jvm.MethodName) ({ cls := "StoneWorksModel", name := "isOver", desc := "()Z" } : Jvm.MethodName) ∈ WS := WS_of 40 (by decide +kernel) rfl
theorem ts_41 : Cond.selects "StoneWorksModel" ({ cls := "StoneWorksModel", name := "clause", desc := "()V" } : Jvm.MethodName) ({ cls := "StoneWorksModel", name := "clause", desc := "()V" } : Jvm.MethodName) ∈ WS := WS_of 41 (by decide +kernel) rfl
theorem ts_42 : Cond.selects "StoneWorksModel" ({ cls := "StoneWorksModel", name := "isWord", desc := "(Ljava/lang/String;)Z" } : Jvm.MethodName) ({ cls := "StoneWorksModel", name := "isWord", desc := "(Ljava/lang/String;)Z" } : Jvm.MethodName) ∈ WS := WS_of 42 (by decide +kernel) rfl
theorem ts_43 : Cond.selects "StoneWorksModel" ({ cls := "StoneWorksModel", name := "fails", desc := "(II)V" } : Jvm.MethodName) ({ cls := "StoneWorksModel", name := "fails", desc := "(II)V" } : Jvm.MethodName) ∈ WS := WS_of 43 (by decide +kernel) rfl
theorem ts_44 : Cond.selects "StoneWorksModel" ({ cls := "StoneWorksModel", name := "number", desc := "(I)I" } : Jvm.MethodName) ({ cls := "StoneWorksModel", name := "number", desc := "(I)I" } : Jvm.MethodName) ∈ WS := WS_of 44 (by decide +kernel) rfl
theorem ts_45 : Cond.selects "StoneWorksModel" ({ cls := "StoneWorksModel", name := "isEnd", desc := "()Z" } : Jvm.MethodName) ({ cls := "StoneWorksModel", name := "isEnd", desc := "()Z" } : Jvm.MethodName) ∈ WS := WS_of 45 (by decide +kernel) rfl
theorem ts_46 : Cond.selects "StoneWorksModel" ({ cls := "StoneWorksModel", name := "worker", desc := "(I)I" } : Jvm.MethodName) ({ cls := "StoneWorksModel", name := "worker", desc := "(I)I" } : Jvm.MethodName) ∈ WS := WS_of 46 (by decide +kernel) rfl
theorem ts_47 : Cond.selects "StoneWorksModel" ({ cls := "StoneWorksModel", name := "is", desc := "(II)Z" } : Jvm.MethodName) ({ cls := "StoneWorksModel", name := "is", desc := "(II)Z" } : Jvm.MethodName) ∈ WS := WS_of 47 (by decide +kernel) rfl
theorem ts_48 : Cond.selects "StoneWorksModel" ({ cls := "StoneWorksModel", name := "pull", desc := "(IIZ)I" } : Jvm.MethodName) ({ cls := "StoneWorksModel", name := "pull", desc := "(IIZ)I" } : Jvm.MethodName) ∈ WS := WS_of 48 (by decide +kernel) rfl
theorem ts_49 : Cond.selects "StoneWorksModel" ({ cls := "StoneWorksModel", name := "lacksLesser", desc := "(I)Z" } : Jvm.MethodName) ({ cls := "StoneWorksModel", name := "lacksLesser", desc := "(I)Z" } : Jvm.MethodName) ∈ WS := WS_of 49 (by decide +kernel) rfl
theorem ts_50 : Cond.selects "StoneWorksModel" ({ cls := "StoneWorksModel", name := "rests", desc := "(I)V" } : Jvm.MethodName) ({ cls := "StoneWorksModel", name := "rests", desc := "(I)V" } : Jvm.MethodName) ∈ WS := WS_of 50 (by decide +kernel) rfl
theorem ts_51 : Cond.selects "StoneWorksModel" ({ cls := "StoneWorksModel", name := "day", desc := "()V" } : Jvm.MethodName) ({ cls := "StoneWorksModel", name := "day", desc := "()V" } : Jvm.MethodName) ∈ WS := WS_of 51 (by decide +kernel) rfl
theorem ts_52 : Cond.selects "StoneWorksModel" ({ cls := "StoneWorksModel", name := "allMen", desc := "()I" } : Jvm.MethodName) ({ cls := "StoneWorksModel", name := "allMen", desc := "()I" } : Jvm.MethodName) ∈ WS := WS_of 52 (by decide +kernel) rfl
theorem ts_53 : Cond.selects "StoneWorksModel" ({ cls := "StoneWorksModel", name := "works", desc := "(I)V" } : Jvm.MethodName) ({ cls := "StoneWorksModel", name := "works", desc := "(I)V" } : Jvm.MethodName) ∈ WS := WS_of 53 (by decide +kernel) rfl
theorem ts_54 : Cond.selects "StoneWorksModel" ({ cls := "StoneWorksModel", name := "rivers", desc := "()V" } : Jvm.MethodName) ({ cls := "StoneWorksModel", name := "rivers", desc := "()V" } : Jvm.MethodName) ∈ WS := WS_of 54 (by decide +kernel) rfl
theorem ts_55 : Cond.selects "StoneWorksModel" ({ cls := "StoneWorksModel", name := "gangs", desc := "(I)I" } : Jvm.MethodName) ({ cls := "StoneWorksModel", name := "gangs", desc := "(I)I" } : Jvm.MethodName) ∈ WS := WS_of 55 (by decide +kernel) rfl
theorem ts_56 : Cond.selects "StoneWorksModel" ({ cls := "StoneWorksModel", name := "can", desc := "(II)Z" } : Jvm.MethodName) ({ cls := "StoneWorksModel", name := "can", desc := "(II)Z" } : Jvm.MethodName) ∈ WS := WS_of 56 (by decide +kernel) rfl
theorem ts_57 : Cond.selects "StoneWorksModel" ({ cls := "StoneWorksModel", name := "lays", desc := "(I)Z" } : Jvm.MethodName) ({ cls := "StoneWorksModel", name := "lays", desc := "(I)Z" } : Jvm.MethodName) ∈ WS := WS_of 57 (by decide +kernel) rfl
theorem ts_58 : Cond.selects "StoneWorksModel" ({ cls := "StoneWorksModel", name := "raftFrom", desc := "(I)I" } : Jvm.MethodName) ({ cls := "StoneWorksModel", name := "raftFrom", desc := "(I)I" } : Jvm.MethodName) ∈ WS := WS_of 58 (by decide +kernel) rfl
theorem ts_59 : Cond.selects "StoneWorksModel" ({ cls := "StoneWorksModel", name := "goesOn", desc := "([II)Z" } : Jvm.MethodName) ({ cls := "StoneWorksModel", name := "goesOn", desc := "([II)Z" } : Jvm.MethodName) ∈ WS := WS_of 59 (by decide +kernel) rfl
theorem ts_60 : Cond.selects "StoneWorksModel" ({ cls := "StoneWorksModel", name := "canBe", desc := "()Z" } : Jvm.MethodName) ({ cls := "StoneWorksModel", name := "canBe", desc := "()Z" } : Jvm.MethodName) ∈ WS := WS_of 60 (by decide +kernel) rfl
theorem ts_61 : Cond.selects "StoneWorksModel" ({ cls := "StoneWorksModel", name := "canBe", desc := "(I)Z" } : Jvm.MethodName) ({ cls := "StoneWorksModel", name := "canBe", desc := "(I)Z" } : Jvm.MethodName) ∈ WS := WS_of 61 (by decide +kernel) rfl
theorem ts_62 : Cond.selects "StoneWorksModel" ({ cls := "StoneWorksModel", name := "pointOf", desc := "(I)I" } : Jvm.MethodName) ({ cls := "StoneWorksModel", name := "pointOf", desc := "(I)I" } : Jvm.MethodName) ∈ WS := WS_of 62 (by decide +kernel) rfl
