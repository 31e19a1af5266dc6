/-- the tables' words that any state keeps -/
def TB : List Cond := lw_tbl.filter goodWord
theorem tb_sub : ∀ w ∈ TB, w ∈ lw_tbl := fun w h => (List.mem_filter.mp h).1
theorem tb_good : ∀ w ∈ TB, (w.onTables && w.keeps) = true ∨ ∃ ty, w = .arrayClass ty := fun w h => good_of_word (List.mem_filter.mp h).2
theorem tb_in {w : Cond} (i : Nat) (h : tables_1[i]? = some w) (h2 : goodWord w = true) : w ∈ TB := List.mem_filter.mpr ⟨List.mem_append_right _ (List.mem_of_getElem? h), h2⟩
theorem tb_inP {w : Cond} (h : w ∈ k2_sels lw_privs) (h2 : goodWord w = true) : w ∈ TB := List.mem_filter.mpr ⟨List.mem_append_left _ h, h2⟩
theorem tw_0 : (Jvm.Cond.initialized "StarRightLaw") ∈ TB := tb_in 0 (by decide +kernel) rfl
theorem tw_1 : (Jvm.Cond.initialized "StarRight") ∈ TB := tb_in 1 (by decide +kernel) rfl
theorem tw_2 : (Jvm.Cond.initialized "StarRight$Text") ∈ TB := tb_in 2 (by decide +kernel) rfl
theorem tw_3 : (Jvm.Cond.initialized "StarRight$Stars") ∈ TB := tb_in 3 (by decide +kernel) rfl
theorem tw_4 : (Jvm.Cond.initialized "StarRight$Town") ∈ TB := tb_in 4 (by decide +kernel) rfl
theorem tw_5 : (Jvm.Cond.initialized "StarRight$Slot") ∈ TB := tb_in 5 (by decide +kernel) rfl
theorem tw_6 : (Jvm.Cond.initialized "StarRight$Sight") ∈ TB := tb_in 6 (by decide +kernel) rfl
theorem tw_7 : (Jvm.Cond.initialized "StarRight$Acts") ∈ TB := tb_in 7 (by decide +kernel) rfl
theorem tw_8 : (Jvm.Cond.initialized "StarRight$Watch") ∈ TB := tb_in 8 (by decide +kernel) rfl
theorem tw_9 : (Jvm.Cond.initialized "StarRight$Contest") ∈ TB := tb_in 9 (by decide +kernel) rfl
theorem tw_10 : (Jvm.Cond.initialized "StarRightModel") ∈ TB := tb_in 10 (by decide +kernel) rfl
theorem tw_11 : (Jvm.Cond.initialized "java/lang/Math") ∈ TB := tb_in 11 (by decide +kernel) rfl
theorem tw_12 : (Jvm.Cond.initialized "java/lang/System") ∈ TB := tb_in 12 (by decide +kernel) rfl
theorem tw_13 : (Jvm.Cond.initialized "java/lang/Integer") ∈ TB := tb_in 13 (by decide +kernel) rfl
theorem tw_14 : (Jvm.Cond.initialized "java/lang/Long") ∈ TB := tb_in 14 (by decide +kernel) rfl
theorem tw_15 : (Jvm.Cond.classLink "StarRightLaw" (7 : Nat) "StarRight") ∈ TB := tb_in 15 (by decide +kernel) rfl
theorem tw_16 : (Jvm.Cond.instantiable "StarRight" (13 : Nat)) ∈ TB := tb_in 16 (by decide +kernel) rfl
theorem tw_17 : (Jvm.Cond.methodLink "StarRightLaw" (9 : Nat) ({ cls := "StarRight", name := "<init>", desc := "()V" } : Jvm.MethodName)) ∈ TB := tb_in 17 (by decide +kernel) rfl
theorem tw_18 : (Jvm.Cond.instanceMethod ({ cls := "StarRight", name := "<init>", desc := "()V" } : Jvm.MethodName)) ∈ TB := tb_in 18 (by decide +kernel) rfl
theorem tw_19 : (Jvm.Cond.code ({ cls := "StarRight", name := "<init>", desc := "()V" } : Jvm.MethodName) prog_1_method_1_code (1 : Nat) (Option.none : Option Jvm.ClassFile.FieldType)) ∈ TB := tb_in 19 (by decide +kernel) rfl
theorem tw_20 : (Jvm.Cond.methodLink "StarRight" (3 : Nat) ({ cls := "java/lang/Object", name := "<init>", desc := "()V" } : Jvm.MethodName)) ∈ TB := tb_in 20 (by decide +kernel) rfl
theorem tw_21 : (Jvm.Cond.instanceMethod ({ cls := "java/lang/Object", name := "<init>", desc := "()V" } : Jvm.MethodName)) ∈ TB := tb_in 21 (by decide +kernel) rfl
theorem tw_22 : (Jvm.Cond.code ({ cls := "java/lang/Object", name := "<init>", desc := "()V" } : Jvm.MethodName) object_method_1_code (1 : Nat) (Option.none : Option Jvm.ClassFile.FieldType)) ∈ TB := tb_in 22 (by decide +kernel) rfl
theorem tw_23 : (Jvm.Cond.classLink "StarRight" (9 : Nat) "StarRight$Text") ∈ TB := tb_in 23 (by decide +kernel) rfl
theorem tw_24 : (Jvm.Cond.instantiable "StarRight$Text" (2 : Nat)) ∈ TB := tb_in 24 (by decide +kernel) rfl
theorem tw_26 : (Jvm.Cond.instanceMethod ({ cls := "StarRight$Text", name := "<init>", desc := "()V" } : Jvm.MethodName)) ∈ TB := tb_in 26 (by decide +kernel) rfl
theorem tw_27 : (Jvm.Cond.code ({ cls := "StarRight$Text", name := "<init>", desc := "()V" } : Jvm.MethodName) prog_7_method_1_code (1 : Nat) (Option.none : Option Jvm.ClassFile.FieldType)) ∈ TB := tb_in 27 (by decide +kernel) rfl
theorem tw_28 : (Jvm.Cond.methodLink "StarRight$Text" (3 : Nat) ({ cls := "java/lang/Object", name := "<init>", desc := "()V" } : Jvm.MethodName)) ∈ TB := tb_in 28 (by decide +kernel) rfl
theorem tw_29 : (Jvm.Cond.fieldLink "StarRight$Text" (9 : Nat) "StarRight$Text" "bytes" "[I") ∈ TB := tb_in 29 (by decide +kernel) rfl
theorem tw_30 : (Jvm.Cond.fieldLink "StarRight$Text" (15 : Nat) "StarRight$Text" "length" "I") ∈ TB := tb_in 30 (by decide +kernel) rfl
theorem tw_32 : (Jvm.Cond.laysFinal "StarRight$Text" "StarRight$Text" "bytes" "[I") ∈ TB := tb_in 32 (by decide +kernel) rfl
theorem tw_34 : (Jvm.Cond.lays "StarRight$Text" "StarRight$Text" "length" "I") ∈ TB := tb_in 34 (by decide +kernel) rfl
theorem tw_38 : (Jvm.Cond.classLink "StarRight" (16 : Nat) "StarRight$Stars") ∈ TB := tb_in 38 (by decide +kernel) rfl
theorem tw_39 : (Jvm.Cond.instantiable "StarRight$Stars" (4 : Nat)) ∈ TB := tb_in 39 (by decide +kernel) rfl
theorem tw_41 : (Jvm.Cond.instanceMethod ({ cls := "StarRight$Stars", name := "<init>", desc := "()V" } : Jvm.MethodName)) ∈ TB := tb_in 41 (by decide +kernel) rfl
theorem tw_42 : (Jvm.Cond.code ({ cls := "StarRight$Stars", name := "<init>", desc := "()V" } : Jvm.MethodName) prog_6_method_1_code (1 : Nat) (Option.none : Option Jvm.ClassFile.FieldType)) ∈ TB := tb_in 42 (by decide +kernel) rfl
theorem tw_43 : (Jvm.Cond.methodLink "StarRight$Stars" (3 : Nat) ({ cls := "java/lang/Object", name := "<init>", desc := "()V" } : Jvm.MethodName)) ∈ TB := tb_in 43 (by decide +kernel) rfl
theorem tw_44 : (Jvm.Cond.fieldLink "StarRight$Stars" (9 : Nat) "StarRight$Stars" "rise" "[I") ∈ TB := tb_in 44 (by decide +kernel) rfl
theorem tw_45 : (Jvm.Cond.fieldLink "StarRight$Stars" (15 : Nat) "StarRight$Stars" "speed" "[I") ∈ TB := tb_in 45 (by decide +kernel) rfl
theorem tw_47 : (Jvm.Cond.fieldLink "StarRight$Stars" (18 : Nat) "StarRight$Stars" "worth" "[I") ∈ TB := tb_in 47 (by decide +kernel) rfl
theorem tw_49 : (Jvm.Cond.fieldLink "StarRight$Stars" (21 : Nat) "StarRight$Stars" "count" "I") ∈ TB := tb_in 49 (by decide +kernel) rfl
theorem tw_52 : (Jvm.Cond.laysFinal "StarRight$Stars" "StarRight$Stars" "rise" "[I") ∈ TB := tb_in 52 (by decide +kernel) rfl
theorem tw_54 : (Jvm.Cond.laysFinal "StarRight$Stars" "StarRight$Stars" "speed" "[I") ∈ TB := tb_in 54 (by decide +kernel) rfl
theorem tw_56 : (Jvm.Cond.laysFinal "StarRight$Stars" "StarRight$Stars" "worth" "[I") ∈ TB := tb_in 56 (by decide +kernel) rfl
theorem tw_58 : (Jvm.Cond.lays "StarRight$Stars" "StarRight$Stars" "count" "I") ∈ TB := tb_in 58 (by decide +kernel) rfl
theorem tw_61 : (Jvm.Cond.classLink "StarRight" (23 : Nat) "StarRight$Town") ∈ TB := tb_in 61 (by decide +kernel) rfl
theorem tw_62 : (Jvm.Cond.instantiable "StarRight$Town" (8 : Nat)) ∈ TB := tb_in 62 (by decide +kernel) rfl
theorem tw_64 : (Jvm.Cond.instanceMethod ({ cls := "StarRight$Town", name := "<init>", desc := "()V" } : Jvm.MethodName)) ∈ TB := tb_in 64 (by decide +kernel) rfl
theorem tw_65 : (Jvm.Cond.code ({ cls := "StarRight$Town", name := "<init>", desc := "()V" } : Jvm.MethodName) prog_8_method_1_code (1 : Nat) (Option.none : Option Jvm.ClassFile.FieldType)) ∈ TB := tb_in 65 (by decide +kernel) rfl
theorem tw_66 : (Jvm.Cond.methodLink "StarRight$Town" (3 : Nat) ({ cls := "java/lang/Object", name := "<init>", desc := "()V" } : Jvm.MethodName)) ∈ TB := tb_in 66 (by decide +kernel) rfl
theorem tw_67 : (Jvm.Cond.fieldLink "StarRight$Town" (9 : Nat) "StarRight$Town" "cell" "[I") ∈ TB := tb_in 67 (by decide +kernel) rfl
theorem tw_69 : (Jvm.Cond.fieldLink "StarRight$Town" (15 : Nat) "StarRight$Town" "height" "[I") ∈ TB := tb_in 69 (by decide +kernel) rfl
theorem tw_71 : (Jvm.Cond.fieldLink "StarRight$Town" (18 : Nat) "StarRight$Town" "owner" "[I") ∈ TB := tb_in 71 (by decide +kernel) rfl
theorem tw_73 : (Jvm.Cond.fieldLink "StarRight$Town" (21 : Nat) "StarRight$Town" "purses" "[I") ∈ TB := tb_in 73 (by decide +kernel) rfl
theorem tw_75 : (Jvm.Cond.fieldLink "StarRight$Town" (24 : Nat) "StarRight$Town" "roofs" "I") ∈ TB := tb_in 75 (by decide +kernel) rfl
theorem tw_77 : (Jvm.Cond.fieldLink "StarRight$Town" (28 : Nat) "StarRight$Town" "smoking" "I") ∈ TB := tb_in 77 (by decide +kernel) rfl
theorem tw_79 : (Jvm.Cond.fieldLink "StarRight$Town" (31 : Nat) "StarRight$Town" "now" "I") ∈ TB := tb_in 79 (by decide +kernel) rfl
theorem tw_82 : (Jvm.Cond.fieldLink "StarRight$Town" (34 : Nat) "StarRight$Town" "cloudy" "Z") ∈ TB := tb_in 82 (by decide +kernel) rfl
theorem tw_85 : (Jvm.Cond.laysFinal "StarRight$Town" "StarRight$Town" "cell" "[I") ∈ TB := tb_in 85 (by decide +kernel) rfl
theorem tw_87 : (Jvm.Cond.laysFinal "StarRight$Town" "StarRight$Town" "height" "[I") ∈ TB := tb_in 87 (by decide +kernel) rfl
theorem tw_89 : (Jvm.Cond.laysFinal "StarRight$Town" "StarRight$Town" "owner" "[I") ∈ TB := tb_in 89 (by decide +kernel) rfl
theorem tw_91 : (Jvm.Cond.laysFinal "StarRight$Town" "StarRight$Town" "purses" "[I") ∈ TB := tb_in 91 (by decide +kernel) rfl
theorem tw_93 : (Jvm.Cond.lays "StarRight$Town" "StarRight$Town" "roofs" "I") ∈ TB := tb_in 93 (by decide +kernel) rfl
theorem tw_95 : (Jvm.Cond.lays "StarRight$Town" "StarRight$Town" "smoking" "I") ∈ TB := tb_in 95 (by decide +kernel) rfl
theorem tw_97 : (Jvm.Cond.lays "StarRight$Town" "StarRight$Town" "now" "I") ∈ TB := tb_in 97 (by decide +kernel) rfl
theorem tw_99 : (Jvm.Cond.lays "StarRight$Town" "StarRight$Town" "cloudy" "Z") ∈ TB := tb_in 99 (by decide +kernel) rfl
theorem tw_102 : (Jvm.Cond.classLink "StarRight" (33 : Nat) "StarRight$Slot") ∈ TB := tb_in 102 (by decide +kernel) rfl
theorem tw_103 : (Jvm.Cond.instantiable "StarRight$Slot" (2 : Nat)) ∈ TB := tb_in 103 (by decide +kernel) rfl
theorem tw_105 : (Jvm.Cond.instanceMethod ({ cls := "StarRight$Slot", name := "<init>", desc := "()V" } : Jvm.MethodName)) ∈ TB := tb_in 105 (by decide +kernel) rfl
theorem tw_106 : (Jvm.Cond.code ({ cls := "StarRight$Slot", name := "<init>", desc := "()V" } : Jvm.MethodName) prog_5_method_1_code (1 : Nat) (Option.none : Option Jvm.ClassFile.FieldType)) ∈ TB := tb_in 106 (by decide +kernel) rfl
theorem tw_107 : (Jvm.Cond.methodLink "StarRight$Slot" (1 : Nat) ({ cls := "java/lang/Object", name := "<init>", desc := "()V" } : Jvm.MethodName)) ∈ TB := tb_in 107 (by decide +kernel) rfl
theorem tw_108 : (Jvm.Cond.classLink "StarRight$Slot" (7 : Nat) "StarRight$Town") ∈ TB := tb_in 108 (by decide +kernel) rfl
theorem tw_110 : (Jvm.Cond.fieldLink "StarRight$Slot" (10 : Nat) "StarRight$Slot" "town" "LStarRight$Town;") ∈ TB := tb_in 110 (by decide +kernel) rfl
theorem tw_113 : (Jvm.Cond.laysFinal "StarRight$Slot" "StarRight$Slot" "town" "LStarRight$Town;") ∈ TB := tb_in 113 (by decide +kernel) rfl
theorem tw_115 : (Jvm.Cond.lays "StarRight$Slot" "StarRight$Slot" "kept" "Z") ∈ TB := tb_in 115 (by decide +kernel) rfl
theorem tw_118 : (Jvm.Cond.classLink "StarRight" (43 : Nat) "StarRight$Sight") ∈ TB := tb_in 118 (by decide +kernel) rfl
theorem tw_119 : (Jvm.Cond.instantiable "StarRight$Sight" (3 : Nat)) ∈ TB := tb_in 119 (by decide +kernel) rfl
theorem tw_121 : (Jvm.Cond.instanceMethod ({ cls := "StarRight$Sight", name := "<init>", desc := "()V" } : Jvm.MethodName)) ∈ TB := tb_in 121 (by decide +kernel) rfl
theorem tw_122 : (Jvm.Cond.code ({ cls := "StarRight$Sight", name := "<init>", desc := "()V" } : Jvm.MethodName) prog_4_method_1_code (1 : Nat) (Option.none : Option Jvm.ClassFile.FieldType)) ∈ TB := tb_in 122 (by decide +kernel) rfl
theorem tw_123 : (Jvm.Cond.methodLink "StarRight$Sight" (3 : Nat) ({ cls := "java/lang/Object", name := "<init>", desc := "()V" } : Jvm.MethodName)) ∈ TB := tb_in 123 (by decide +kernel) rfl
theorem tw_124 : (Jvm.Cond.fieldLink "StarRight$Sight" (9 : Nat) "StarRight$Sight" "seen" "[I") ∈ TB := tb_in 124 (by decide +kernel) rfl
theorem tw_125 : (Jvm.Cond.fieldLink "StarRight$Sight" (15 : Nat) "StarRight$Sight" "smoke" "[I") ∈ TB := tb_in 125 (by decide +kernel) rfl
theorem tw_126 : (Jvm.Cond.fieldLink "StarRight$Sight" (18 : Nat) "StarRight$Sight" "holder" "[I") ∈ TB := tb_in 126 (by decide +kernel) rfl
theorem tw_127 : (Jvm.Cond.laysFinal "StarRight$Sight" "StarRight$Sight" "seen" "[I") ∈ TB := tb_in 127 (by decide +kernel) rfl
theorem tw_129 : (Jvm.Cond.laysFinal "StarRight$Sight" "StarRight$Sight" "smoke" "[I") ∈ TB := tb_in 129 (by decide +kernel) rfl
theorem tw_131 : (Jvm.Cond.laysFinal "StarRight$Sight" "StarRight$Sight" "holder" "[I") ∈ TB := tb_in 131 (by decide +kernel) rfl
theorem tw_134 : (Jvm.Cond.classLink "StarRight" (50 : Nat) "StarRight$Acts") ∈ TB := tb_in 134 (by decide +kernel) rfl
theorem tw_135 : (Jvm.Cond.instantiable "StarRight$Acts" (4 : Nat)) ∈ TB := tb_in 135 (by decide +kernel) rfl
theorem tw_137 : (Jvm.Cond.instanceMethod ({ cls := "StarRight$Acts", name := "<init>", desc := "()V" } : Jvm.MethodName)) ∈ TB := tb_in 137 (by decide +kernel) rfl
theorem tw_138 : (Jvm.Cond.code ({ cls := "StarRight$Acts", name := "<init>", desc := "()V" } : Jvm.MethodName) prog_2_method_1_code (1 : Nat) (Option.none : Option Jvm.ClassFile.FieldType)) ∈ TB := tb_in 138 (by decide +kernel) rfl
theorem tw_139 : (Jvm.Cond.methodLink "StarRight$Acts" (3 : Nat) ({ cls := "java/lang/Object", name := "<init>", desc := "()V" } : Jvm.MethodName)) ∈ TB := tb_in 139 (by decide +kernel) rfl
theorem tw_140 : (Jvm.Cond.fieldLink "StarRight$Acts" (9 : Nat) "StarRight$Acts" "kind" "[I") ∈ TB := tb_in 140 (by decide +kernel) rfl
theorem tw_142 : (Jvm.Cond.fieldLink "StarRight$Acts" (15 : Nat) "StarRight$Acts" "roof" "[I") ∈ TB := tb_in 142 (by decide +kernel) rfl
theorem tw_144 : (Jvm.Cond.fieldLink "StarRight$Acts" (18 : Nat) "StarRight$Acts" "was" "[I") ∈ TB := tb_in 144 (by decide +kernel) rfl
theorem tw_146 : (Jvm.Cond.fieldLink "StarRight$Acts" (21 : Nat) "StarRight$Acts" "count" "I") ∈ TB := tb_in 146 (by decide +kernel) rfl
theorem tw_148 : (Jvm.Cond.laysFinal "StarRight$Acts" "StarRight$Acts" "kind" "[I") ∈ TB := tb_in 148 (by decide +kernel) rfl
theorem tw_150 : (Jvm.Cond.laysFinal "StarRight$Acts" "StarRight$Acts" "roof" "[I") ∈ TB := tb_in 150 (by decide +kernel) rfl
theorem tw_152 : (Jvm.Cond.laysFinal "StarRight$Acts" "StarRight$Acts" "was" "[I") ∈ TB := tb_in 152 (by decide +kernel) rfl
theorem tw_154 : (Jvm.Cond.lays "StarRight$Acts" "StarRight$Acts" "count" "I") ∈ TB := tb_in 154 (by decide +kernel) rfl
theorem tw_157 : (Jvm.Cond.classLink "StarRight" (57 : Nat) "StarRight$Watch") ∈ TB := tb_in 157 (by decide +kernel) rfl
theorem tw_158 : (Jvm.Cond.instantiable "StarRight$Watch" (4 : Nat)) ∈ TB := tb_in 158 (by decide +kernel) rfl
theorem tw_160 : (Jvm.Cond.instanceMethod ({ cls := "StarRight$Watch", name := "<init>", desc := "()V" } : Jvm.MethodName)) ∈ TB := tb_in 160 (by decide +kernel) rfl
theorem tw_161 : (Jvm.Cond.code ({ cls := "StarRight$Watch", name := "<init>", desc := "()V" } : Jvm.MethodName) prog_9_method_1_code (1 : Nat) (Option.none : Option Jvm.ClassFile.FieldType)) ∈ TB := tb_in 161 (by decide +kernel) rfl
theorem tw_162 : (Jvm.Cond.methodLink "StarRight$Watch" (3 : Nat) ({ cls := "java/lang/Object", name := "<init>", desc := "()V" } : Jvm.MethodName)) ∈ TB := tb_in 162 (by decide +kernel) rfl
theorem tw_163 : (Jvm.Cond.fieldLink "StarRight$Watch" (9 : Nat) "StarRight$Watch" "cell" "[I") ∈ TB := tb_in 163 (by decide +kernel) rfl
theorem tw_164 : (Jvm.Cond.fieldLink "StarRight$Watch" (15 : Nat) "StarRight$Watch" "hour" "[I") ∈ TB := tb_in 164 (by decide +kernel) rfl
theorem tw_165 : (Jvm.Cond.fieldLink "StarRight$Watch" (18 : Nat) "StarRight$Watch" "shone" "[Z") ∈ TB := tb_in 165 (by decide +kernel) rfl
theorem tw_166 : (Jvm.Cond.fieldLink "StarRight$Watch" (22 : Nat) "StarRight$Watch" "count" "I") ∈ TB := tb_in 166 (by decide +kernel) rfl
theorem tw_168 : (Jvm.Cond.laysFinal "StarRight$Watch" "StarRight$Watch" "cell" "[I") ∈ TB := tb_in 168 (by decide +kernel) rfl
theorem tw_170 : (Jvm.Cond.laysFinal "StarRight$Watch" "StarRight$Watch" "hour" "[I") ∈ TB := tb_in 170 (by decide +kernel) rfl
theorem tw_172 : (Jvm.Cond.laysFinal "StarRight$Watch" "StarRight$Watch" "shone" "[Z") ∈ TB := tb_in 172 (by decide +kernel) rfl
theorem tw_174 : (Jvm.Cond.lays "StarRight$Watch" "StarRight$Watch" "count" "I") ∈ TB := tb_in 174 (by decide +kernel) rfl
theorem tw_178 : (Jvm.Cond.classLink "StarRight" (64 : Nat) "StarRight$Contest") ∈ TB := tb_in 178 (by decide +kernel) rfl
theorem tw_179 : (Jvm.Cond.instantiable "StarRight$Contest" (2 : Nat)) ∈ TB := tb_in 179 (by decide +kernel) rfl
theorem tw_181 : (Jvm.Cond.instanceMethod ({ cls := "StarRight$Contest", name := "<init>", desc := "()V" } : Jvm.MethodName)) ∈ TB := tb_in 181 (by decide +kernel) rfl
theorem tw_182 : (Jvm.Cond.code ({ cls := "StarRight$Contest", name := "<init>", desc := "()V" } : Jvm.MethodName) prog_3_method_1_code (1 : Nat) (Option.none : Option Jvm.ClassFile.FieldType)) ∈ TB := tb_in 182 (by decide +kernel) rfl
theorem tw_183 : (Jvm.Cond.methodLink "StarRight$Contest" (3 : Nat) ({ cls := "java/lang/Object", name := "<init>", desc := "()V" } : Jvm.MethodName)) ∈ TB := tb_in 183 (by decide +kernel) rfl
theorem tw_184 : (Jvm.Cond.fieldLink "StarRight$Contest" (11 : Nat) "StarRight$Contest" "gain" "[I") ∈ TB := tb_in 184 (by decide +kernel) rfl
theorem tw_185 : (Jvm.Cond.fieldLink "StarRight$Contest" (15 : Nat) "StarRight$Contest" "otherGain" "[I") ∈ TB := tb_in 185 (by decide +kernel) rfl
theorem tw_186 : (Jvm.Cond.laysFinal "StarRight$Contest" "StarRight$Contest" "gain" "[I") ∈ TB := tb_in 186 (by decide +kernel) rfl
theorem tw_188 : (Jvm.Cond.laysFinal "StarRight$Contest" "StarRight$Contest" "otherGain" "[I") ∈ TB := tb_in 188 (by decide +kernel) rfl
theorem tw_191 : (Jvm.Cond.fieldLink "StarRight" (12 : Nat) "StarRight" "text" "LStarRight$Text;") ∈ TB := tb_in 191 (by decide +kernel) rfl
theorem tw_192 : (Jvm.Cond.fieldLink "StarRight" (19 : Nat) "StarRight" "stars" "LStarRight$Stars;") ∈ TB := tb_in 192 (by decide +kernel) rfl
theorem tw_193 : (Jvm.Cond.fieldLink "StarRight" (26 : Nat) "StarRight" "town" "LStarRight$Town;") ∈ TB := tb_in 193 (by decide +kernel) rfl
theorem tw_194 : (Jvm.Cond.fieldLink "StarRight" (30 : Nat) "StarRight" "trial" "LStarRight$Town;") ∈ TB := tb_in 194 (by decide +kernel) rfl
theorem tw_195 : (Jvm.Cond.fieldLink "StarRight" (36 : Nat) "StarRight" "slot0" "LStarRight$Slot;") ∈ TB := tb_in 195 (by decide +kernel) rfl
theorem tw_196 : (Jvm.Cond.fieldLink "StarRight" (40 : Nat) "StarRight" "slot1" "LStarRight$Slot;") ∈ TB := tb_in 196 (by decide +kernel) rfl
theorem tw_197 : (Jvm.Cond.fieldLink "StarRight" (46 : Nat) "StarRight" "sight" "LStarRight$Sight;") ∈ TB := tb_in 197 (by decide +kernel) rfl
theorem tw_198 : (Jvm.Cond.fieldLink "StarRight" (53 : Nat) "StarRight" "acts" "LStarRight$Acts;") ∈ TB := tb_in 198 (by decide +kernel) rfl
theorem tw_199 : (Jvm.Cond.fieldLink "StarRight" (60 : Nat) "StarRight" "watch" "LStarRight$Watch;") ∈ TB := tb_in 199 (by decide +kernel) rfl
theorem tw_200 : (Jvm.Cond.fieldLink "StarRight" (67 : Nat) "StarRight" "contest" "LStarRight$Contest;") ∈ TB := tb_in 200 (by decide +kernel) rfl
theorem tw_201 : (Jvm.Cond.fieldLink "StarRight" (71 : Nat) "StarRight" "rentsBySet" "[I") ∈ TB := tb_in 201 (by decide +kernel) rfl
theorem tw_202 : (Jvm.Cond.fieldLink "StarRight" (101 : Nat) "StarRight" "law" "I") ∈ TB := tb_in 202 (by decide +kernel) rfl
theorem tw_203 : (Jvm.Cond.fieldLink "StarRight" (306 : Nat) "StarRight" "theSeed" "J") ∈ TB := tb_in 203 (by decide +kernel) rfl
theorem tw_204 : (Jvm.Cond.laysFinal "StarRight" "StarRight" "text" "LStarRight$Text;") ∈ TB := tb_in 204 (by decide +kernel) rfl
theorem tw_206 : (Jvm.Cond.laysFinal "StarRight" "StarRight" "stars" "LStarRight$Stars;") ∈ TB := tb_in 206 (by decide +kernel) rfl
theorem tw_208 : (Jvm.Cond.laysFinal "StarRight" "StarRight" "town" "LStarRight$Town;") ∈ TB := tb_in 208 (by decide +kernel) rfl
theorem tw_210 : (Jvm.Cond.laysFinal "StarRight" "StarRight" "trial" "LStarRight$Town;") ∈ TB := tb_in 210 (by decide +kernel) rfl
theorem tw_212 : (Jvm.Cond.laysFinal "StarRight" "StarRight" "slot0" "LStarRight$Slot;") ∈ TB := tb_in 212 (by decide +kernel) rfl
theorem tw_214 : (Jvm.Cond.laysFinal "StarRight" "StarRight" "slot1" "LStarRight$Slot;") ∈ TB := tb_in 214 (by decide +kernel) rfl
theorem tw_216 : (Jvm.Cond.laysFinal "StarRight" "StarRight" "sight" "LStarRight$Sight;") ∈ TB := tb_in 216 (by decide +kernel) rfl
theorem tw_218 : (Jvm.Cond.laysFinal "StarRight" "StarRight" "acts" "LStarRight$Acts;") ∈ TB := tb_in 218 (by decide +kernel) rfl
theorem tw_220 : (Jvm.Cond.laysFinal "StarRight" "StarRight" "watch" "LStarRight$Watch;") ∈ TB := tb_in 220 (by decide +kernel) rfl
theorem tw_222 : (Jvm.Cond.laysFinal "StarRight" "StarRight" "contest" "LStarRight$Contest;") ∈ TB := tb_in 222 (by decide +kernel) rfl
theorem tw_224 : (Jvm.Cond.laysFinal "StarRight" "StarRight" "rentsBySet" "[I") ∈ TB := tb_in 224 (by decide +kernel) rfl
theorem tw_226 : (Jvm.Cond.lays "StarRight" "StarRight" "law" "I") ∈ TB := tb_in 226 (by decide +kernel) rfl
theorem tw_228 : (Jvm.Cond.lays "StarRight" "StarRight" "theSeed" "J") ∈ TB := tb_in 228 (by decide +kernel) rfl
theorem tw_231 : (Jvm.Cond.methodLink "StarRightLaw" (13 : Nat) ({ cls := "StarRight", name := "write", desc := "(I)I" } : Jvm.MethodName)) ∈ TB := tb_in 231 (by decide +kernel) rfl
theorem tw_232 : (Jvm.Cond.instanceMethod ({ cls := "StarRight", name := "write", desc := "(I)I" } : Jvm.MethodName)) ∈ TB := tb_in 232 (by decide +kernel) rfl
theorem tw_233 : (Jvm.Cond.selects "StarRight" ({ cls := "StarRight", name := "write", desc := "(I)I" } : Jvm.MethodName) ({ cls := "StarRight", name := "write", desc := "(I)I" } : Jvm.MethodName)) ∈ TB := tb_in 233 (by decide +kernel) rfl
theorem tw_234 : (Jvm.Cond.code ({ cls := "StarRight", name := "write", desc := "(I)I" } : Jvm.MethodName) prog_1_method_2_code (2 : Nat) (Option.some Jvm.ClassFile.FieldType.int)) ∈ TB := tb_in 234 (by decide +kernel) rfl
theorem tw_235 : (Jvm.Cond.methodLink "StarRight" (75 : Nat) ({ cls := "StarRight$Text", name := "isFull", desc := "()Z" } : Jvm.MethodName)) ∈ TB := tb_in 235 (by decide +kernel) rfl
theorem tw_236 : (Jvm.Cond.instanceMethod ({ cls := "StarRight$Text", name := "isFull", desc := "()Z" } : Jvm.MethodName)) ∈ TB := tb_in 236 (by decide +kernel) rfl
theorem tw_237 : (Jvm.Cond.selects "StarRight$Text" ({ cls := "StarRight$Text", name := "isFull", desc := "()Z" } : Jvm.MethodName) ({ cls := "StarRight$Text", name := "isFull", desc := "()Z" } : Jvm.MethodName)) ∈ TB := tb_in 237 (by decide +kernel) rfl
theorem tw_238 : (Jvm.Cond.code ({ cls := "StarRight$Text", name := "isFull", desc := "()Z" } : Jvm.MethodName) prog_7_method_2_code (1 : Nat) (Option.some Jvm.ClassFile.FieldType.boolean)) ∈ TB := tb_in 238 (by decide +kernel) rfl
theorem tw_239 : (Jvm.Cond.methodLink "StarRight" (79 : Nat) ({ cls := "StarRight$Text", name := "add", desc := "(I)I" } : Jvm.MethodName)) ∈ TB := tb_in 239 (by decide +kernel) rfl
theorem tw_240 : (Jvm.Cond.instanceMethod ({ cls := "StarRight$Text", name := "add", desc := "(I)I" } : Jvm.MethodName)) ∈ TB := tb_in 240 (by decide +kernel) rfl
theorem tw_241 : (Jvm.Cond.selects "StarRight$Text" ({ cls := "StarRight$Text", name := "add", desc := "(I)I" } : Jvm.MethodName) ({ cls := "StarRight$Text", name := "add", desc := "(I)I" } : Jvm.MethodName)) ∈ TB := tb_in 241 (by decide +kernel) rfl
theorem tw_242 : (Jvm.Cond.code ({ cls := "StarRight$Text", name := "add", desc := "(I)I" } : Jvm.MethodName) prog_7_method_3_code (2 : Nat) (Option.some Jvm.ClassFile.FieldType.int)) ∈ TB := tb_in 242 (by decide +kernel) rfl
theorem tw_243 : (Jvm.Cond.methodLink "StarRight$Text" (19 : Nat) ({ cls := "StarRight$Text", name := "isFull", desc := "()Z" } : Jvm.MethodName)) ∈ TB := tb_in 243 (by decide +kernel) rfl
theorem tw_244 : (Jvm.Cond.methodLink "StarRightLaw" (18 : Nat) ({ cls := "StarRight", name := "wipe", desc := "()I" } : Jvm.MethodName)) ∈ TB := tb_in 244 (by decide +kernel) rfl
theorem tw_245 : (Jvm.Cond.instanceMethod ({ cls := "StarRight", name := "wipe", desc := "()I" } : Jvm.MethodName)) ∈ TB := tb_in 245 (by decide +kernel) rfl
theorem tw_246 : (Jvm.Cond.selects "StarRight" ({ cls := "StarRight", name := "wipe", desc := "()I" } : Jvm.MethodName) ({ cls := "StarRight", name := "wipe", desc := "()I" } : Jvm.MethodName)) ∈ TB := tb_in 246 (by decide +kernel) rfl
theorem tw_247 : (Jvm.Cond.code ({ cls := "StarRight", name := "wipe", desc := "()I" } : Jvm.MethodName) prog_1_method_3_code (1 : Nat) (Option.some Jvm.ClassFile.FieldType.int)) ∈ TB := tb_in 247 (by decide +kernel) rfl
theorem tw_248 : (Jvm.Cond.methodLink "StarRight" (83 : Nat) ({ cls := "StarRight$Text", name := "clear", desc := "()I" } : Jvm.MethodName)) ∈ TB := tb_in 248 (by decide +kernel) rfl
theorem tw_249 : (Jvm.Cond.instanceMethod ({ cls := "StarRight$Text", name := "clear", desc := "()I" } : Jvm.MethodName)) ∈ TB := tb_in 249 (by decide +kernel) rfl
theorem tw_250 : (Jvm.Cond.selects "StarRight$Text" ({ cls := "StarRight$Text", name := "clear", desc := "()I" } : Jvm.MethodName) ({ cls := "StarRight$Text", name := "clear", desc := "()I" } : Jvm.MethodName)) ∈ TB := tb_in 250 (by decide +kernel) rfl
theorem tw_251 : (Jvm.Cond.code ({ cls := "StarRight$Text", name := "clear", desc := "()I" } : Jvm.MethodName) prog_7_method_4_code (2 : Nat) (Option.some Jvm.ClassFile.FieldType.int)) ∈ TB := tb_in 251 (by decide +kernel) rfl
theorem tw_252 : (Jvm.Cond.methodLink "StarRightLaw" (23 : Nat) ({ cls := "StarRight", name := "fault", desc := "()I" } : Jvm.MethodName)) ∈ TB := tb_in 252 (by decide +kernel) rfl
theorem tw_253 : (Jvm.Cond.instanceMethod ({ cls := "StarRight", name := "fault", desc := "()I" } : Jvm.MethodName)) ∈ TB := tb_in 253 (by decide +kernel) rfl
theorem tw_254 : (Jvm.Cond.selects "StarRight" ({ cls := "StarRight", name := "fault", desc := "()I" } : Jvm.MethodName) ({ cls := "StarRight", name := "fault", desc := "()I" } : Jvm.MethodName)) ∈ TB := tb_in 254 (by decide +kernel) rfl
theorem tw_255 : (Jvm.Cond.code ({ cls := "StarRight", name := "fault", desc := "()I" } : Jvm.MethodName) prog_1_method_4_code (1 : Nat) (Option.some Jvm.ClassFile.FieldType.int)) ∈ TB := tb_in 255 (by decide +kernel) rfl
theorem tw_256 : (Jvm.Cond.methodLink "StarRight" (87 : Nat) ({ cls := "StarRight$Text", name := "firstFault", desc := "()I" } : Jvm.MethodName)) ∈ TB := tb_in 256 (by decide +kernel) rfl
theorem tw_257 : (Jvm.Cond.instanceMethod ({ cls := "StarRight$Text", name := "firstFault", desc := "()I" } : Jvm.MethodName)) ∈ TB := tb_in 257 (by decide +kernel) rfl
theorem tw_258 : (Jvm.Cond.selects "StarRight$Text" ({ cls := "StarRight$Text", name := "firstFault", desc := "()I" } : Jvm.MethodName) ({ cls := "StarRight$Text", name := "firstFault", desc := "()I" } : Jvm.MethodName)) ∈ TB := tb_in 258 (by decide +kernel) rfl
theorem tw_259 : (Jvm.Cond.code ({ cls := "StarRight$Text", name := "firstFault", desc := "()I" } : Jvm.MethodName) prog_7_method_8_code (6 : Nat) (Option.some Jvm.ClassFile.FieldType.int)) ∈ TB := tb_in 259 (by decide +kernel) rfl
theorem tw_260 : (Jvm.Cond.methodLink "StarRight$Text" (23 : Nat) ({ cls := "StarRight$Text", name := "byteAt", desc := "(I)I" } : Jvm.MethodName)) ∈ TB := tb_in 260 (by decide +kernel) rfl
theorem tw_262 : (Jvm.Cond.instanceMethod ({ cls := "StarRight$Text", name := "byteAt", desc := "(I)I" } : Jvm.MethodName)) ∈ TB := tb_in 262 (by decide +kernel) rfl
theorem tw_263 : (Jvm.Cond.code ({ cls := "StarRight$Text", name := "byteAt", desc := "(I)I" } : Jvm.MethodName) prog_7_method_5_code (2 : Nat) (Option.some Jvm.ClassFile.FieldType.int)) ∈ TB := tb_in 263 (by decide +kernel) rfl
theorem tw_264 : (Jvm.Cond.methodLink "StarRight$Text" (30 : Nat) ({ cls := "StarRight$Text", name := "hasDigit", desc := "(III)Z" } : Jvm.MethodName)) ∈ TB := tb_in 264 (by decide +kernel) rfl
theorem tw_266 : (Jvm.Cond.instanceMethod ({ cls := "StarRight$Text", name := "hasDigit", desc := "(III)Z" } : Jvm.MethodName)) ∈ TB := tb_in 266 (by decide +kernel) rfl
theorem tw_267 : (Jvm.Cond.code ({ cls := "StarRight$Text", name := "hasDigit", desc := "(III)Z" } : Jvm.MethodName) prog_7_method_7_code (4 : Nat) (Option.some Jvm.ClassFile.FieldType.boolean)) ∈ TB := tb_in 267 (by decide +kernel) rfl
theorem tw_268 : (Jvm.Cond.methodLink "StarRight$Text" (27 : Nat) ({ cls := "StarRight$Text", name := "digitAt", desc := "(I)I" } : Jvm.MethodName)) ∈ TB := tb_in 268 (by decide +kernel) rfl
theorem tw_270 : (Jvm.Cond.instanceMethod ({ cls := "StarRight$Text", name := "digitAt", desc := "(I)I" } : Jvm.MethodName)) ∈ TB := tb_in 270 (by decide +kernel) rfl
theorem tw_271 : (Jvm.Cond.code ({ cls := "StarRight$Text", name := "digitAt", desc := "(I)I" } : Jvm.MethodName) prog_7_method_6_code (2 : Nat) (Option.some Jvm.ClassFile.FieldType.int)) ∈ TB := tb_in 271 (by decide +kernel) rfl
theorem tw_272 : (Jvm.Cond.methodLink "StarRight$Text" (34 : Nat) ({ cls := "StarRight$Text", name := "faultInRoof", desc := "(II)I" } : Jvm.MethodName)) ∈ TB := tb_in 272 (by decide +kernel) rfl
theorem tw_274 : (Jvm.Cond.instanceMethod ({ cls := "StarRight$Text", name := "faultInRoof", desc := "(II)I" } : Jvm.MethodName)) ∈ TB := tb_in 274 (by decide +kernel) rfl
theorem tw_275 : (Jvm.Cond.code ({ cls := "StarRight$Text", name := "faultInRoof", desc := "(II)I" } : Jvm.MethodName) prog_7_method_9_code (3 : Nat) (Option.some Jvm.ClassFile.FieldType.int)) ∈ TB := tb_in 275 (by decide +kernel) rfl
theorem tw_276 : (Jvm.Cond.methodLink "StarRight$Text" (38 : Nat) ({ cls := "StarRight$Text", name := "faultInStar", desc := "(I)I" } : Jvm.MethodName)) ∈ TB := tb_in 276 (by decide +kernel) rfl
theorem tw_278 : (Jvm.Cond.instanceMethod ({ cls := "StarRight$Text", name := "faultInStar", desc := "(I)I" } : Jvm.MethodName)) ∈ TB := tb_in 278 (by decide +kernel) rfl
theorem tw_279 : (Jvm.Cond.code ({ cls := "StarRight$Text", name := "faultInStar", desc := "(I)I" } : Jvm.MethodName) prog_7_method_10_code (2 : Nat) (Option.some Jvm.ClassFile.FieldType.int)) ∈ TB := tb_in 279 (by decide +kernel) rfl
theorem tw_280 : (Jvm.Cond.methodLink "StarRightLaw" (27 : Nat) ({ cls := "StarRight", name := "night", desc := "()I" } : Jvm.MethodName)) ∈ TB := tb_in 280 (by decide +kernel) rfl
theorem tw_281 : (Jvm.Cond.instanceMethod ({ cls := "StarRight", name := "night", desc := "()I" } : Jvm.MethodName)) ∈ TB := tb_in 281 (by decide +kernel) rfl
theorem tw_282 : (Jvm.Cond.selects "StarRight" ({ cls := "StarRight", name := "night", desc := "()I" } : Jvm.MethodName) ({ cls := "StarRight", name := "night", desc := "()I" } : Jvm.MethodName)) ∈ TB := tb_in 282 (by decide +kernel) rfl
theorem tw_283 : (Jvm.Cond.code ({ cls := "StarRight", name := "night", desc := "()I" } : Jvm.MethodName) prog_1_method_5_code (1 : Nat) (Option.some Jvm.ClassFile.FieldType.int)) ∈ TB := tb_in 283 (by decide +kernel) rfl
theorem tw_284 : (Jvm.Cond.methodLink "StarRight" (90 : Nat) ({ cls := "StarRight$Town", name := "clear", desc := "()V" } : Jvm.MethodName)) ∈ TB := tb_in 284 (by decide +kernel) rfl
theorem tw_285 : (Jvm.Cond.instanceMethod ({ cls := "StarRight$Town", name := "clear", desc := "()V" } : Jvm.MethodName)) ∈ TB := tb_in 285 (by decide +kernel) rfl
theorem tw_286 : (Jvm.Cond.selects "StarRight$Town" ({ cls := "StarRight$Town", name := "clear", desc := "()V" } : Jvm.MethodName) ({ cls := "StarRight$Town", name := "clear", desc := "()V" } : Jvm.MethodName)) ∈ TB := tb_in 286 (by decide +kernel) rfl
theorem tw_287 : (Jvm.Cond.code ({ cls := "StarRight$Town", name := "clear", desc := "()V" } : Jvm.MethodName) prog_8_method_2_code (2 : Nat) (Option.none : Option Jvm.ClassFile.FieldType)) ∈ TB := tb_in 287 (by decide +kernel) rfl
theorem tw_288 : (Jvm.Cond.methodLink "StarRight" (92 : Nat) ({ cls := "StarRight$Stars", name := "clear", desc := "()V" } : Jvm.MethodName)) ∈ TB := tb_in 288 (by decide +kernel) rfl
theorem tw_289 : (Jvm.Cond.instanceMethod ({ cls := "StarRight$Stars", name := "clear", desc := "()V" } : Jvm.MethodName)) ∈ TB := tb_in 289 (by decide +kernel) rfl
theorem tw_290 : (Jvm.Cond.selects "StarRight$Stars" ({ cls := "StarRight$Stars", name := "clear", desc := "()V" } : Jvm.MethodName) ({ cls := "StarRight$Stars", name := "clear", desc := "()V" } : Jvm.MethodName)) ∈ TB := tb_in 290 (by decide +kernel) rfl
theorem tw_291 : (Jvm.Cond.code ({ cls := "StarRight$Stars", name := "clear", desc := "()V" } : Jvm.MethodName) prog_6_method_2_code (1 : Nat) (Option.none : Option Jvm.ClassFile.FieldType)) ∈ TB := tb_in 291 (by decide +kernel) rfl
theorem tw_292 : (Jvm.Cond.methodLink "StarRight" (93 : Nat) ({ cls := "StarRight$Acts", name := "clear", desc := "()V" } : Jvm.MethodName)) ∈ TB := tb_in 292 (by decide +kernel) rfl
theorem tw_293 : (Jvm.Cond.instanceMethod ({ cls := "StarRight$Acts", name := "clear", desc := "()V" } : Jvm.MethodName)) ∈ TB := tb_in 293 (by decide +kernel) rfl
theorem tw_294 : (Jvm.Cond.selects "StarRight$Acts" ({ cls := "StarRight$Acts", name := "clear", desc := "()V" } : Jvm.MethodName) ({ cls := "StarRight$Acts", name := "clear", desc := "()V" } : Jvm.MethodName)) ∈ TB := tb_in 294 (by decide +kernel) rfl
theorem tw_295 : (Jvm.Cond.code ({ cls := "StarRight$Acts", name := "clear", desc := "()V" } : Jvm.MethodName) prog_2_method_2_code (1 : Nat) (Option.none : Option Jvm.ClassFile.FieldType)) ∈ TB := tb_in 295 (by decide +kernel) rfl
theorem tw_296 : (Jvm.Cond.methodLink "StarRight" (98 : Nat) ({ cls := "StarRight$Text", name := "law", desc := "()I" } : Jvm.MethodName)) ∈ TB := tb_in 296 (by decide +kernel) rfl
theorem tw_297 : (Jvm.Cond.instanceMethod ({ cls := "StarRight$Text", name := "law", desc := "()I" } : Jvm.MethodName)) ∈ TB := tb_in 297 (by decide +kernel) rfl
theorem tw_298 : (Jvm.Cond.selects "StarRight$Text" ({ cls := "StarRight$Text", name := "law", desc := "()I" } : Jvm.MethodName) ({ cls := "StarRight$Text", name := "law", desc := "()I" } : Jvm.MethodName)) ∈ TB := tb_in 298 (by decide +kernel) rfl
theorem tw_299 : (Jvm.Cond.code ({ cls := "StarRight$Text", name := "law", desc := "()I" } : Jvm.MethodName) prog_7_method_11_code (1 : Nat) (Option.some Jvm.ClassFile.FieldType.int)) ∈ TB := tb_in 299 (by decide +kernel) rfl
theorem tw_300 : (Jvm.Cond.methodLink "StarRight" (104 : Nat) ({ cls := "StarRight$Text", name := "tellParts", desc := "(LStarRight$Town;LStarRight$Stars;)V" } : Jvm.MethodName)) ∈ TB := tb_in 300 (by decide +kernel) rfl
theorem tw_301 : (Jvm.Cond.instanceMethod ({ cls := "StarRight$Text", name := "tellParts", desc := "(LStarRight$Town;LStarRight$Stars;)V" } : Jvm.MethodName)) ∈ TB := tb_in 301 (by decide +kernel) rfl
theorem tw_302 : (Jvm.Cond.selects "StarRight$Text" ({ cls := "StarRight$Text", name := "tellParts", desc := "(LStarRight$Town;LStarRight$Stars;)V" } : Jvm.MethodName) ({ cls := "StarRight$Text", name := "tellParts", desc := "(LStarRight$Town;LStarRight$Stars;)V" } : Jvm.MethodName)) ∈ TB := tb_in 302 (by decide +kernel) rfl
theorem tw_303 : (Jvm.Cond.code ({ cls := "StarRight$Text", name := "tellParts", desc := "(LStarRight$Town;LStarRight$Stars;)V" } : Jvm.MethodName) prog_7_method_12_code (4 : Nat) (Option.none : Option Jvm.ClassFile.FieldType)) ∈ TB := tb_in 303 (by decide +kernel) rfl
theorem tw_304 : (Jvm.Cond.methodLink "StarRight$Text" (41 : Nat) ({ cls := "StarRight$Town", name := "addRoof", desc := "(IIII)V" } : Jvm.MethodName)) ∈ TB := tb_in 304 (by decide +kernel) rfl
theorem tw_305 : (Jvm.Cond.instanceMethod ({ cls := "StarRight$Town", name := "addRoof", desc := "(IIII)V" } : Jvm.MethodName)) ∈ TB := tb_in 305 (by decide +kernel) rfl
theorem tw_306 : (Jvm.Cond.selects "StarRight$Town" ({ cls := "StarRight$Town", name := "addRoof", desc := "(IIII)V" } : Jvm.MethodName) ({ cls := "StarRight$Town", name := "addRoof", desc := "(IIII)V" } : Jvm.MethodName)) ∈ TB := tb_in 306 (by decide +kernel) rfl
theorem tw_307 : (Jvm.Cond.code ({ cls := "StarRight$Town", name := "addRoof", desc := "(IIII)V" } : Jvm.MethodName) prog_8_method_4_code (5 : Nat) (Option.none : Option Jvm.ClassFile.FieldType)) ∈ TB := tb_in 307 (by decide +kernel) rfl
theorem tw_308 : (Jvm.Cond.methodLink "StarRight$Text" (47 : Nat) ({ cls := "StarRight$Stars", name := "addStar", desc := "(III)V" } : Jvm.MethodName)) ∈ TB := tb_in 308 (by decide +kernel) rfl
theorem tw_309 : (Jvm.Cond.instanceMethod ({ cls := "StarRight$Stars", name := "addStar", desc := "(III)V" } : Jvm.MethodName)) ∈ TB := tb_in 309 (by decide +kernel) rfl
theorem tw_310 : (Jvm.Cond.selects "StarRight$Stars" ({ cls := "StarRight$Stars", name := "addStar", desc := "(III)V" } : Jvm.MethodName) ({ cls := "StarRight$Stars", name := "addStar", desc := "(III)V" } : Jvm.MethodName)) ∈ TB := tb_in 310 (by decide +kernel) rfl
theorem tw_311 : (Jvm.Cond.code ({ cls := "StarRight$Stars", name := "addStar", desc := "(III)V" } : Jvm.MethodName) prog_6_method_3_code (4 : Nat) (Option.none : Option Jvm.ClassFile.FieldType)) ∈ TB := tb_in 311 (by decide +kernel) rfl
theorem tw_312 : (Jvm.Cond.methodLink "StarRightLaw" (31 : Nat) ({ cls := "StarRight", name := "about", desc := "(I)I" } : Jvm.MethodName)) ∈ TB := tb_in 312 (by decide +kernel) rfl
theorem tw_313 : (Jvm.Cond.instanceMethod ({ cls := "StarRight", name := "about", desc := "(I)I" } : Jvm.MethodName)) ∈ TB := tb_in 313 (by decide +kernel) rfl
theorem tw_314 : (Jvm.Cond.selects "StarRight" ({ cls := "StarRight", name := "about", desc := "(I)I" } : Jvm.MethodName) ({ cls := "StarRight", name := "about", desc := "(I)I" } : Jvm.MethodName)) ∈ TB := tb_in 314 (by decide +kernel) rfl
theorem tw_315 : (Jvm.Cond.code ({ cls := "StarRight", name := "about", desc := "(I)I" } : Jvm.MethodName) prog_1_method_6_code (2 : Nat) (Option.some Jvm.ClassFile.FieldType.int)) ∈ TB := tb_in 315 (by decide +kernel) rfl
theorem tw_316 : (Jvm.Cond.methodLink "StarRight" (123 : Nat) ({ cls := "StarRight$Town", name := "shadedRoofs", desc := "()I" } : Jvm.MethodName)) ∈ TB := tb_in 316 (by decide +kernel) rfl
theorem tw_317 : (Jvm.Cond.instanceMethod ({ cls := "StarRight$Town", name := "shadedRoofs", desc := "()I" } : Jvm.MethodName)) ∈ TB := tb_in 317 (by decide +kernel) rfl
theorem tw_318 : (Jvm.Cond.selects "StarRight$Town" ({ cls := "StarRight$Town", name := "shadedRoofs", desc := "()I" } : Jvm.MethodName) ({ cls := "StarRight$Town", name := "shadedRoofs", desc := "()I" } : Jvm.MethodName)) ∈ TB := tb_in 318 (by decide +kernel) rfl
theorem tw_319 : (Jvm.Cond.code ({ cls := "StarRight$Town", name := "shadedRoofs", desc := "()I" } : Jvm.MethodName) prog_8_method_10_code (3 : Nat) (Option.some Jvm.ClassFile.FieldType.int)) ∈ TB := tb_in 319 (by decide +kernel) rfl
theorem tw_320 : (Jvm.Cond.methodLink "StarRight$Town" (48 : Nat) ({ cls := "StarRight$Town", name := "everyRoof", desc := "()I" } : Jvm.MethodName)) ∈ TB := tb_in 320 (by decide +kernel) rfl
theorem tw_321 : (Jvm.Cond.instanceMethod ({ cls := "StarRight$Town", name := "everyRoof", desc := "()I" } : Jvm.MethodName)) ∈ TB := tb_in 321 (by decide +kernel) rfl
theorem tw_322 : (Jvm.Cond.selects "StarRight$Town" ({ cls := "StarRight$Town", name := "everyRoof", desc := "()I" } : Jvm.MethodName) ({ cls := "StarRight$Town", name := "everyRoof", desc := "()I" } : Jvm.MethodName)) ∈ TB := tb_in 322 (by decide +kernel) rfl
theorem tw_323 : (Jvm.Cond.code ({ cls := "StarRight$Town", name := "everyRoof", desc := "()I" } : Jvm.MethodName) prog_8_method_8_code (1 : Nat) (Option.some Jvm.ClassFile.FieldType.int)) ∈ TB := tb_in 323 (by decide +kernel) rfl
theorem tw_324 : (Jvm.Cond.methodLink "StarRight$Town" (52 : Nat) ({ cls := "StarRight$Town", name := "isShaded", desc := "(II)Z" } : Jvm.MethodName)) ∈ TB := tb_in 324 (by decide +kernel) rfl
theorem tw_326 : (Jvm.Cond.instanceMethod ({ cls := "StarRight$Town", name := "isShaded", desc := "(II)Z" } : Jvm.MethodName)) ∈ TB := tb_in 326 (by decide +kernel) rfl
theorem tw_327 : (Jvm.Cond.code ({ cls := "StarRight$Town", name := "isShaded", desc := "(II)Z" } : Jvm.MethodName) prog_8_method_12_code (5 : Nat) (Option.some Jvm.ClassFile.FieldType.boolean)) ∈ TB := tb_in 327 (by decide +kernel) rfl
theorem tw_328 : (Jvm.Cond.methodLink "StarRight$Town" (44 : Nat) ({ cls := "StarRight$Town", name := "hasRoof", desc := "(I)Z" } : Jvm.MethodName)) ∈ TB := tb_in 328 (by decide +kernel) rfl
theorem tw_329 : (Jvm.Cond.instanceMethod ({ cls := "StarRight$Town", name := "hasRoof", desc := "(I)Z" } : Jvm.MethodName)) ∈ TB := tb_in 329 (by decide +kernel) rfl
theorem tw_330 : (Jvm.Cond.selects "StarRight$Town" ({ cls := "StarRight$Town", name := "hasRoof", desc := "(I)Z" } : Jvm.MethodName) ({ cls := "StarRight$Town", name := "hasRoof", desc := "(I)Z" } : Jvm.MethodName)) ∈ TB := tb_in 330 (by decide +kernel) rfl
theorem tw_331 : (Jvm.Cond.code ({ cls := "StarRight$Town", name := "hasRoof", desc := "(I)Z" } : Jvm.MethodName) prog_8_method_5_code (2 : Nat) (Option.some Jvm.ClassFile.FieldType.boolean)) ∈ TB := tb_in 331 (by decide +kernel) rfl
theorem tw_332 : (Jvm.Cond.methodLink "StarRight$Town" (62 : Nat) ({ cls := "StarRight$Town", name := "distance", desc := "(II)I" } : Jvm.MethodName)) ∈ TB := tb_in 332 (by decide +kernel) rfl
theorem tw_334 : (Jvm.Cond.instanceMethod ({ cls := "StarRight$Town", name := "distance", desc := "(II)I" } : Jvm.MethodName)) ∈ TB := tb_in 334 (by decide +kernel) rfl
theorem tw_335 : (Jvm.Cond.code ({ cls := "StarRight$Town", name := "distance", desc := "(II)I" } : Jvm.MethodName) prog_8_method_11_code (3 : Nat) (Option.some Jvm.ClassFile.FieldType.int)) ∈ TB := tb_in 335 (by decide +kernel) rfl
theorem tw_336 : (Jvm.Cond.methodLink "StarRight$Town" (56 : Nat) ({ cls := "java/lang/Math", name := "abs", desc := "(I)I" } : Jvm.MethodName)) ∈ TB := tb_in 336 (by decide +kernel) rfl
theorem tw_337 : (Jvm.Cond.static ({ cls := "java/lang/Math", name := "abs", desc := "(I)I" } : Jvm.MethodName)) ∈ TB := tb_in 337 (by decide +kernel) rfl
theorem tw_338 : (Jvm.Cond.code ({ cls := "java/lang/Math", name := "abs", desc := "(I)I" } : Jvm.MethodName) prog_14_method_59_code (1 : Nat) (Option.some Jvm.ClassFile.FieldType.int)) ∈ TB := tb_in 338 (by decide +kernel) rfl
theorem tw_339 : (Jvm.Cond.methodLink "StarRightLaw" (35 : Nat) ({ cls := "StarRight", name := "roof", desc := "(II)I" } : Jvm.MethodName)) ∈ TB := tb_in 339 (by decide +kernel) rfl
theorem tw_340 : (Jvm.Cond.instanceMethod ({ cls := "StarRight", name := "roof", desc := "(II)I" } : Jvm.MethodName)) ∈ TB := tb_in 340 (by decide +kernel) rfl
theorem tw_341 : (Jvm.Cond.selects "StarRight" ({ cls := "StarRight", name := "roof", desc := "(II)I" } : Jvm.MethodName) ({ cls := "StarRight", name := "roof", desc := "(II)I" } : Jvm.MethodName)) ∈ TB := tb_in 341 (by decide +kernel) rfl
theorem tw_342 : (Jvm.Cond.code ({ cls := "StarRight", name := "roof", desc := "(II)I" } : Jvm.MethodName) prog_1_method_7_code (3 : Nat) (Option.some Jvm.ClassFile.FieldType.int)) ∈ TB := tb_in 342 (by decide +kernel) rfl
theorem tw_343 : (Jvm.Cond.methodLink "StarRight" (131 : Nat) ({ cls := "StarRight$Town", name := "hasRoof", desc := "(I)Z" } : Jvm.MethodName)) ∈ TB := tb_in 343 (by decide +kernel) rfl
theorem tw_344 : (Jvm.Cond.methodLink "StarRight" (144 : Nat) ({ cls := "StarRight$Town", name := "everyRoof", desc := "()I" } : Jvm.MethodName)) ∈ TB := tb_in 344 (by decide +kernel) rfl
theorem tw_345 : (Jvm.Cond.methodLink "StarRight" (147 : Nat) ({ cls := "StarRight$Town", name := "cellsSeen", desc := "(II)I" } : Jvm.MethodName)) ∈ TB := tb_in 345 (by decide +kernel) rfl
theorem tw_346 : (Jvm.Cond.instanceMethod ({ cls := "StarRight$Town", name := "cellsSeen", desc := "(II)I" } : Jvm.MethodName)) ∈ TB := tb_in 346 (by decide +kernel) rfl
theorem tw_347 : (Jvm.Cond.selects "StarRight$Town" ({ cls := "StarRight$Town", name := "cellsSeen", desc := "(II)I" } : Jvm.MethodName) ({ cls := "StarRight$Town", name := "cellsSeen", desc := "(II)I" } : Jvm.MethodName)) ∈ TB := tb_in 347 (by decide +kernel) rfl
theorem tw_348 : (Jvm.Cond.code ({ cls := "StarRight$Town", name := "cellsSeen", desc := "(II)I" } : Jvm.MethodName) prog_8_method_13_code (6 : Nat) (Option.some Jvm.ClassFile.FieldType.int)) ∈ TB := tb_in 348 (by decide +kernel) rfl
theorem tw_349 : (Jvm.Cond.methodLink "StarRight" (151 : Nat) ({ cls := "StarRight", name := "surveyTown", desc := "()V" } : Jvm.MethodName)) ∈ TB := tb_in 349 (by decide +kernel) rfl
theorem tw_351 : (Jvm.Cond.instanceMethod ({ cls := "StarRight", name := "surveyTown", desc := "()V" } : Jvm.MethodName)) ∈ TB := tb_in 351 (by decide +kernel) rfl
theorem tw_352 : (Jvm.Cond.code ({ cls := "StarRight", name := "surveyTown", desc := "()V" } : Jvm.MethodName) prog_1_method_12_code (1 : Nat) (Option.none : Option Jvm.ClassFile.FieldType)) ∈ TB := tb_in 352 (by decide +kernel) rfl
theorem tw_353 : (Jvm.Cond.methodLink "StarRight" (182 : Nat) ({ cls := "StarRight$Sight", name := "survey", desc := "(LStarRight$Town;II)V" } : Jvm.MethodName)) ∈ TB := tb_in 353 (by decide +kernel) rfl
theorem tw_354 : (Jvm.Cond.instanceMethod ({ cls := "StarRight$Sight", name := "survey", desc := "(LStarRight$Town;II)V" } : Jvm.MethodName)) ∈ TB := tb_in 354 (by decide +kernel) rfl
theorem tw_355 : (Jvm.Cond.selects "StarRight$Sight" ({ cls := "StarRight$Sight", name := "survey", desc := "(LStarRight$Town;II)V" } : Jvm.MethodName) ({ cls := "StarRight$Sight", name := "survey", desc := "(LStarRight$Town;II)V" } : Jvm.MethodName)) ∈ TB := tb_in 355 (by decide +kernel) rfl
theorem tw_356 : (Jvm.Cond.code ({ cls := "StarRight$Sight", name := "survey", desc := "(LStarRight$Town;II)V" } : Jvm.MethodName) prog_4_method_2_code (6 : Nat) (Option.none : Option Jvm.ClassFile.FieldType)) ∈ TB := tb_in 356 (by decide +kernel) rfl
theorem tw_357 : (Jvm.Cond.methodLink "StarRight$Sight" (21 : Nat) ({ cls := "StarRight$Town", name := "cellsSeen", desc := "(II)I" } : Jvm.MethodName)) ∈ TB := tb_in 357 (by decide +kernel) rfl
theorem tw_358 : (Jvm.Cond.methodLink "StarRight$Sight" (27 : Nat) ({ cls := "StarRight$Town", name := "smokeAround", desc := "(II)I" } : Jvm.MethodName)) ∈ TB := tb_in 358 (by decide +kernel) rfl
theorem tw_359 : (Jvm.Cond.instanceMethod ({ cls := "StarRight$Town", name := "smokeAround", desc := "(II)I" } : Jvm.MethodName)) ∈ TB := tb_in 359 (by decide +kernel) rfl
theorem tw_360 : (Jvm.Cond.selects "StarRight$Town" ({ cls := "StarRight$Town", name := "smokeAround", desc := "(II)I" } : Jvm.MethodName) ({ cls := "StarRight$Town", name := "smokeAround", desc := "(II)I" } : Jvm.MethodName)) ∈ TB := tb_in 360 (by decide +kernel) rfl
theorem tw_361 : (Jvm.Cond.code ({ cls := "StarRight$Town", name := "smokeAround", desc := "(II)I" } : Jvm.MethodName) prog_8_method_14_code (6 : Nat) (Option.some Jvm.ClassFile.FieldType.int)) ∈ TB := tb_in 361 (by decide +kernel) rfl
theorem tw_362 : (Jvm.Cond.methodLink "StarRight$Sight" (30 : Nat) ({ cls := "StarRight$Sight", name := "holderByLaw", desc := "(LStarRight$Town;II)I" } : Jvm.MethodName)) ∈ TB := tb_in 362 (by decide +kernel) rfl
theorem tw_364 : (Jvm.Cond.instanceMethod ({ cls := "StarRight$Sight", name := "holderByLaw", desc := "(LStarRight$Town;II)I" } : Jvm.MethodName)) ∈ TB := tb_in 364 (by decide +kernel) rfl
theorem tw_365 : (Jvm.Cond.code ({ cls := "StarRight$Sight", name := "holderByLaw", desc := "(LStarRight$Town;II)I" } : Jvm.MethodName) prog_4_method_3_code (7 : Nat) (Option.some Jvm.ClassFile.FieldType.int)) ∈ TB := tb_in 365 (by decide +kernel) rfl
theorem tw_366 : (Jvm.Cond.methodLink "StarRight$Sight" (34 : Nat) ({ cls := "StarRight$Town", name := "goesAhead", desc := "(IIII)Z" } : Jvm.MethodName)) ∈ TB := tb_in 366 (by decide +kernel) rfl
theorem tw_367 : (Jvm.Cond.instanceMethod ({ cls := "StarRight$Town", name := "goesAhead", desc := "(IIII)Z" } : Jvm.MethodName)) ∈ TB := tb_in 367 (by decide +kernel) rfl
theorem tw_368 : (Jvm.Cond.selects "StarRight$Town" ({ cls := "StarRight$Town", name := "goesAhead", desc := "(IIII)Z" } : Jvm.MethodName) ({ cls := "StarRight$Town", name := "goesAhead", desc := "(IIII)Z" } : Jvm.MethodName)) ∈ TB := tb_in 368 (by decide +kernel) rfl
theorem tw_369 : (Jvm.Cond.code ({ cls := "StarRight$Town", name := "goesAhead", desc := "(IIII)Z" } : Jvm.MethodName) prog_8_method_15_code (6 : Nat) (Option.some Jvm.ClassFile.FieldType.boolean)) ∈ TB := tb_in 369 (by decide +kernel) rfl
theorem tw_370 : (Jvm.Cond.methodLink "StarRight" (154 : Nat) ({ cls := "StarRight", name := "starsHeldNow", desc := "(I)I" } : Jvm.MethodName)) ∈ TB := tb_in 370 (by decide +kernel) rfl
theorem tw_372 : (Jvm.Cond.instanceMethod ({ cls := "StarRight", name := "starsHeldNow", desc := "(I)I" } : Jvm.MethodName)) ∈ TB := tb_in 372 (by decide +kernel) rfl
theorem tw_373 : (Jvm.Cond.code ({ cls := "StarRight", name := "starsHeldNow", desc := "(I)I" } : Jvm.MethodName) prog_1_method_8_code (4 : Nat) (Option.some Jvm.ClassFile.FieldType.int)) ∈ TB := tb_in 373 (by decide +kernel) rfl
theorem tw_374 : (Jvm.Cond.methodLink "StarRight" (157 : Nat) ({ cls := "StarRight$Stars", name := "cellAt", desc := "(II)I" } : Jvm.MethodName)) ∈ TB := tb_in 374 (by decide +kernel) rfl
theorem tw_375 : (Jvm.Cond.instanceMethod ({ cls := "StarRight$Stars", name := "cellAt", desc := "(II)I" } : Jvm.MethodName)) ∈ TB := tb_in 375 (by decide +kernel) rfl
theorem tw_376 : (Jvm.Cond.selects "StarRight$Stars" ({ cls := "StarRight$Stars", name := "cellAt", desc := "(II)I" } : Jvm.MethodName) ({ cls := "StarRight$Stars", name := "cellAt", desc := "(II)I" } : Jvm.MethodName)) ∈ TB := tb_in 376 (by decide +kernel) rfl
theorem tw_377 : (Jvm.Cond.code ({ cls := "StarRight$Stars", name := "cellAt", desc := "(II)I" } : Jvm.MethodName) prog_6_method_6_code (3 : Nat) (Option.some Jvm.ClassFile.FieldType.int)) ∈ TB := tb_in 377 (by decide +kernel) rfl
theorem tw_378 : (Jvm.Cond.methodLink "StarRight$Stars" (25 : Nat) ({ cls := "StarRight$Stars", name := "hasStar", desc := "(I)Z" } : Jvm.MethodName)) ∈ TB := tb_in 378 (by decide +kernel) rfl
theorem tw_379 : (Jvm.Cond.instanceMethod ({ cls := "StarRight$Stars", name := "hasStar", desc := "(I)Z" } : Jvm.MethodName)) ∈ TB := tb_in 379 (by decide +kernel) rfl
theorem tw_380 : (Jvm.Cond.selects "StarRight$Stars" ({ cls := "StarRight$Stars", name := "hasStar", desc := "(I)Z" } : Jvm.MethodName) ({ cls := "StarRight$Stars", name := "hasStar", desc := "(I)Z" } : Jvm.MethodName)) ∈ TB := tb_in 380 (by decide +kernel) rfl
theorem tw_381 : (Jvm.Cond.code ({ cls := "StarRight$Stars", name := "hasStar", desc := "(I)Z" } : Jvm.MethodName) prog_6_method_4_code (2 : Nat) (Option.some Jvm.ClassFile.FieldType.boolean)) ∈ TB := tb_in 381 (by decide +kernel) rfl
theorem tw_382 : (Jvm.Cond.methodLink "StarRight$Stars" (29 : Nat) ({ cls := "StarRight$Stars", name := "walkedTo", desc := "(III)I" } : Jvm.MethodName)) ∈ TB := tb_in 382 (by decide +kernel) rfl
theorem tw_383 : (Jvm.Cond.static ({ cls := "StarRight$Stars", name := "walkedTo", desc := "(III)I" } : Jvm.MethodName)) ∈ TB := tb_in 383 (by decide +kernel) rfl
theorem tw_384 : (Jvm.Cond.code ({ cls := "StarRight$Stars", name := "walkedTo", desc := "(III)I" } : Jvm.MethodName) prog_6_method_7_code (3 : Nat) (Option.some Jvm.ClassFile.FieldType.int)) ∈ TB := tb_in 384 (by decide +kernel) rfl
theorem tw_385 : (Jvm.Cond.methodLink "StarRight" (160 : Nat) ({ cls := "StarRight$Sight", name := "holderOver", desc := "(I)I" } : Jvm.MethodName)) ∈ TB := tb_in 385 (by decide +kernel) rfl
theorem tw_386 : (Jvm.Cond.instanceMethod ({ cls := "StarRight$Sight", name := "holderOver", desc := "(I)I" } : Jvm.MethodName)) ∈ TB := tb_in 386 (by decide +kernel) rfl
theorem tw_387 : (Jvm.Cond.selects "StarRight$Sight" ({ cls := "StarRight$Sight", name := "holderOver", desc := "(I)I" } : Jvm.MethodName) ({ cls := "StarRight$Sight", name := "holderOver", desc := "(I)I" } : Jvm.MethodName)) ∈ TB := tb_in 387 (by decide +kernel) rfl
theorem tw_388 : (Jvm.Cond.code ({ cls := "StarRight$Sight", name := "holderOver", desc := "(I)I" } : Jvm.MethodName) prog_4_method_5_code (2 : Nat) (Option.some Jvm.ClassFile.FieldType.int)) ∈ TB := tb_in 388 (by decide +kernel) rfl
theorem tw_389 : (Jvm.Cond.methodLink "StarRightLaw" (40 : Nat) ({ cls := "StarRight", name := "star", desc := "(II)I" } : Jvm.MethodName)) ∈ TB := tb_in 389 (by decide +kernel) rfl
theorem tw_390 : (Jvm.Cond.instanceMethod ({ cls := "StarRight", name := "star", desc := "(II)I" } : Jvm.MethodName)) ∈ TB := tb_in 390 (by decide +kernel) rfl
theorem tw_391 : (Jvm.Cond.selects "StarRight" ({ cls := "StarRight", name := "star", desc := "(II)I" } : Jvm.MethodName) ({ cls := "StarRight", name := "star", desc := "(II)I" } : Jvm.MethodName)) ∈ TB := tb_in 391 (by decide +kernel) rfl
theorem tw_392 : (Jvm.Cond.code ({ cls := "StarRight", name := "star", desc := "(II)I" } : Jvm.MethodName) prog_1_method_9_code (3 : Nat) (Option.some Jvm.ClassFile.FieldType.int)) ∈ TB := tb_in 392 (by decide +kernel) rfl
theorem tw_393 : (Jvm.Cond.methodLink "StarRight" (163 : Nat) ({ cls := "StarRight$Stars", name := "hasStar", desc := "(I)Z" } : Jvm.MethodName)) ∈ TB := tb_in 393 (by decide +kernel) rfl
theorem tw_394 : (Jvm.Cond.methodLink "StarRight" (172 : Nat) ({ cls := "StarRight$Sight", name := "payOf", desc := "(LStarRight$Stars;II)I" } : Jvm.MethodName)) ∈ TB := tb_in 394 (by decide +kernel) rfl
theorem tw_395 : (Jvm.Cond.instanceMethod ({ cls := "StarRight$Sight", name := "payOf", desc := "(LStarRight$Stars;II)I" } : Jvm.MethodName)) ∈ TB := tb_in 395 (by decide +kernel) rfl
theorem tw_396 : (Jvm.Cond.selects "StarRight$Sight" ({ cls := "StarRight$Sight", name := "payOf", desc := "(LStarRight$Stars;II)I" } : Jvm.MethodName) ({ cls := "StarRight$Sight", name := "payOf", desc := "(LStarRight$Stars;II)I" } : Jvm.MethodName)) ∈ TB := tb_in 396 (by decide +kernel) rfl
theorem tw_397 : (Jvm.Cond.code ({ cls := "StarRight$Sight", name := "payOf", desc := "(LStarRight$Stars;II)I" } : Jvm.MethodName) prog_4_method_7_code (4 : Nat) (Option.some Jvm.ClassFile.FieldType.int)) ∈ TB := tb_in 397 (by decide +kernel) rfl
theorem tw_398 : (Jvm.Cond.methodLink "StarRight$Sight" (44 : Nat) ({ cls := "StarRight$Stars", name := "cellAt", desc := "(II)I" } : Jvm.MethodName)) ∈ TB := tb_in 398 (by decide +kernel) rfl
theorem tw_399 : (Jvm.Cond.methodLink "StarRight$Sight" (47 : Nat) ({ cls := "StarRight$Sight", name := "holderOver", desc := "(I)I" } : Jvm.MethodName)) ∈ TB := tb_in 399 (by decide +kernel) rfl
theorem tw_400 : (Jvm.Cond.methodLink "StarRight$Sight" (51 : Nat) ({ cls := "StarRight$Stars", name := "worthOf", desc := "(I)I" } : Jvm.MethodName)) ∈ TB := tb_in 400 (by decide +kernel) rfl
theorem tw_401 : (Jvm.Cond.instanceMethod ({ cls := "StarRight$Stars", name := "worthOf", desc := "(I)I" } : Jvm.MethodName)) ∈ TB := tb_in 401 (by decide +kernel) rfl
theorem tw_402 : (Jvm.Cond.selects "StarRight$Stars" ({ cls := "StarRight$Stars", name := "worthOf", desc := "(I)I" } : Jvm.MethodName) ({ cls := "StarRight$Stars", name := "worthOf", desc := "(I)I" } : Jvm.MethodName)) ∈ TB := tb_in 402 (by decide +kernel) rfl
theorem tw_403 : (Jvm.Cond.code ({ cls := "StarRight$Stars", name := "worthOf", desc := "(I)I" } : Jvm.MethodName) prog_6_method_5_code (2 : Nat) (Option.some Jvm.ClassFile.FieldType.int)) ∈ TB := tb_in 403 (by decide +kernel) rfl
theorem tw_404 : (Jvm.Cond.methodLink "StarRight$Sight" (54 : Nat) ({ cls := "StarRight$Sight", name := "payTo", desc := "(II)I" } : Jvm.MethodName)) ∈ TB := tb_in 404 (by decide +kernel) rfl
theorem tw_406 : (Jvm.Cond.instanceMethod ({ cls := "StarRight$Sight", name := "payTo", desc := "(II)I" } : Jvm.MethodName)) ∈ TB := tb_in 406 (by decide +kernel) rfl
theorem tw_407 : (Jvm.Cond.code ({ cls := "StarRight$Sight", name := "payTo", desc := "(II)I" } : Jvm.MethodName) prog_4_method_8_code (3 : Nat) (Option.some Jvm.ClassFile.FieldType.int)) ∈ TB := tb_in 407 (by decide +kernel) rfl
theorem tw_408 : (Jvm.Cond.methodLink "StarRight$Sight" (57 : Nat) ({ cls := "java/lang/Math", name := "max", desc := "(II)I" } : Jvm.MethodName)) ∈ TB := tb_in 408 (by decide +kernel) rfl
theorem tw_409 : (Jvm.Cond.static ({ cls := "java/lang/Math", name := "max", desc := "(II)I" } : Jvm.MethodName)) ∈ TB := tb_in 409 (by decide +kernel) rfl
theorem tw_410 : (Jvm.Cond.code ({ cls := "java/lang/Math", name := "max", desc := "(II)I" } : Jvm.MethodName) prog_14_method_65_code (2 : Nat) (Option.some Jvm.ClassFile.FieldType.int)) ∈ TB := tb_in 410 (by decide +kernel) rfl
theorem tw_411 : (Jvm.Cond.methodLink "StarRightLaw" (44 : Nat) ({ cls := "StarRight", name := "purse", desc := "(I)I" } : Jvm.MethodName)) ∈ TB := tb_in 411 (by decide +kernel) rfl
theorem tw_412 : (Jvm.Cond.instanceMethod ({ cls := "StarRight", name := "purse", desc := "(I)I" } : Jvm.MethodName)) ∈ TB := tb_in 412 (by decide +kernel) rfl
theorem tw_413 : (Jvm.Cond.selects "StarRight" ({ cls := "StarRight", name := "purse", desc := "(I)I" } : Jvm.MethodName) ({ cls := "StarRight", name := "purse", desc := "(I)I" } : Jvm.MethodName)) ∈ TB := tb_in 413 (by decide +kernel) rfl
theorem tw_414 : (Jvm.Cond.code ({ cls := "StarRight", name := "purse", desc := "(I)I" } : Jvm.MethodName) prog_1_method_10_code (2 : Nat) (Option.some Jvm.ClassFile.FieldType.int)) ∈ TB := tb_in 414 (by decide +kernel) rfl
theorem tw_415 : (Jvm.Cond.methodLink "StarRight" (176 : Nat) ({ cls := "StarRight", name := "isLandlord", desc := "(I)Z" } : Jvm.MethodName)) ∈ TB := tb_in 415 (by decide +kernel) rfl
theorem tw_416 : (Jvm.Cond.static ({ cls := "StarRight", name := "isLandlord", desc := "(I)Z" } : Jvm.MethodName)) ∈ TB := tb_in 416 (by decide +kernel) rfl
theorem tw_417 : (Jvm.Cond.code ({ cls := "StarRight", name := "isLandlord", desc := "(I)Z" } : Jvm.MethodName) prog_1_method_11_code (1 : Nat) (Option.some Jvm.ClassFile.FieldType.boolean)) ∈ TB := tb_in 417 (by decide +kernel) rfl
theorem tw_418 : (Jvm.Cond.methodLink "StarRightLaw" (48 : Nat) ({ cls := "StarRight", name := "build", desc := "(II)I" } : Jvm.MethodName)) ∈ TB := tb_in 418 (by decide +kernel) rfl
theorem tw_419 : (Jvm.Cond.instanceMethod ({ cls := "StarRight", name := "build", desc := "(II)I" } : Jvm.MethodName)) ∈ TB := tb_in 419 (by decide +kernel) rfl
theorem tw_420 : (Jvm.Cond.selects "StarRight" ({ cls := "StarRight", name := "build", desc := "(II)I" } : Jvm.MethodName) ({ cls := "StarRight", name := "build", desc := "(II)I" } : Jvm.MethodName)) ∈ TB := tb_in 420 (by decide +kernel) rfl
theorem tw_421 : (Jvm.Cond.code ({ cls := "StarRight", name := "build", desc := "(II)I" } : Jvm.MethodName) prog_1_method_13_code (4 : Nat) (Option.some Jvm.ClassFile.FieldType.int)) ∈ TB := tb_in 421 (by decide +kernel) rfl
theorem tw_422 : (Jvm.Cond.methodLink "StarRight" (186 : Nat) ({ cls := "StarRight$Town", name := "setHeight", desc := "(II)V" } : Jvm.MethodName)) ∈ TB := tb_in 422 (by decide +kernel) rfl
theorem tw_423 : (Jvm.Cond.instanceMethod ({ cls := "StarRight$Town", name := "setHeight", desc := "(II)V" } : Jvm.MethodName)) ∈ TB := tb_in 423 (by decide +kernel) rfl
theorem tw_424 : (Jvm.Cond.selects "StarRight$Town" ({ cls := "StarRight$Town", name := "setHeight", desc := "(II)V" } : Jvm.MethodName) ({ cls := "StarRight$Town", name := "setHeight", desc := "(II)V" } : Jvm.MethodName)) ∈ TB := tb_in 424 (by decide +kernel) rfl
theorem tw_425 : (Jvm.Cond.code ({ cls := "StarRight$Town", name := "setHeight", desc := "(II)V" } : Jvm.MethodName) prog_8_method_6_code (3 : Nat) (Option.none : Option Jvm.ClassFile.FieldType)) ∈ TB := tb_in 425 (by decide +kernel) rfl
theorem tw_426 : (Jvm.Cond.methodLink "StarRight" (190 : Nat) ({ cls := "StarRight$Acts", name := "add", desc := "(III)V" } : Jvm.MethodName)) ∈ TB := tb_in 426 (by decide +kernel) rfl
theorem tw_427 : (Jvm.Cond.instanceMethod ({ cls := "StarRight$Acts", name := "add", desc := "(III)V" } : Jvm.MethodName)) ∈ TB := tb_in 427 (by decide +kernel) rfl
theorem tw_428 : (Jvm.Cond.selects "StarRight$Acts" ({ cls := "StarRight$Acts", name := "add", desc := "(III)V" } : Jvm.MethodName) ({ cls := "StarRight$Acts", name := "add", desc := "(III)V" } : Jvm.MethodName)) ∈ TB := tb_in 428 (by decide +kernel) rfl
theorem tw_429 : (Jvm.Cond.code ({ cls := "StarRight$Acts", name := "add", desc := "(III)V" } : Jvm.MethodName) prog_2_method_3_code (4 : Nat) (Option.none : Option Jvm.ClassFile.FieldType)) ∈ TB := tb_in 429 (by decide +kernel) rfl
theorem tw_430 : (Jvm.Cond.methodLink "StarRight$Acts" (25 : Nat) ({ cls := "StarRight$Acts", name := "forgetFirst", desc := "()V" } : Jvm.MethodName)) ∈ TB := tb_in 430 (by decide +kernel) rfl
theorem tw_432 : (Jvm.Cond.instanceMethod ({ cls := "StarRight$Acts", name := "forgetFirst", desc := "()V" } : Jvm.MethodName)) ∈ TB := tb_in 432 (by decide +kernel) rfl
theorem tw_433 : (Jvm.Cond.code ({ cls := "StarRight$Acts", name := "forgetFirst", desc := "()V" } : Jvm.MethodName) prog_2_method_4_code (1 : Nat) (Option.none : Option Jvm.ClassFile.FieldType)) ∈ TB := tb_in 433 (by decide +kernel) rfl
theorem tw_434 : (Jvm.Cond.methodLink "StarRight$Acts" (28 : Nat) ({ cls := "java/lang/System", name := "arraycopy", desc := "(Ljava/lang/Object;ILjava/lang/Object;II)V" } : Jvm.MethodName)) ∈ TB := tb_in 434 (by decide +kernel) rfl
theorem tw_435 : (Jvm.Cond.static ({ cls := "java/lang/System", name := "arraycopy", desc := "(Ljava/lang/Object;ILjava/lang/Object;II)V" } : Jvm.MethodName)) ∈ TB := tb_in 435 (by decide +kernel) rfl
theorem tw_436 : (Jvm.Cond.native ({ cls := "java/lang/System", name := "arraycopy", desc := "(Ljava/lang/Object;ILjava/lang/Object;II)V" } : Jvm.MethodName)) ∈ TB := tb_in 436 (by decide +kernel) rfl
theorem tw_437 : (Jvm.Cond.methodLink "StarRightLaw" (52 : Nat) ({ cls := "StarRight", name := "light", desc := "(I)I" } : Jvm.MethodName)) ∈ TB := tb_in 437 (by decide +kernel) rfl
theorem tw_438 : (Jvm.Cond.instanceMethod ({ cls := "StarRight", name := "light", desc := "(I)I" } : Jvm.MethodName)) ∈ TB := tb_in 438 (by decide +kernel) rfl
theorem tw_439 : (Jvm.Cond.selects "StarRight" ({ cls := "StarRight", name := "light", desc := "(I)I" } : Jvm.MethodName) ({ cls := "StarRight", name := "light", desc := "(I)I" } : Jvm.MethodName)) ∈ TB := tb_in 439 (by decide +kernel) rfl
theorem tw_440 : (Jvm.Cond.code ({ cls := "StarRight", name := "light", desc := "(I)I" } : Jvm.MethodName) prog_1_method_14_code (2 : Nat) (Option.some Jvm.ClassFile.FieldType.int)) ∈ TB := tb_in 440 (by decide +kernel) rfl
theorem tw_441 : (Jvm.Cond.methodLink "StarRightLaw" (56 : Nat) ({ cls := "StarRight", name := "sell", desc := "(II)I" } : Jvm.MethodName)) ∈ TB := tb_in 441 (by decide +kernel) rfl
theorem tw_442 : (Jvm.Cond.instanceMethod ({ cls := "StarRight", name := "sell", desc := "(II)I" } : Jvm.MethodName)) ∈ TB := tb_in 442 (by decide +kernel) rfl
theorem tw_443 : (Jvm.Cond.selects "StarRight" ({ cls := "StarRight", name := "sell", desc := "(II)I" } : Jvm.MethodName) ({ cls := "StarRight", name := "sell", desc := "(II)I" } : Jvm.MethodName)) ∈ TB := tb_in 443 (by decide +kernel) rfl
theorem tw_444 : (Jvm.Cond.code ({ cls := "StarRight", name := "sell", desc := "(II)I" } : Jvm.MethodName) prog_1_method_15_code (4 : Nat) (Option.some Jvm.ClassFile.FieldType.int)) ∈ TB := tb_in 444 (by decide +kernel) rfl
theorem tw_445 : (Jvm.Cond.methodLink "StarRight" (193 : Nat) ({ cls := "StarRight$Town", name := "setOwner", desc := "(II)V" } : Jvm.MethodName)) ∈ TB := tb_in 445 (by decide +kernel) rfl
theorem tw_446 : (Jvm.Cond.instanceMethod ({ cls := "StarRight$Town", name := "setOwner", desc := "(II)V" } : Jvm.MethodName)) ∈ TB := tb_in 446 (by decide +kernel) rfl
theorem tw_447 : (Jvm.Cond.selects "StarRight$Town" ({ cls := "StarRight$Town", name := "setOwner", desc := "(II)V" } : Jvm.MethodName) ({ cls := "StarRight$Town", name := "setOwner", desc := "(II)V" } : Jvm.MethodName)) ∈ TB := tb_in 447 (by decide +kernel) rfl
theorem tw_448 : (Jvm.Cond.code ({ cls := "StarRight$Town", name := "setOwner", desc := "(II)V" } : Jvm.MethodName) prog_8_method_7_code (3 : Nat) (Option.none : Option Jvm.ClassFile.FieldType)) ∈ TB := tb_in 448 (by decide +kernel) rfl
theorem tw_449 : (Jvm.Cond.methodLink "StarRightLaw" (60 : Nat) ({ cls := "StarRight", name := "clouds", desc := "()I" } : Jvm.MethodName)) ∈ TB := tb_in 449 (by decide +kernel) rfl
theorem tw_450 : (Jvm.Cond.instanceMethod ({ cls := "StarRight", name := "clouds", desc := "()I" } : Jvm.MethodName)) ∈ TB := tb_in 450 (by decide +kernel) rfl
theorem tw_451 : (Jvm.Cond.selects "StarRight" ({ cls := "StarRight", name := "clouds", desc := "()I" } : Jvm.MethodName) ({ cls := "StarRight", name := "clouds", desc := "()I" } : Jvm.MethodName)) ∈ TB := tb_in 451 (by decide +kernel) rfl
theorem tw_452 : (Jvm.Cond.code ({ cls := "StarRight", name := "clouds", desc := "()I" } : Jvm.MethodName) prog_1_method_16_code (1 : Nat) (Option.some Jvm.ClassFile.FieldType.int)) ∈ TB := tb_in 452 (by decide +kernel) rfl
theorem tw_453 : (Jvm.Cond.methodLink "StarRightLaw" (64 : Nat) ({ cls := "StarRight", name := "hour", desc := "()I" } : Jvm.MethodName)) ∈ TB := tb_in 453 (by decide +kernel) rfl
theorem tw_454 : (Jvm.Cond.instanceMethod ({ cls := "StarRight", name := "hour", desc := "()I" } : Jvm.MethodName)) ∈ TB := tb_in 454 (by decide +kernel) rfl
theorem tw_455 : (Jvm.Cond.selects "StarRight" ({ cls := "StarRight", name := "hour", desc := "()I" } : Jvm.MethodName) ({ cls := "StarRight", name := "hour", desc := "()I" } : Jvm.MethodName)) ∈ TB := tb_in 455 (by decide +kernel) rfl
theorem tw_456 : (Jvm.Cond.code ({ cls := "StarRight", name := "hour", desc := "()I" } : Jvm.MethodName) prog_1_method_17_code (2 : Nat) (Option.some Jvm.ClassFile.FieldType.int)) ∈ TB := tb_in 456 (by decide +kernel) rfl
theorem tw_457 : (Jvm.Cond.methodLink "StarRight" (196 : Nat) ({ cls := "StarRight", name := "payPurses", desc := "(I)I" } : Jvm.MethodName)) ∈ TB := tb_in 457 (by decide +kernel) rfl
theorem tw_459 : (Jvm.Cond.instanceMethod ({ cls := "StarRight", name := "payPurses", desc := "(I)I" } : Jvm.MethodName)) ∈ TB := tb_in 459 (by decide +kernel) rfl
theorem tw_460 : (Jvm.Cond.code ({ cls := "StarRight", name := "payPurses", desc := "(I)I" } : Jvm.MethodName) prog_1_method_19_code (5 : Nat) (Option.some Jvm.ClassFile.FieldType.int)) ∈ TB := tb_in 460 (by decide +kernel) rfl
theorem tw_461 : (Jvm.Cond.methodLink "StarRight" (211 : Nat) ({ cls := "StarRight$Town", name := "roofsOf", desc := "(I)I" } : Jvm.MethodName)) ∈ TB := tb_in 461 (by decide +kernel) rfl
theorem tw_462 : (Jvm.Cond.instanceMethod ({ cls := "StarRight$Town", name := "roofsOf", desc := "(I)I" } : Jvm.MethodName)) ∈ TB := tb_in 462 (by decide +kernel) rfl
theorem tw_463 : (Jvm.Cond.selects "StarRight$Town" ({ cls := "StarRight$Town", name := "roofsOf", desc := "(I)I" } : Jvm.MethodName) ({ cls := "StarRight$Town", name := "roofsOf", desc := "(I)I" } : Jvm.MethodName)) ∈ TB := tb_in 463 (by decide +kernel) rfl
theorem tw_464 : (Jvm.Cond.code ({ cls := "StarRight$Town", name := "roofsOf", desc := "(I)I" } : Jvm.MethodName) prog_8_method_9_code (4 : Nat) (Option.some Jvm.ClassFile.FieldType.int)) ∈ TB := tb_in 464 (by decide +kernel) rfl
theorem tw_465 : (Jvm.Cond.methodLink "StarRight" (214 : Nat) ({ cls := "StarRight$Sight", name := "takings", desc := "(LStarRight$Town;LStarRight$Stars;II)I" } : Jvm.MethodName)) ∈ TB := tb_in 465 (by decide +kernel) rfl
theorem tw_466 : (Jvm.Cond.instanceMethod ({ cls := "StarRight$Sight", name := "takings", desc := "(LStarRight$Town;LStarRight$Stars;II)I" } : Jvm.MethodName)) ∈ TB := tb_in 466 (by decide +kernel) rfl
theorem tw_467 : (Jvm.Cond.selects "StarRight$Sight" ({ cls := "StarRight$Sight", name := "takings", desc := "(LStarRight$Town;LStarRight$Stars;II)I" } : Jvm.MethodName) ({ cls := "StarRight$Sight", name := "takings", desc := "(LStarRight$Town;LStarRight$Stars;II)I" } : Jvm.MethodName)) ∈ TB := tb_in 467 (by decide +kernel) rfl
theorem tw_468 : (Jvm.Cond.code ({ cls := "StarRight$Sight", name := "takings", desc := "(LStarRight$Town;LStarRight$Stars;II)I" } : Jvm.MethodName) prog_4_method_10_code (7 : Nat) (Option.some Jvm.ClassFile.FieldType.int)) ∈ TB := tb_in 468 (by decide +kernel) rfl
theorem tw_469 : (Jvm.Cond.methodLink "StarRight$Sight" (69 : Nat) ({ cls := "StarRight$Sight", name := "paidAt", desc := "(LStarRight$Stars;II)I" } : Jvm.MethodName)) ∈ TB := tb_in 469 (by decide +kernel) rfl
theorem tw_470 : (Jvm.Cond.instanceMethod ({ cls := "StarRight$Sight", name := "paidAt", desc := "(LStarRight$Stars;II)I" } : Jvm.MethodName)) ∈ TB := tb_in 470 (by decide +kernel) rfl
theorem tw_471 : (Jvm.Cond.selects "StarRight$Sight" ({ cls := "StarRight$Sight", name := "paidAt", desc := "(LStarRight$Stars;II)I" } : Jvm.MethodName) ({ cls := "StarRight$Sight", name := "paidAt", desc := "(LStarRight$Stars;II)I" } : Jvm.MethodName)) ∈ TB := tb_in 471 (by decide +kernel) rfl
theorem tw_472 : (Jvm.Cond.code ({ cls := "StarRight$Sight", name := "paidAt", desc := "(LStarRight$Stars;II)I" } : Jvm.MethodName) prog_4_method_9_code (7 : Nat) (Option.some Jvm.ClassFile.FieldType.int)) ∈ TB := tb_in 472 (by decide +kernel) rfl
theorem tw_473 : (Jvm.Cond.methodLink "StarRightLaw" (68 : Nat) ({ cls := "StarRight", name := "undo", desc := "()I" } : Jvm.MethodName)) ∈ TB := tb_in 473 (by decide +kernel) rfl
theorem tw_474 : (Jvm.Cond.instanceMethod ({ cls := "StarRight", name := "undo", desc := "()I" } : Jvm.MethodName)) ∈ TB := tb_in 474 (by decide +kernel) rfl
theorem tw_475 : (Jvm.Cond.selects "StarRight" ({ cls := "StarRight", name := "undo", desc := "()I" } : Jvm.MethodName) ({ cls := "StarRight", name := "undo", desc := "()I" } : Jvm.MethodName)) ∈ TB := tb_in 475 (by decide +kernel) rfl
theorem tw_476 : (Jvm.Cond.code ({ cls := "StarRight", name := "undo", desc := "()I" } : Jvm.MethodName) prog_1_method_18_code (3 : Nat) (Option.some Jvm.ClassFile.FieldType.int)) ∈ TB := tb_in 476 (by decide +kernel) rfl
theorem tw_477 : (Jvm.Cond.methodLink "StarRight" (199 : Nat) ({ cls := "StarRight$Acts", name := "takeLast", desc := "()I" } : Jvm.MethodName)) ∈ TB := tb_in 477 (by decide +kernel) rfl
theorem tw_478 : (Jvm.Cond.instanceMethod ({ cls := "StarRight$Acts", name := "takeLast", desc := "()I" } : Jvm.MethodName)) ∈ TB := tb_in 478 (by decide +kernel) rfl
theorem tw_479 : (Jvm.Cond.selects "StarRight$Acts" ({ cls := "StarRight$Acts", name := "takeLast", desc := "()I" } : Jvm.MethodName) ({ cls := "StarRight$Acts", name := "takeLast", desc := "()I" } : Jvm.MethodName)) ∈ TB := tb_in 479 (by decide +kernel) rfl
theorem tw_480 : (Jvm.Cond.code ({ cls := "StarRight$Acts", name := "takeLast", desc := "()I" } : Jvm.MethodName) prog_2_method_5_code (1 : Nat) (Option.some Jvm.ClassFile.FieldType.int)) ∈ TB := tb_in 480 (by decide +kernel) rfl
theorem tw_481 : (Jvm.Cond.methodLink "StarRightLaw" (72 : Nat) ({ cls := "StarRight", name := "rents", desc := "(II)I" } : Jvm.MethodName)) ∈ TB := tb_in 481 (by decide +kernel) rfl
theorem tw_482 : (Jvm.Cond.instanceMethod ({ cls := "StarRight", name := "rents", desc := "(II)I" } : Jvm.MethodName)) ∈ TB := tb_in 482 (by decide +kernel) rfl
theorem tw_483 : (Jvm.Cond.selects "StarRight" ({ cls := "StarRight", name := "rents", desc := "(II)I" } : Jvm.MethodName) ({ cls := "StarRight", name := "rents", desc := "(II)I" } : Jvm.MethodName)) ∈ TB := tb_in 483 (by decide +kernel) rfl
theorem tw_484 : (Jvm.Cond.code ({ cls := "StarRight", name := "rents", desc := "(II)I" } : Jvm.MethodName) prog_1_method_20_code (4 : Nat) (Option.some Jvm.ClassFile.FieldType.int)) ∈ TB := tb_in 484 (by decide +kernel) rfl
theorem tw_485 : (Jvm.Cond.methodLink "StarRightLaw" (76 : Nat) ({ cls := "StarRight", name := "hold", desc := "(II)I" } : Jvm.MethodName)) ∈ TB := tb_in 485 (by decide +kernel) rfl
theorem tw_486 : (Jvm.Cond.instanceMethod ({ cls := "StarRight", name := "hold", desc := "(II)I" } : Jvm.MethodName)) ∈ TB := tb_in 486 (by decide +kernel) rfl
theorem tw_487 : (Jvm.Cond.selects "StarRight" ({ cls := "StarRight", name := "hold", desc := "(II)I" } : Jvm.MethodName) ({ cls := "StarRight", name := "hold", desc := "(II)I" } : Jvm.MethodName)) ∈ TB := tb_in 487 (by decide +kernel) rfl
theorem tw_488 : (Jvm.Cond.code ({ cls := "StarRight", name := "hold", desc := "(II)I" } : Jvm.MethodName) prog_1_method_21_code (7 : Nat) (Option.some Jvm.ClassFile.FieldType.int)) ∈ TB := tb_in 488 (by decide +kernel) rfl
theorem tw_489 : (Jvm.Cond.methodLink "StarRight" (218 : Nat) ({ cls := "StarRight", name := "isSpan", desc := "(II)Z" } : Jvm.MethodName)) ∈ TB := tb_in 489 (by decide +kernel) rfl
theorem tw_490 : (Jvm.Cond.static ({ cls := "StarRight", name := "isSpan", desc := "(II)Z" } : Jvm.MethodName)) ∈ TB := tb_in 490 (by decide +kernel) rfl
theorem tw_491 : (Jvm.Cond.code ({ cls := "StarRight", name := "isSpan", desc := "(II)Z" } : Jvm.MethodName) prog_1_method_22_code (2 : Nat) (Option.some Jvm.ClassFile.FieldType.boolean)) ∈ TB := tb_in 491 (by decide +kernel) rfl
theorem tw_492 : (Jvm.Cond.methodLink "StarRight" (222 : Nat) ({ cls := "StarRight$Stars", name := "cellsPassed", desc := "(III)I" } : Jvm.MethodName)) ∈ TB := tb_in 492 (by decide +kernel) rfl
theorem tw_493 : (Jvm.Cond.instanceMethod ({ cls := "StarRight$Stars", name := "cellsPassed", desc := "(III)I" } : Jvm.MethodName)) ∈ TB := tb_in 493 (by decide +kernel) rfl
theorem tw_494 : (Jvm.Cond.selects "StarRight$Stars" ({ cls := "StarRight$Stars", name := "cellsPassed", desc := "(III)I" } : Jvm.MethodName) ({ cls := "StarRight$Stars", name := "cellsPassed", desc := "(III)I" } : Jvm.MethodName)) ∈ TB := tb_in 494 (by decide +kernel) rfl
theorem tw_495 : (Jvm.Cond.code ({ cls := "StarRight$Stars", name := "cellsPassed", desc := "(III)I" } : Jvm.MethodName) prog_6_method_8_code (6 : Nat) (Option.some Jvm.ClassFile.FieldType.int)) ∈ TB := tb_in 495 (by decide +kernel) rfl
theorem tw_496 : (Jvm.Cond.methodLink "StarRight$Stars" (33 : Nat) ({ cls := "StarRight$Stars", name := "cellAt", desc := "(II)I" } : Jvm.MethodName)) ∈ TB := tb_in 496 (by decide +kernel) rfl
theorem tw_497 : (Jvm.Cond.methodLink "StarRight" (226 : Nat) ({ cls := "StarRight$Sight", name := "cellsSeenBy", desc := "(I)I" } : Jvm.MethodName)) ∈ TB := tb_in 497 (by decide +kernel) rfl
theorem tw_498 : (Jvm.Cond.instanceMethod ({ cls := "StarRight$Sight", name := "cellsSeenBy", desc := "(I)I" } : Jvm.MethodName)) ∈ TB := tb_in 498 (by decide +kernel) rfl
theorem tw_499 : (Jvm.Cond.selects "StarRight$Sight" ({ cls := "StarRight$Sight", name := "cellsSeenBy", desc := "(I)I" } : Jvm.MethodName) ({ cls := "StarRight$Sight", name := "cellsSeenBy", desc := "(I)I" } : Jvm.MethodName)) ∈ TB := tb_in 499 (by decide +kernel) rfl
theorem tw_500 : (Jvm.Cond.code ({ cls := "StarRight$Sight", name := "cellsSeenBy", desc := "(I)I" } : Jvm.MethodName) prog_4_method_4_code (4 : Nat) (Option.some Jvm.ClassFile.FieldType.int)) ∈ TB := tb_in 500 (by decide +kernel) rfl
theorem tw_501 : (Jvm.Cond.methodLink "StarRight" (229 : Nat) ({ cls := "java/lang/Integer", name := "bitCount", desc := "(I)I" } : Jvm.MethodName)) ∈ TB := tb_in 501 (by decide +kernel) rfl
theorem tw_502 : (Jvm.Cond.static ({ cls := "java/lang/Integer", name := "bitCount", desc := "(I)I" } : Jvm.MethodName)) ∈ TB := tb_in 502 (by decide +kernel) rfl
theorem tw_503 : (Jvm.Cond.code ({ cls := "java/lang/Integer", name := "bitCount", desc := "(I)I" } : Jvm.MethodName) prog_12_method_49_code (1 : Nat) (Option.some Jvm.ClassFile.FieldType.int)) ∈ TB := tb_in 503 (by decide +kernel) rfl
theorem tw_504 : (Jvm.Cond.constant "java/lang/Integer" (265 : Nat) (1431655765 : Int32)) ∈ TB := tb_in 504 (by decide +kernel) rfl
theorem tw_505 : (Jvm.Cond.constant "java/lang/Integer" (266 : Nat) (858993459 : Int32)) ∈ TB := tb_in 505 (by decide +kernel) rfl
theorem tw_506 : (Jvm.Cond.constant "java/lang/Integer" (267 : Nat) (252645135 : Int32)) ∈ TB := tb_in 506 (by decide +kernel) rfl
theorem tw_507 : (Jvm.Cond.methodLink "StarRightLaw" (80 : Nat) ({ cls := "StarRight", name := "fires", desc := "(II)I" } : Jvm.MethodName)) ∈ TB := tb_in 507 (by decide +kernel) rfl
theorem tw_508 : (Jvm.Cond.instanceMethod ({ cls := "StarRight", name := "fires", desc := "(II)I" } : Jvm.MethodName)) ∈ TB := tb_in 508 (by decide +kernel) rfl
theorem tw_509 : (Jvm.Cond.selects "StarRight" ({ cls := "StarRight", name := "fires", desc := "(II)I" } : Jvm.MethodName) ({ cls := "StarRight", name := "fires", desc := "(II)I" } : Jvm.MethodName)) ∈ TB := tb_in 509 (by decide +kernel) rfl
theorem tw_510 : (Jvm.Cond.code ({ cls := "StarRight", name := "fires", desc := "(II)I" } : Jvm.MethodName) prog_1_method_23_code (8 : Nat) (Option.some Jvm.ClassFile.FieldType.int)) ∈ TB := tb_in 510 (by decide +kernel) rfl
theorem tw_511 : (Jvm.Cond.methodLink "StarRight" (234 : Nat) ({ cls := "StarRight$Town", name := "copyOf", desc := "(LStarRight$Town;)V" } : Jvm.MethodName)) ∈ TB := tb_in 511 (by decide +kernel) rfl
theorem tw_512 : (Jvm.Cond.instanceMethod ({ cls := "StarRight$Town", name := "copyOf", desc := "(LStarRight$Town;)V" } : Jvm.MethodName)) ∈ TB := tb_in 512 (by decide +kernel) rfl
theorem tw_513 : (Jvm.Cond.selects "StarRight$Town" ({ cls := "StarRight$Town", name := "copyOf", desc := "(LStarRight$Town;)V" } : Jvm.MethodName) ({ cls := "StarRight$Town", name := "copyOf", desc := "(LStarRight$Town;)V" } : Jvm.MethodName)) ∈ TB := tb_in 513 (by decide +kernel) rfl
theorem tw_514 : (Jvm.Cond.code ({ cls := "StarRight$Town", name := "copyOf", desc := "(LStarRight$Town;)V" } : Jvm.MethodName) prog_8_method_3_code (2 : Nat) (Option.none : Option Jvm.ClassFile.FieldType)) ∈ TB := tb_in 514 (by decide +kernel) rfl
theorem tw_515 : (Jvm.Cond.methodLink "StarRight$Town" (38 : Nat) ({ cls := "java/lang/System", name := "arraycopy", desc := "(Ljava/lang/Object;ILjava/lang/Object;II)V" } : Jvm.MethodName)) ∈ TB := tb_in 515 (by decide +kernel) rfl
theorem tw_516 : (Jvm.Cond.methodLink "StarRight" (238 : Nat) ({ cls := "StarRight", name := "gainOfFires", desc := "(II)I" } : Jvm.MethodName)) ∈ TB := tb_in 516 (by decide +kernel) rfl
theorem tw_518 : (Jvm.Cond.instanceMethod ({ cls := "StarRight", name := "gainOfFires", desc := "(II)I" } : Jvm.MethodName)) ∈ TB := tb_in 518 (by decide +kernel) rfl
theorem tw_519 : (Jvm.Cond.code ({ cls := "StarRight", name := "gainOfFires", desc := "(II)I" } : Jvm.MethodName) prog_1_method_24_code (3 : Nat) (Option.some Jvm.ClassFile.FieldType.int)) ∈ TB := tb_in 519 (by decide +kernel) rfl
theorem tw_520 : (Jvm.Cond.methodLink "StarRightLaw" (84 : Nat) ({ cls := "StarRight", name := "share", desc := "(IIZ)I" } : Jvm.MethodName)) ∈ TB := tb_in 520 (by decide +kernel) rfl
theorem tw_521 : (Jvm.Cond.instanceMethod ({ cls := "StarRight", name := "share", desc := "(IIZ)I" } : Jvm.MethodName)) ∈ TB := tb_in 521 (by decide +kernel) rfl
theorem tw_522 : (Jvm.Cond.selects "StarRight" ({ cls := "StarRight", name := "share", desc := "(IIZ)I" } : Jvm.MethodName) ({ cls := "StarRight", name := "share", desc := "(IIZ)I" } : Jvm.MethodName)) ∈ TB := tb_in 522 (by decide +kernel) rfl
theorem tw_523 : (Jvm.Cond.code ({ cls := "StarRight", name := "share", desc := "(IIZ)I" } : Jvm.MethodName) prog_1_method_25_code (5 : Nat) (Option.some Jvm.ClassFile.FieldType.int)) ∈ TB := tb_in 523 (by decide +kernel) rfl
theorem tw_524 : (Jvm.Cond.methodLink "StarRight" (241 : Nat) ({ cls := "StarRight", name := "gainInAllOrders", desc := "(I)I" } : Jvm.MethodName)) ∈ TB := tb_in 524 (by decide +kernel) rfl
theorem tw_526 : (Jvm.Cond.instanceMethod ({ cls := "StarRight", name := "gainInAllOrders", desc := "(I)I" } : Jvm.MethodName)) ∈ TB := tb_in 526 (by decide +kernel) rfl
theorem tw_527 : (Jvm.Cond.code ({ cls := "StarRight", name := "gainInAllOrders", desc := "(I)I" } : Jvm.MethodName) prog_1_method_26_code (8 : Nat) (Option.some Jvm.ClassFile.FieldType.int)) ∈ TB := tb_in 527 (by decide +kernel) rfl
theorem tw_528 : (Jvm.Cond.methodLink "StarRight" (244 : Nat) ({ cls := "StarRight", name := "orders", desc := "(I)I" } : Jvm.MethodName)) ∈ TB := tb_in 528 (by decide +kernel) rfl
theorem tw_529 : (Jvm.Cond.static ({ cls := "StarRight", name := "orders", desc := "(I)I" } : Jvm.MethodName)) ∈ TB := tb_in 529 (by decide +kernel) rfl
theorem tw_530 : (Jvm.Cond.code ({ cls := "StarRight", name := "orders", desc := "(I)I" } : Jvm.MethodName) prog_1_method_27_code (1 : Nat) (Option.some Jvm.ClassFile.FieldType.int)) ∈ TB := tb_in 530 (by decide +kernel) rfl
theorem tw_531 : (Jvm.Cond.fieldLink "StarRight" (251 : Nat) "StarRight" "ORDERS" "[I") ∈ TB := tb_in 531 (by decide +kernel) rfl
theorem tw_533 : (Jvm.Cond.methodLink "StarRight" (247 : Nat) ({ cls := "StarRight", name := "fraction", desc := "(IIZ)I" } : Jvm.MethodName)) ∈ TB := tb_in 533 (by decide +kernel) rfl
theorem tw_534 : (Jvm.Cond.static ({ cls := "StarRight", name := "fraction", desc := "(IIZ)I" } : Jvm.MethodName)) ∈ TB := tb_in 534 (by decide +kernel) rfl
theorem tw_535 : (Jvm.Cond.code ({ cls := "StarRight", name := "fraction", desc := "(IIZ)I" } : Jvm.MethodName) prog_1_method_38_code (5 : Nat) (Option.some Jvm.ClassFile.FieldType.int)) ∈ TB := tb_in 535 (by decide +kernel) rfl
theorem tw_536 : (Jvm.Cond.methodLink "StarRight" (298 : Nat) ({ cls := "java/lang/Math", name := "abs", desc := "(I)I" } : Jvm.MethodName)) ∈ TB := tb_in 536 (by decide +kernel) rfl
theorem tw_537 : (Jvm.Cond.methodLink "StarRight" (303 : Nat) ({ cls := "StarRight", name := "commonDivisor", desc := "(II)I" } : Jvm.MethodName)) ∈ TB := tb_in 537 (by decide +kernel) rfl
theorem tw_538 : (Jvm.Cond.static ({ cls := "StarRight", name := "commonDivisor", desc := "(II)I" } : Jvm.MethodName)) ∈ TB := tb_in 538 (by decide +kernel) rfl
theorem tw_539 : (Jvm.Cond.code ({ cls := "StarRight", name := "commonDivisor", desc := "(II)I" } : Jvm.MethodName) prog_1_method_39_code (6 : Nat) (Option.some Jvm.ClassFile.FieldType.int)) ∈ TB := tb_in 539 (by decide +kernel) rfl
theorem tw_540 : (Jvm.Cond.methodLink "StarRightLaw" (89 : Nat) ({ cls := "StarRight", name := "bestLaw", desc := "(II)I" } : Jvm.MethodName)) ∈ TB := tb_in 540 (by decide +kernel) rfl
theorem tw_541 : (Jvm.Cond.instanceMethod ({ cls := "StarRight", name := "bestLaw", desc := "(II)I" } : Jvm.MethodName)) ∈ TB := tb_in 541 (by decide +kernel) rfl
theorem tw_542 : (Jvm.Cond.selects "StarRight" ({ cls := "StarRight", name := "bestLaw", desc := "(II)I" } : Jvm.MethodName) ({ cls := "StarRight", name := "bestLaw", desc := "(II)I" } : Jvm.MethodName)) ∈ TB := tb_in 542 (by decide +kernel) rfl
theorem tw_543 : (Jvm.Cond.code ({ cls := "StarRight", name := "bestLaw", desc := "(II)I" } : Jvm.MethodName) prog_1_method_28_code (7 : Nat) (Option.some Jvm.ClassFile.FieldType.int)) ∈ TB := tb_in 543 (by decide +kernel) rfl
theorem tw_544 : (Jvm.Cond.methodLink "StarRight" (254 : Nat) ({ cls := "StarRight", name := "rentsByLaw", desc := "(III)I" } : Jvm.MethodName)) ∈ TB := tb_in 544 (by decide +kernel) rfl
theorem tw_546 : (Jvm.Cond.instanceMethod ({ cls := "StarRight", name := "rentsByLaw", desc := "(III)I" } : Jvm.MethodName)) ∈ TB := tb_in 546 (by decide +kernel) rfl
theorem tw_547 : (Jvm.Cond.code ({ cls := "StarRight", name := "rentsByLaw", desc := "(III)I" } : Jvm.MethodName) prog_1_method_29_code (4 : Nat) (Option.some Jvm.ClassFile.FieldType.int)) ∈ TB := tb_in 547 (by decide +kernel) rfl
theorem tw_548 : (Jvm.Cond.methodLink "StarRightLaw" (93 : Nat) ({ cls := "StarRight", name := "starless", desc := "(I)I" } : Jvm.MethodName)) ∈ TB := tb_in 548 (by decide +kernel) rfl
theorem tw_549 : (Jvm.Cond.instanceMethod ({ cls := "StarRight", name := "starless", desc := "(I)I" } : Jvm.MethodName)) ∈ TB := tb_in 549 (by decide +kernel) rfl
theorem tw_550 : (Jvm.Cond.selects "StarRight" ({ cls := "StarRight", name := "starless", desc := "(I)I" } : Jvm.MethodName) ({ cls := "StarRight", name := "starless", desc := "(I)I" } : Jvm.MethodName)) ∈ TB := tb_in 550 (by decide +kernel) rfl
theorem tw_551 : (Jvm.Cond.code ({ cls := "StarRight", name := "starless", desc := "(I)I" } : Jvm.MethodName) prog_1_method_30_code (5 : Nat) (Option.some Jvm.ClassFile.FieldType.int)) ∈ TB := tb_in 551 (by decide +kernel) rfl
theorem tw_552 : (Jvm.Cond.methodLink "StarRight" (257 : Nat) ({ cls := "StarRight$Sight", name := "holders", desc := "(LStarRight$Stars;II)I" } : Jvm.MethodName)) ∈ TB := tb_in 552 (by decide +kernel) rfl
theorem tw_553 : (Jvm.Cond.instanceMethod ({ cls := "StarRight$Sight", name := "holders", desc := "(LStarRight$Stars;II)I" } : Jvm.MethodName)) ∈ TB := tb_in 553 (by decide +kernel) rfl
theorem tw_554 : (Jvm.Cond.selects "StarRight$Sight" ({ cls := "StarRight$Sight", name := "holders", desc := "(LStarRight$Stars;II)I" } : Jvm.MethodName) ({ cls := "StarRight$Sight", name := "holders", desc := "(LStarRight$Stars;II)I" } : Jvm.MethodName)) ∈ TB := tb_in 554 (by decide +kernel) rfl
theorem tw_555 : (Jvm.Cond.code ({ cls := "StarRight$Sight", name := "holders", desc := "(LStarRight$Stars;II)I" } : Jvm.MethodName) prog_4_method_6_code (8 : Nat) (Option.some Jvm.ClassFile.FieldType.int)) ∈ TB := tb_in 555 (by decide +kernel) rfl
theorem tw_556 : (Jvm.Cond.methodLink "StarRightLaw" (97 : Nat) ({ cls := "StarRight", name := "rests", desc := "(IIII)I" } : Jvm.MethodName)) ∈ TB := tb_in 556 (by decide +kernel) rfl
theorem tw_557 : (Jvm.Cond.instanceMethod ({ cls := "StarRight", name := "rests", desc := "(IIII)I" } : Jvm.MethodName)) ∈ TB := tb_in 557 (by decide +kernel) rfl
theorem tw_558 : (Jvm.Cond.selects "StarRight" ({ cls := "StarRight", name := "rests", desc := "(IIII)I" } : Jvm.MethodName) ({ cls := "StarRight", name := "rests", desc := "(IIII)I" } : Jvm.MethodName)) ∈ TB := tb_in 558 (by decide +kernel) rfl
theorem tw_559 : (Jvm.Cond.code ({ cls := "StarRight", name := "rests", desc := "(IIII)I" } : Jvm.MethodName) prog_1_method_31_code (6 : Nat) (Option.some Jvm.ClassFile.FieldType.int)) ∈ TB := tb_in 559 (by decide +kernel) rfl
theorem tw_560 : (Jvm.Cond.methodLink "StarRight" (260 : Nat) ({ cls := "StarRight", name := "tryHeights", desc := "(IIII)V" } : Jvm.MethodName)) ∈ TB := tb_in 560 (by decide +kernel) rfl
theorem tw_562 : (Jvm.Cond.instanceMethod ({ cls := "StarRight", name := "tryHeights", desc := "(IIII)V" } : Jvm.MethodName)) ∈ TB := tb_in 562 (by decide +kernel) rfl
theorem tw_563 : (Jvm.Cond.code ({ cls := "StarRight", name := "tryHeights", desc := "(IIII)V" } : Jvm.MethodName) prog_1_method_32_code (9 : Nat) (Option.none : Option Jvm.ClassFile.FieldType)) ∈ TB := tb_in 563 (by decide +kernel) rfl
theorem tw_564 : (Jvm.Cond.methodLink "StarRight" (270 : Nat) ({ cls := "StarRight$Contest", name := "heightOfFirst", desc := "(I)I" } : Jvm.MethodName)) ∈ TB := tb_in 564 (by decide +kernel) rfl
theorem tw_565 : (Jvm.Cond.static ({ cls := "StarRight$Contest", name := "heightOfFirst", desc := "(I)I" } : Jvm.MethodName)) ∈ TB := tb_in 565 (by decide +kernel) rfl
theorem tw_566 : (Jvm.Cond.code ({ cls := "StarRight$Contest", name := "heightOfFirst", desc := "(I)I" } : Jvm.MethodName) prog_3_method_2_code (1 : Nat) (Option.some Jvm.ClassFile.FieldType.int)) ∈ TB := tb_in 566 (by decide +kernel) rfl
theorem tw_567 : (Jvm.Cond.methodLink "StarRight" (273 : Nat) ({ cls := "StarRight$Contest", name := "heightOfOther", desc := "(I)I" } : Jvm.MethodName)) ∈ TB := tb_in 567 (by decide +kernel) rfl
theorem tw_568 : (Jvm.Cond.static ({ cls := "StarRight$Contest", name := "heightOfOther", desc := "(I)I" } : Jvm.MethodName)) ∈ TB := tb_in 568 (by decide +kernel) rfl
theorem tw_569 : (Jvm.Cond.code ({ cls := "StarRight$Contest", name := "heightOfOther", desc := "(I)I" } : Jvm.MethodName) prog_3_method_3_code (1 : Nat) (Option.some Jvm.ClassFile.FieldType.int)) ∈ TB := tb_in 569 (by decide +kernel) rfl
theorem tw_570 : (Jvm.Cond.methodLink "StarRight" (276 : Nat) ({ cls := "StarRight$Contest", name := "put", desc := "(III)V" } : Jvm.MethodName)) ∈ TB := tb_in 570 (by decide +kernel) rfl
theorem tw_571 : (Jvm.Cond.instanceMethod ({ cls := "StarRight$Contest", name := "put", desc := "(III)V" } : Jvm.MethodName)) ∈ TB := tb_in 571 (by decide +kernel) rfl
theorem tw_572 : (Jvm.Cond.selects "StarRight$Contest" ({ cls := "StarRight$Contest", name := "put", desc := "(III)V" } : Jvm.MethodName) ({ cls := "StarRight$Contest", name := "put", desc := "(III)V" } : Jvm.MethodName)) ∈ TB := tb_in 572 (by decide +kernel) rfl
theorem tw_573 : (Jvm.Cond.code ({ cls := "StarRight$Contest", name := "put", desc := "(III)V" } : Jvm.MethodName) prog_3_method_4_code (4 : Nat) (Option.none : Option Jvm.ClassFile.FieldType)) ∈ TB := tb_in 573 (by decide +kernel) rfl
theorem tw_574 : (Jvm.Cond.methodLink "StarRight" (264 : Nat) ({ cls := "StarRight$Contest", name := "pairsAtRest", desc := "()I" } : Jvm.MethodName)) ∈ TB := tb_in 574 (by decide +kernel) rfl
theorem tw_575 : (Jvm.Cond.instanceMethod ({ cls := "StarRight$Contest", name := "pairsAtRest", desc := "()I" } : Jvm.MethodName)) ∈ TB := tb_in 575 (by decide +kernel) rfl
theorem tw_576 : (Jvm.Cond.selects "StarRight$Contest" ({ cls := "StarRight$Contest", name := "pairsAtRest", desc := "()I" } : Jvm.MethodName) ({ cls := "StarRight$Contest", name := "pairsAtRest", desc := "()I" } : Jvm.MethodName)) ∈ TB := tb_in 576 (by decide +kernel) rfl
theorem tw_577 : (Jvm.Cond.code ({ cls := "StarRight$Contest", name := "pairsAtRest", desc := "()I" } : Jvm.MethodName) prog_3_method_6_code (3 : Nat) (Option.some Jvm.ClassFile.FieldType.int)) ∈ TB := tb_in 577 (by decide +kernel) rfl
theorem tw_578 : (Jvm.Cond.methodLink "StarRight$Contest" (25 : Nat) ({ cls := "StarRight$Contest", name := "isAtRest", desc := "(I)Z" } : Jvm.MethodName)) ∈ TB := tb_in 578 (by decide +kernel) rfl
theorem tw_580 : (Jvm.Cond.instanceMethod ({ cls := "StarRight$Contest", name := "isAtRest", desc := "(I)Z" } : Jvm.MethodName)) ∈ TB := tb_in 580 (by decide +kernel) rfl
theorem tw_581 : (Jvm.Cond.code ({ cls := "StarRight$Contest", name := "isAtRest", desc := "(I)Z" } : Jvm.MethodName) prog_3_method_5_code (5 : Nat) (Option.some Jvm.ClassFile.FieldType.boolean)) ∈ TB := tb_in 581 (by decide +kernel) rfl
theorem tw_582 : (Jvm.Cond.methodLink "StarRight$Contest" (18 : Nat) ({ cls := "StarRight$Contest", name := "heightOfOther", desc := "(I)I" } : Jvm.MethodName)) ∈ TB := tb_in 582 (by decide +kernel) rfl
theorem tw_583 : (Jvm.Cond.methodLink "StarRight$Contest" (22 : Nat) ({ cls := "StarRight$Contest", name := "heightOfFirst", desc := "(I)I" } : Jvm.MethodName)) ∈ TB := tb_in 583 (by decide +kernel) rfl
theorem tw_584 : (Jvm.Cond.methodLink "StarRight" (267 : Nat) ({ cls := "StarRight$Contest", name := "firstAtRest", desc := "()I" } : Jvm.MethodName)) ∈ TB := tb_in 584 (by decide +kernel) rfl
theorem tw_585 : (Jvm.Cond.instanceMethod ({ cls := "StarRight$Contest", name := "firstAtRest", desc := "()I" } : Jvm.MethodName)) ∈ TB := tb_in 585 (by decide +kernel) rfl
theorem tw_586 : (Jvm.Cond.selects "StarRight$Contest" ({ cls := "StarRight$Contest", name := "firstAtRest", desc := "()I" } : Jvm.MethodName) ({ cls := "StarRight$Contest", name := "firstAtRest", desc := "()I" } : Jvm.MethodName)) ∈ TB := tb_in 586 (by decide +kernel) rfl
theorem tw_587 : (Jvm.Cond.code ({ cls := "StarRight$Contest", name := "firstAtRest", desc := "()I" } : Jvm.MethodName) prog_3_method_7_code (2 : Nat) (Option.some Jvm.ClassFile.FieldType.int)) ∈ TB := tb_in 587 (by decide +kernel) rfl
theorem tw_588 : (Jvm.Cond.methodLink "StarRightLaw" (102 : Nat) ({ cls := "StarRight", name := "shine", desc := "(IIZ)I" } : Jvm.MethodName)) ∈ TB := tb_in 588 (by decide +kernel) rfl
theorem tw_589 : (Jvm.Cond.instanceMethod ({ cls := "StarRight", name := "shine", desc := "(IIZ)I" } : Jvm.MethodName)) ∈ TB := tb_in 589 (by decide +kernel) rfl
theorem tw_590 : (Jvm.Cond.selects "StarRight" ({ cls := "StarRight", name := "shine", desc := "(IIZ)I" } : Jvm.MethodName) ({ cls := "StarRight", name := "shine", desc := "(IIZ)I" } : Jvm.MethodName)) ∈ TB := tb_in 590 (by decide +kernel) rfl
theorem tw_591 : (Jvm.Cond.code ({ cls := "StarRight", name := "shine", desc := "(IIZ)I" } : Jvm.MethodName) prog_1_method_33_code (4 : Nat) (Option.some Jvm.ClassFile.FieldType.int)) ∈ TB := tb_in 591 (by decide +kernel) rfl
theorem tw_592 : (Jvm.Cond.methodLink "StarRight" (279 : Nat) ({ cls := "StarRight$Watch", name := "isFull", desc := "()Z" } : Jvm.MethodName)) ∈ TB := tb_in 592 (by decide +kernel) rfl
theorem tw_593 : (Jvm.Cond.instanceMethod ({ cls := "StarRight$Watch", name := "isFull", desc := "()Z" } : Jvm.MethodName)) ∈ TB := tb_in 593 (by decide +kernel) rfl
theorem tw_594 : (Jvm.Cond.selects "StarRight$Watch" ({ cls := "StarRight$Watch", name := "isFull", desc := "()Z" } : Jvm.MethodName) ({ cls := "StarRight$Watch", name := "isFull", desc := "()Z" } : Jvm.MethodName)) ∈ TB := tb_in 594 (by decide +kernel) rfl
theorem tw_595 : (Jvm.Cond.code ({ cls := "StarRight$Watch", name := "isFull", desc := "()Z" } : Jvm.MethodName) prog_9_method_2_code (1 : Nat) (Option.some Jvm.ClassFile.FieldType.boolean)) ∈ TB := tb_in 595 (by decide +kernel) rfl
theorem tw_596 : (Jvm.Cond.methodLink "StarRight" (280 : Nat) ({ cls := "StarRight$Watch", name := "add", desc := "(IIZ)I" } : Jvm.MethodName)) ∈ TB := tb_in 596 (by decide +kernel) rfl
theorem tw_597 : (Jvm.Cond.instanceMethod ({ cls := "StarRight$Watch", name := "add", desc := "(IIZ)I" } : Jvm.MethodName)) ∈ TB := tb_in 597 (by decide +kernel) rfl
theorem tw_598 : (Jvm.Cond.selects "StarRight$Watch" ({ cls := "StarRight$Watch", name := "add", desc := "(IIZ)I" } : Jvm.MethodName) ({ cls := "StarRight$Watch", name := "add", desc := "(IIZ)I" } : Jvm.MethodName)) ∈ TB := tb_in 598 (by decide +kernel) rfl
theorem tw_599 : (Jvm.Cond.code ({ cls := "StarRight$Watch", name := "add", desc := "(IIZ)I" } : Jvm.MethodName) prog_9_method_3_code (4 : Nat) (Option.some Jvm.ClassFile.FieldType.int)) ∈ TB := tb_in 599 (by decide +kernel) rfl
theorem tw_600 : (Jvm.Cond.methodLink "StarRight$Watch" (26 : Nat) ({ cls := "StarRight$Watch", name := "isFull", desc := "()Z" } : Jvm.MethodName)) ∈ TB := tb_in 600 (by decide +kernel) rfl
theorem tw_601 : (Jvm.Cond.methodLink "StarRightLaw" (106 : Nat) ({ cls := "StarRight", name := "unshine", desc := "()I" } : Jvm.MethodName)) ∈ TB := tb_in 601 (by decide +kernel) rfl
theorem tw_602 : (Jvm.Cond.instanceMethod ({ cls := "StarRight", name := "unshine", desc := "()I" } : Jvm.MethodName)) ∈ TB := tb_in 602 (by decide +kernel) rfl
theorem tw_603 : (Jvm.Cond.selects "StarRight" ({ cls := "StarRight", name := "unshine", desc := "()I" } : Jvm.MethodName) ({ cls := "StarRight", name := "unshine", desc := "()I" } : Jvm.MethodName)) ∈ TB := tb_in 603 (by decide +kernel) rfl
theorem tw_604 : (Jvm.Cond.code ({ cls := "StarRight", name := "unshine", desc := "()I" } : Jvm.MethodName) prog_1_method_34_code (1 : Nat) (Option.some Jvm.ClassFile.FieldType.int)) ∈ TB := tb_in 604 (by decide +kernel) rfl
theorem tw_605 : (Jvm.Cond.methodLink "StarRight" (282 : Nat) ({ cls := "StarRight$Watch", name := "clear", desc := "()I" } : Jvm.MethodName)) ∈ TB := tb_in 605 (by decide +kernel) rfl
theorem tw_606 : (Jvm.Cond.instanceMethod ({ cls := "StarRight$Watch", name := "clear", desc := "()I" } : Jvm.MethodName)) ∈ TB := tb_in 606 (by decide +kernel) rfl
theorem tw_607 : (Jvm.Cond.selects "StarRight$Watch" ({ cls := "StarRight$Watch", name := "clear", desc := "()I" } : Jvm.MethodName) ({ cls := "StarRight$Watch", name := "clear", desc := "()I" } : Jvm.MethodName)) ∈ TB := tb_in 607 (by decide +kernel) rfl
theorem tw_608 : (Jvm.Cond.code ({ cls := "StarRight$Watch", name := "clear", desc := "()I" } : Jvm.MethodName) prog_9_method_4_code (2 : Nat) (Option.some Jvm.ClassFile.FieldType.int)) ∈ TB := tb_in 608 (by decide +kernel) rfl
theorem tw_609 : (Jvm.Cond.methodLink "StarRightLaw" (110 : Nat) ({ cls := "StarRight", name := "found", desc := "(I)I" } : Jvm.MethodName)) ∈ TB := tb_in 609 (by decide +kernel) rfl
theorem tw_610 : (Jvm.Cond.instanceMethod ({ cls := "StarRight", name := "found", desc := "(I)I" } : Jvm.MethodName)) ∈ TB := tb_in 610 (by decide +kernel) rfl
theorem tw_611 : (Jvm.Cond.selects "StarRight" ({ cls := "StarRight", name := "found", desc := "(I)I" } : Jvm.MethodName) ({ cls := "StarRight", name := "found", desc := "(I)I" } : Jvm.MethodName)) ∈ TB := tb_in 611 (by decide +kernel) rfl
theorem tw_612 : (Jvm.Cond.code ({ cls := "StarRight", name := "found", desc := "(I)I" } : Jvm.MethodName) prog_1_method_35_code (4 : Nat) (Option.some Jvm.ClassFile.FieldType.int)) ∈ TB := tb_in 612 (by decide +kernel) rfl
theorem tw_613 : (Jvm.Cond.methodLink "StarRight" (283 : Nat) ({ cls := "StarRight$Watch", name := "fittingStars", desc := "()J" } : Jvm.MethodName)) ∈ TB := tb_in 613 (by decide +kernel) rfl
theorem tw_614 : (Jvm.Cond.instanceMethod ({ cls := "StarRight$Watch", name := "fittingStars", desc := "()J" } : Jvm.MethodName)) ∈ TB := tb_in 614 (by decide +kernel) rfl
theorem tw_615 : (Jvm.Cond.selects "StarRight$Watch" ({ cls := "StarRight$Watch", name := "fittingStars", desc := "()J" } : Jvm.MethodName) ({ cls := "StarRight$Watch", name := "fittingStars", desc := "()J" } : Jvm.MethodName)) ∈ TB := tb_in 615 (by decide +kernel) rfl
theorem tw_616 : (Jvm.Cond.code ({ cls := "StarRight$Watch", name := "fittingStars", desc := "()J" } : Jvm.MethodName) prog_9_method_7_code (4 : Nat) (Option.some Jvm.ClassFile.FieldType.long)) ∈ TB := tb_in 616 (by decide +kernel) rfl
theorem tw_617 : (Jvm.Cond.methodLink "StarRight$Watch" (40 : Nat) ({ cls := "StarRight$Watch", name := "fits", desc := "(I)Z" } : Jvm.MethodName)) ∈ TB := tb_in 617 (by decide +kernel) rfl
theorem tw_619 : (Jvm.Cond.instanceMethod ({ cls := "StarRight$Watch", name := "fits", desc := "(I)Z" } : Jvm.MethodName)) ∈ TB := tb_in 619 (by decide +kernel) rfl
theorem tw_620 : (Jvm.Cond.code ({ cls := "StarRight$Watch", name := "fits", desc := "(I)Z" } : Jvm.MethodName) prog_9_method_6_code (3 : Nat) (Option.some Jvm.ClassFile.FieldType.boolean)) ∈ TB := tb_in 620 (by decide +kernel) rfl
theorem tw_621 : (Jvm.Cond.methodLink "StarRight$Watch" (36 : Nat) ({ cls := "StarRight$Watch", name := "isOver", desc := "(III)Z" } : Jvm.MethodName)) ∈ TB := tb_in 621 (by decide +kernel) rfl
theorem tw_622 : (Jvm.Cond.static ({ cls := "StarRight$Watch", name := "isOver", desc := "(III)Z" } : Jvm.MethodName)) ∈ TB := tb_in 622 (by decide +kernel) rfl
theorem tw_623 : (Jvm.Cond.code ({ cls := "StarRight$Watch", name := "isOver", desc := "(III)Z" } : Jvm.MethodName) prog_9_method_5_code (3 : Nat) (Option.some Jvm.ClassFile.FieldType.boolean)) ∈ TB := tb_in 623 (by decide +kernel) rfl
theorem tw_624 : (Jvm.Cond.methodLink "StarRight$Watch" (30 : Nat) ({ cls := "StarRight$Stars", name := "walkedTo", desc := "(III)I" } : Jvm.MethodName)) ∈ TB := tb_in 624 (by decide +kernel) rfl
theorem tw_625 : (Jvm.Cond.methodLink "StarRight" (287 : Nat) ({ cls := "java/lang/Long", name := "bitCount", desc := "(J)I" } : Jvm.MethodName)) ∈ TB := tb_in 625 (by decide +kernel) rfl
theorem tw_626 : (Jvm.Cond.static ({ cls := "java/lang/Long", name := "bitCount", desc := "(J)I" } : Jvm.MethodName)) ∈ TB := tb_in 626 (by decide +kernel) rfl
theorem tw_627 : (Jvm.Cond.code ({ cls := "java/lang/Long", name := "bitCount", desc := "(J)I" } : Jvm.MethodName) prog_13_method_50_code (2 : Nat) (Option.some Jvm.ClassFile.FieldType.int)) ∈ TB := tb_in 627 (by decide +kernel) rfl
theorem tw_628 : (Jvm.Cond.constantLong "java/lang/Long" (314 : Nat) (6148914691236517205 : Int64)) ∈ TB := tb_in 628 (by decide +kernel) rfl
theorem tw_629 : (Jvm.Cond.constantLong "java/lang/Long" (316 : Nat) (3689348814741910323 : Int64)) ∈ TB := tb_in 629 (by decide +kernel) rfl
theorem tw_630 : (Jvm.Cond.constantLong "java/lang/Long" (318 : Nat) (1085102592571150095 : Int64)) ∈ TB := tb_in 630 (by decide +kernel) rfl
theorem tw_631 : (Jvm.Cond.methodLink "StarRight" (292 : Nat) ({ cls := "StarRight$Watch", name := "firstOf", desc := "(J)I" } : Jvm.MethodName)) ∈ TB := tb_in 631 (by decide +kernel) rfl
theorem tw_632 : (Jvm.Cond.static ({ cls := "StarRight$Watch", name := "firstOf", desc := "(J)I" } : Jvm.MethodName)) ∈ TB := tb_in 632 (by decide +kernel) rfl
theorem tw_633 : (Jvm.Cond.code ({ cls := "StarRight$Watch", name := "firstOf", desc := "(J)I" } : Jvm.MethodName) prog_9_method_8_code (3 : Nat) (Option.some Jvm.ClassFile.FieldType.int)) ∈ TB := tb_in 633 (by decide +kernel) rfl
theorem tw_634 : (Jvm.Cond.methodLink "StarRightLaw" (114 : Nat) ({ cls := "StarRight", name := "look", desc := "()I" } : Jvm.MethodName)) ∈ TB := tb_in 634 (by decide +kernel) rfl
theorem tw_635 : (Jvm.Cond.instanceMethod ({ cls := "StarRight", name := "look", desc := "()I" } : Jvm.MethodName)) ∈ TB := tb_in 635 (by decide +kernel) rfl
theorem tw_636 : (Jvm.Cond.selects "StarRight" ({ cls := "StarRight", name := "look", desc := "()I" } : Jvm.MethodName) ({ cls := "StarRight", name := "look", desc := "()I" } : Jvm.MethodName)) ∈ TB := tb_in 636 (by decide +kernel) rfl
theorem tw_637 : (Jvm.Cond.code ({ cls := "StarRight", name := "look", desc := "()I" } : Jvm.MethodName) prog_1_method_36_code (1 : Nat) (Option.some Jvm.ClassFile.FieldType.int)) ∈ TB := tb_in 637 (by decide +kernel) rfl
theorem tw_638 : (Jvm.Cond.methodLink "StarRight" (295 : Nat) ({ cls := "StarRight$Watch", name := "bestLook", desc := "()I" } : Jvm.MethodName)) ∈ TB := tb_in 638 (by decide +kernel) rfl
theorem tw_639 : (Jvm.Cond.instanceMethod ({ cls := "StarRight$Watch", name := "bestLook", desc := "()I" } : Jvm.MethodName)) ∈ TB := tb_in 639 (by decide +kernel) rfl
theorem tw_640 : (Jvm.Cond.selects "StarRight$Watch" ({ cls := "StarRight$Watch", name := "bestLook", desc := "()I" } : Jvm.MethodName) ({ cls := "StarRight$Watch", name := "bestLook", desc := "()I" } : Jvm.MethodName)) ∈ TB := tb_in 640 (by decide +kernel) rfl
theorem tw_641 : (Jvm.Cond.code ({ cls := "StarRight$Watch", name := "bestLook", desc := "()I" } : Jvm.MethodName) prog_9_method_9_code (7 : Nat) (Option.some Jvm.ClassFile.FieldType.int)) ∈ TB := tb_in 641 (by decide +kernel) rfl
theorem tw_642 : (Jvm.Cond.methodLink "StarRight$Watch" (44 : Nat) ({ cls := "StarRight$Watch", name := "fittingStars", desc := "()J" } : Jvm.MethodName)) ∈ TB := tb_in 642 (by decide +kernel) rfl
theorem tw_643 : (Jvm.Cond.methodLink "StarRight$Watch" (48 : Nat) ({ cls := "StarRight$Watch", name := "greaterPart", desc := "(JII)I" } : Jvm.MethodName)) ∈ TB := tb_in 643 (by decide +kernel) rfl
theorem tw_644 : (Jvm.Cond.static ({ cls := "StarRight$Watch", name := "greaterPart", desc := "(JII)I" } : Jvm.MethodName)) ∈ TB := tb_in 644 (by decide +kernel) rfl
theorem tw_645 : (Jvm.Cond.code ({ cls := "StarRight$Watch", name := "greaterPart", desc := "(JII)I" } : Jvm.MethodName) prog_9_method_10_code (6 : Nat) (Option.some Jvm.ClassFile.FieldType.int)) ∈ TB := tb_in 645 (by decide +kernel) rfl
theorem tw_646 : (Jvm.Cond.methodLink "StarRight$Watch" (52 : Nat) ({ cls := "java/lang/Long", name := "bitCount", desc := "(J)I" } : Jvm.MethodName)) ∈ TB := tb_in 646 (by decide +kernel) rfl
theorem tw_647 : (Jvm.Cond.methodLink "StarRight$Watch" (58 : Nat) ({ cls := "java/lang/Math", name := "max", desc := "(II)I" } : Jvm.MethodName)) ∈ TB := tb_in 647 (by decide +kernel) rfl
theorem tw_648 : (Jvm.Cond.methodLink "StarRightLaw" (118 : Nat) ({ cls := "StarRight", name := "chance", desc := "(IIIZ)I" } : Jvm.MethodName)) ∈ TB := tb_in 648 (by decide +kernel) rfl
theorem tw_649 : (Jvm.Cond.instanceMethod ({ cls := "StarRight", name := "chance", desc := "(IIIZ)I" } : Jvm.MethodName)) ∈ TB := tb_in 649 (by decide +kernel) rfl
theorem tw_650 : (Jvm.Cond.selects "StarRight" ({ cls := "StarRight", name := "chance", desc := "(IIIZ)I" } : Jvm.MethodName) ({ cls := "StarRight", name := "chance", desc := "(IIIZ)I" } : Jvm.MethodName)) ∈ TB := tb_in 650 (by decide +kernel) rfl
theorem tw_651 : (Jvm.Cond.code ({ cls := "StarRight", name := "chance", desc := "(IIIZ)I" } : Jvm.MethodName) prog_1_method_37_code (8 : Nat) (Option.some Jvm.ClassFile.FieldType.int)) ∈ TB := tb_in 651 (by decide +kernel) rfl
theorem tw_652 : (Jvm.Cond.methodLink "StarRightLaw" (125 : Nat) ({ cls := "StarRight", name := "seed", desc := "(J)J" } : Jvm.MethodName)) ∈ TB := tb_in 652 (by decide +kernel) rfl
theorem tw_653 : (Jvm.Cond.instanceMethod ({ cls := "StarRight", name := "seed", desc := "(J)J" } : Jvm.MethodName)) ∈ TB := tb_in 653 (by decide +kernel) rfl
theorem tw_654 : (Jvm.Cond.selects "StarRight" ({ cls := "StarRight", name := "seed", desc := "(J)J" } : Jvm.MethodName) ({ cls := "StarRight", name := "seed", desc := "(J)J" } : Jvm.MethodName)) ∈ TB := tb_in 654 (by decide +kernel) rfl
theorem tw_655 : (Jvm.Cond.code ({ cls := "StarRight", name := "seed", desc := "(J)J" } : Jvm.MethodName) prog_1_method_40_code (5 : Nat) (Option.some Jvm.ClassFile.FieldType.long)) ∈ TB := tb_in 655 (by decide +kernel) rfl
theorem tw_656 : (Jvm.Cond.methodLink "StarRightLaw" (130 : Nat) ({ cls := "StarRight", name := "nights", desc := "(I)I" } : Jvm.MethodName)) ∈ TB := tb_in 656 (by decide +kernel) rfl
theorem tw_657 : (Jvm.Cond.instanceMethod ({ cls := "StarRight", name := "nights", desc := "(I)I" } : Jvm.MethodName)) ∈ TB := tb_in 657 (by decide +kernel) rfl
theorem tw_658 : (Jvm.Cond.selects "StarRight" ({ cls := "StarRight", name := "nights", desc := "(I)I" } : Jvm.MethodName) ({ cls := "StarRight", name := "nights", desc := "(I)I" } : Jvm.MethodName)) ∈ TB := tb_in 658 (by decide +kernel) rfl
theorem tw_659 : (Jvm.Cond.code ({ cls := "StarRight", name := "nights", desc := "(I)I" } : Jvm.MethodName) prog_1_method_41_code (5 : Nat) (Option.some Jvm.ClassFile.FieldType.int)) ∈ TB := tb_in 659 (by decide +kernel) rfl
theorem tw_660 : (Jvm.Cond.constantLong "StarRight" (310 : Nat) (6364136223846793005 : Int64)) ∈ TB := tb_in 660 (by decide +kernel) rfl
theorem tw_661 : (Jvm.Cond.constantLong "StarRight" (312 : Nat) (1442695040888963407 : Int64)) ∈ TB := tb_in 661 (by decide +kernel) rfl
theorem tw_662 : (Jvm.Cond.constantLong "StarRight" (314 : Nat) (3 : Int64)) ∈ TB := tb_in 662 (by decide +kernel) rfl
theorem tw_663 : (Jvm.Cond.methodLink "StarRight" (316 : Nat) ({ cls := "StarRight$Sight", name := "paidAt", desc := "(LStarRight$Stars;II)I" } : Jvm.MethodName)) ∈ TB := tb_in 663 (by decide +kernel) rfl
theorem tw_664 : (Jvm.Cond.methodLink "StarRightLaw" (134 : Nat) ({ cls := "StarRight", name := "keep", desc := "(I)I" } : Jvm.MethodName)) ∈ TB := tb_in 664 (by decide +kernel) rfl
theorem tw_665 : (Jvm.Cond.instanceMethod ({ cls := "StarRight", name := "keep", desc := "(I)I" } : Jvm.MethodName)) ∈ TB := tb_in 665 (by decide +kernel) rfl
theorem tw_666 : (Jvm.Cond.selects "StarRight" ({ cls := "StarRight", name := "keep", desc := "(I)I" } : Jvm.MethodName) ({ cls := "StarRight", name := "keep", desc := "(I)I" } : Jvm.MethodName)) ∈ TB := tb_in 666 (by decide +kernel) rfl
theorem tw_667 : (Jvm.Cond.code ({ cls := "StarRight", name := "keep", desc := "(I)I" } : Jvm.MethodName) prog_1_method_42_code (3 : Nat) (Option.some Jvm.ClassFile.FieldType.int)) ∈ TB := tb_in 667 (by decide +kernel) rfl
theorem tw_668 : (Jvm.Cond.methodLink "StarRight" (319 : Nat) ({ cls := "StarRight", name := "slotOf", desc := "(I)LStarRight$Slot;" } : Jvm.MethodName)) ∈ TB := tb_in 668 (by decide +kernel) rfl
theorem tw_670 : (Jvm.Cond.instanceMethod ({ cls := "StarRight", name := "slotOf", desc := "(I)LStarRight$Slot;" } : Jvm.MethodName)) ∈ TB := tb_in 670 (by decide +kernel) rfl
theorem tw_671 : (Jvm.Cond.code ({ cls := "StarRight", name := "slotOf", desc := "(I)LStarRight$Slot;" } : Jvm.MethodName) prog_1_method_44_code (2 : Nat) (Option.some (Jvm.ClassFile.FieldType.object "StarRight$Slot"))) ∈ TB := tb_in 671 (by decide +kernel) rfl
theorem tw_672 : (Jvm.Cond.methodLink "StarRightLaw" (138 : Nat) ({ cls := "StarRight", name := "again", desc := "(I)I" } : Jvm.MethodName)) ∈ TB := tb_in 672 (by decide +kernel) rfl
theorem tw_673 : (Jvm.Cond.instanceMethod ({ cls := "StarRight", name := "again", desc := "(I)I" } : Jvm.MethodName)) ∈ TB := tb_in 673 (by decide +kernel) rfl
theorem tw_674 : (Jvm.Cond.selects "StarRight" ({ cls := "StarRight", name := "again", desc := "(I)I" } : Jvm.MethodName) ({ cls := "StarRight", name := "again", desc := "(I)I" } : Jvm.MethodName)) ∈ TB := tb_in 674 (by decide +kernel) rfl
theorem tw_675 : (Jvm.Cond.code ({ cls := "StarRight", name := "again", desc := "(I)I" } : Jvm.MethodName) prog_1_method_43_code (3 : Nat) (Option.some Jvm.ClassFile.FieldType.int)) ∈ TB := tb_in 675 (by decide +kernel) rfl
theorem tw_676 : (Jvm.Cond.classLink "StarRightLaw" (10 : Nat) "StarRightModel") ∈ TB := tb_in 676 (by decide +kernel) rfl
theorem tw_677 : (Jvm.Cond.instantiable "StarRightModel" (37 : Nat)) ∈ TB := tb_in 677 (by decide +kernel) rfl
theorem tw_678 : (Jvm.Cond.methodLink "StarRightLaw" (12 : Nat) ({ cls := "StarRightModel", name := "<init>", desc := "()V" } : Jvm.MethodName)) ∈ TB := tb_in 678 (by decide +kernel) rfl
theorem tw_679 : (Jvm.Cond.instanceMethod ({ cls := "StarRightModel", name := "<init>", desc := "()V" } : Jvm.MethodName)) ∈ TB := tb_in 679 (by decide +kernel) rfl
theorem tw_680 : (Jvm.Cond.code ({ cls := "StarRightModel", name := "<init>", desc := "()V" } : Jvm.MethodName) prog_11_method_1_code (1 : Nat) (Option.none : Option Jvm.ClassFile.FieldType)) ∈ TB := tb_in 680 (by decide +kernel) rfl
theorem tw_681 : (Jvm.Cond.methodLink "StarRightModel" (1 : Nat) ({ cls := "java/lang/Object", name := "<init>", desc := "()V" } : Jvm.MethodName)) ∈ TB := tb_in 681 (by decide +kernel) rfl
theorem tw_682 : (Jvm.Cond.fieldLink "StarRightModel" (62 : Nat) "StarRightModel" "thrown" "I") ∈ TB := tb_in 682 (by decide +kernel) rfl
theorem tw_683 : (Jvm.Cond.fieldLink "StarRightModel" (7 : Nat) "StarRightModel" "text" "[I") ∈ TB := tb_in 683 (by decide +kernel) rfl
theorem tw_684 : (Jvm.Cond.fieldLink "StarRightModel" (78 : Nat) "StarRightModel" "textSize" "I") ∈ TB := tb_in 684 (by decide +kernel) rfl
theorem tw_685 : (Jvm.Cond.fieldLink "StarRightModel" (81 : Nat) "StarRightModel" "place" "I") ∈ TB := tb_in 685 (by decide +kernel) rfl
theorem tw_686 : (Jvm.Cond.fieldLink "StarRightModel" (113 : Nat) "StarRightModel" "law" "I") ∈ TB := tb_in 686 (by decide +kernel) rfl
theorem tw_687 : (Jvm.Cond.fieldLink "StarRightModel" (66 : Nat) "StarRightModel" "roofs" "I") ∈ TB := tb_in 687 (by decide +kernel) rfl
theorem tw_688 : (Jvm.Cond.fieldLink "StarRightModel" (73 : Nat) "StarRightModel" "stars" "I") ∈ TB := tb_in 688 (by decide +kernel) rfl
theorem tw_689 : (Jvm.Cond.fieldLink "StarRightModel" (13 : Nat) "StarRightModel" "cell" "[I") ∈ TB := tb_in 689 (by decide +kernel) rfl
theorem tw_690 : (Jvm.Cond.fieldLink "StarRightModel" (16 : Nat) "StarRightModel" "rise" "[I") ∈ TB := tb_in 690 (by decide +kernel) rfl
theorem tw_691 : (Jvm.Cond.fieldLink "StarRightModel" (19 : Nat) "StarRightModel" "speed" "[I") ∈ TB := tb_in 691 (by decide +kernel) rfl
theorem tw_692 : (Jvm.Cond.fieldLink "StarRightModel" (22 : Nat) "StarRightModel" "worth" "[I") ∈ TB := tb_in 692 (by decide +kernel) rfl
theorem tw_693 : (Jvm.Cond.fieldLink "StarRightModel" (103 : Nat) "StarRightModel" "readLaw" "I") ∈ TB := tb_in 693 (by decide +kernel) rfl
theorem tw_694 : (Jvm.Cond.fieldLink "StarRightModel" (84 : Nat) "StarRightModel" "readRoofs" "I") ∈ TB := tb_in 694 (by decide +kernel) rfl
theorem tw_695 : (Jvm.Cond.fieldLink "StarRightModel" (95 : Nat) "StarRightModel" "readStars" "I") ∈ TB := tb_in 695 (by decide +kernel) rfl
theorem tw_696 : (Jvm.Cond.fieldLink "StarRightModel" (25 : Nat) "StarRightModel" "readRoof" "[I") ∈ TB := tb_in 696 (by decide +kernel) rfl
theorem tw_697 : (Jvm.Cond.fieldLink "StarRightModel" (28 : Nat) "StarRightModel" "readStar" "[I") ∈ TB := tb_in 697 (by decide +kernel) rfl
theorem tw_698 : (Jvm.Cond.fieldLink "StarRightModel" (31 : Nat) "StarRightModel" "page" "[I") ∈ TB := tb_in 698 (by decide +kernel) rfl
theorem tw_699 : (Jvm.Cond.fieldLink "StarRightModel" (34 : Nat) "StarRightModel" "trial" "[I") ∈ TB := tb_in 699 (by decide +kernel) rfl
theorem tw_700 : (Jvm.Cond.fieldLink "StarRightModel" (37 : Nat) "StarRightModel" "book" "[I") ∈ TB := tb_in 700 (by decide +kernel) rfl
theorem tw_701 : (Jvm.Cond.fieldLink "StarRightModel" (116 : Nat) "StarRightModel" "acts" "I") ∈ TB := tb_in 701 (by decide +kernel) rfl
theorem tw_702 : (Jvm.Cond.fieldLink "StarRightModel" (40 : Nat) "StarRightModel" "kept" "[I") ∈ TB := tb_in 702 (by decide +kernel) rfl
theorem tw_703 : (Jvm.Cond.fieldLink "StarRightModel" (43 : Nat) "StarRightModel" "isKept" "[Z") ∈ TB := tb_in 703 (by decide +kernel) rfl
theorem tw_704 : (Jvm.Cond.fieldLink "StarRightModel" (148 : Nat) "StarRightModel" "seen" "I") ∈ TB := tb_in 704 (by decide +kernel) rfl
theorem tw_705 : (Jvm.Cond.fieldLink "StarRightModel" (47 : Nat) "StarRightModel" "seenCell" "[I") ∈ TB := tb_in 705 (by decide +kernel) rfl
theorem tw_706 : (Jvm.Cond.fieldLink "StarRightModel" (50 : Nat) "StarRightModel" "seenHour" "[I") ∈ TB := tb_in 706 (by decide +kernel) rfl
theorem tw_707 : (Jvm.Cond.fieldLink "StarRightModel" (53 : Nat) "StarRightModel" "seenShone" "[Z") ∈ TB := tb_in 707 (by decide +kernel) rfl
theorem tw_708 : (Jvm.Cond.fieldLink "StarRightModel" (236 : Nat) "StarRightModel" "seed" "J") ∈ TB := tb_in 708 (by decide +kernel) rfl
theorem tw_709 : (Jvm.Cond.fieldLink "StarRightModel" (56 : Nat) "StarRightModel" "value" "[I") ∈ TB := tb_in 709 (by decide +kernel) rfl
theorem tw_710 : (Jvm.Cond.fieldLink "StarRightModel" (59 : Nat) "StarRightModel" "left" "[Z") ∈ TB := tb_in 710 (by decide +kernel) rfl
theorem tw_711 : (Jvm.Cond.fieldLink "StarRightModel" (221 : Nat) "StarRightModel" "foundMany" "I") ∈ TB := tb_in 711 (by decide +kernel) rfl
theorem tw_712 : (Jvm.Cond.fieldLink "StarRightModel" (224 : Nat) "StarRightModel" "foundFirst" "I") ∈ TB := tb_in 712 (by decide +kernel) rfl
theorem tw_713 : (Jvm.Cond.fieldLink "StarRightModel" (211 : Nat) "StarRightModel" "restMany" "I") ∈ TB := tb_in 713 (by decide +kernel) rfl
theorem tw_714 : (Jvm.Cond.fieldLink "StarRightModel" (214 : Nat) "StarRightModel" "restFirst" "I") ∈ TB := tb_in 714 (by decide +kernel) rfl
theorem tw_715 : (Jvm.Cond.fieldLink "StarRightModel" (201 : Nat) "StarRightModel" "restOne" "I") ∈ TB := tb_in 715 (by decide +kernel) rfl
theorem tw_716 : (Jvm.Cond.fieldLink "StarRightModel" (204 : Nat) "StarRightModel" "restTwo" "I") ∈ TB := tb_in 716 (by decide +kernel) rfl
theorem tw_717 : (Jvm.Cond.fieldLink "StarRightModel" (178 : Nat) "StarRightModel" "fireBest" "I") ∈ TB := tb_in 717 (by decide +kernel) rfl
theorem tw_718 : (Jvm.Cond.fieldLink "StarRightModel" (181 : Nat) "StarRightModel" "fireMost" "I") ∈ TB := tb_in 718 (by decide +kernel) rfl
theorem tw_719 : (Jvm.Cond.lays "StarRightModel" "StarRightModel" "thrown" "I") ∈ TB := tb_in 719 (by decide +kernel) rfl
theorem tw_721 : (Jvm.Cond.laysFinal "StarRightModel" "StarRightModel" "text" "[I") ∈ TB := tb_in 721 (by decide +kernel) rfl
theorem tw_723 : (Jvm.Cond.lays "StarRightModel" "StarRightModel" "textSize" "I") ∈ TB := tb_in 723 (by decide +kernel) rfl
theorem tw_725 : (Jvm.Cond.lays "StarRightModel" "StarRightModel" "place" "I") ∈ TB := tb_in 725 (by decide +kernel) rfl
theorem tw_727 : (Jvm.Cond.lays "StarRightModel" "StarRightModel" "law" "I") ∈ TB := tb_in 727 (by decide +kernel) rfl
theorem tw_729 : (Jvm.Cond.lays "StarRightModel" "StarRightModel" "roofs" "I") ∈ TB := tb_in 729 (by decide +kernel) rfl
theorem tw_731 : (Jvm.Cond.lays "StarRightModel" "StarRightModel" "stars" "I") ∈ TB := tb_in 731 (by decide +kernel) rfl
theorem tw_733 : (Jvm.Cond.laysFinal "StarRightModel" "StarRightModel" "cell" "[I") ∈ TB := tb_in 733 (by decide +kernel) rfl
theorem tw_735 : (Jvm.Cond.laysFinal "StarRightModel" "StarRightModel" "rise" "[I") ∈ TB := tb_in 735 (by decide +kernel) rfl
theorem tw_737 : (Jvm.Cond.laysFinal "StarRightModel" "StarRightModel" "speed" "[I") ∈ TB := tb_in 737 (by decide +kernel) rfl
theorem tw_739 : (Jvm.Cond.laysFinal "StarRightModel" "StarRightModel" "worth" "[I") ∈ TB := tb_in 739 (by decide +kernel) rfl
theorem tw_741 : (Jvm.Cond.lays "StarRightModel" "StarRightModel" "readLaw" "I") ∈ TB := tb_in 741 (by decide +kernel) rfl
theorem tw_743 : (Jvm.Cond.lays "StarRightModel" "StarRightModel" "readRoofs" "I") ∈ TB := tb_in 743 (by decide +kernel) rfl
theorem tw_745 : (Jvm.Cond.lays "StarRightModel" "StarRightModel" "readStars" "I") ∈ TB := tb_in 745 (by decide +kernel) rfl
theorem tw_747 : (Jvm.Cond.laysFinal "StarRightModel" "StarRightModel" "readRoof" "[I") ∈ TB := tb_in 747 (by decide +kernel) rfl
theorem tw_749 : (Jvm.Cond.laysFinal "StarRightModel" "StarRightModel" "readStar" "[I") ∈ TB := tb_in 749 (by decide +kernel) rfl
theorem tw_751 : (Jvm.Cond.laysFinal "StarRightModel" "StarRightModel" "page" "[I") ∈ TB := tb_in 751 (by decide +kernel) rfl
theorem tw_753 : (Jvm.Cond.laysFinal "StarRightModel" "StarRightModel" "trial" "[I") ∈ TB := tb_in 753 (by decide +kernel) rfl
theorem tw_755 : (Jvm.Cond.laysFinal "StarRightModel" "StarRightModel" "book" "[I") ∈ TB := tb_in 755 (by decide +kernel) rfl
theorem tw_757 : (Jvm.Cond.lays "StarRightModel" "StarRightModel" "acts" "I") ∈ TB := tb_in 757 (by decide +kernel) rfl
theorem tw_759 : (Jvm.Cond.laysFinal "StarRightModel" "StarRightModel" "kept" "[I") ∈ TB := tb_in 759 (by decide +kernel) rfl
theorem tw_761 : (Jvm.Cond.laysFinal "StarRightModel" "StarRightModel" "isKept" "[Z") ∈ TB := tb_in 761 (by decide +kernel) rfl
theorem tw_763 : (Jvm.Cond.lays "StarRightModel" "StarRightModel" "seen" "I") ∈ TB := tb_in 763 (by decide +kernel) rfl
theorem tw_765 : (Jvm.Cond.laysFinal "StarRightModel" "StarRightModel" "seenCell" "[I") ∈ TB := tb_in 765 (by decide +kernel) rfl
theorem tw_767 : (Jvm.Cond.laysFinal "StarRightModel" "StarRightModel" "seenHour" "[I") ∈ TB := tb_in 767 (by decide +kernel) rfl
theorem tw_769 : (Jvm.Cond.laysFinal "StarRightModel" "StarRightModel" "seenShone" "[Z") ∈ TB := tb_in 769 (by decide +kernel) rfl
theorem tw_771 : (Jvm.Cond.lays "StarRightModel" "StarRightModel" "seed" "J") ∈ TB := tb_in 771 (by decide +kernel) rfl
theorem tw_773 : (Jvm.Cond.laysFinal "StarRightModel" "StarRightModel" "value" "[I") ∈ TB := tb_in 773 (by decide +kernel) rfl
theorem tw_775 : (Jvm.Cond.laysFinal "StarRightModel" "StarRightModel" "left" "[Z") ∈ TB := tb_in 775 (by decide +kernel) rfl
theorem tw_777 : (Jvm.Cond.lays "StarRightModel" "StarRightModel" "foundMany" "I") ∈ TB := tb_in 777 (by decide +kernel) rfl
theorem tw_779 : (Jvm.Cond.lays "StarRightModel" "StarRightModel" "foundFirst" "I") ∈ TB := tb_in 779 (by decide +kernel) rfl
theorem tw_781 : (Jvm.Cond.lays "StarRightModel" "StarRightModel" "restMany" "I") ∈ TB := tb_in 781 (by decide +kernel) rfl
theorem tw_783 : (Jvm.Cond.lays "StarRightModel" "StarRightModel" "restFirst" "I") ∈ TB := tb_in 783 (by decide +kernel) rfl
theorem tw_785 : (Jvm.Cond.lays "StarRightModel" "StarRightModel" "restOne" "I") ∈ TB := tb_in 785 (by decide +kernel) rfl
theorem tw_787 : (Jvm.Cond.lays "StarRightModel" "StarRightModel" "restTwo" "I") ∈ TB := tb_in 787 (by decide +kernel) rfl
theorem tw_789 : (Jvm.Cond.lays "StarRightModel" "StarRightModel" "fireBest" "I") ∈ TB := tb_in 789 (by decide +kernel) rfl
theorem tw_791 : (Jvm.Cond.lays "StarRightModel" "StarRightModel" "fireMost" "I") ∈ TB := tb_in 791 (by decide +kernel) rfl
theorem tw_794 : (Jvm.Cond.methodLink "StarRightLaw" (17 : Nat) ({ cls := "StarRightModel", name := "write", desc := "(I)I" } : Jvm.MethodName)) ∈ TB := tb_in 794 (by decide +kernel) rfl
theorem tw_795 : (Jvm.Cond.instanceMethod ({ cls := "StarRightModel", name := "write", desc := "(I)I" } : Jvm.MethodName)) ∈ TB := tb_in 795 (by decide +kernel) rfl
theorem tw_796 : (Jvm.Cond.selects "StarRightModel" ({ cls := "StarRightModel", name := "write", desc := "(I)I" } : Jvm.MethodName) ({ cls := "StarRightModel", name := "write", desc := "(I)I" } : Jvm.MethodName)) ∈ TB := tb_in 796 (by decide +kernel) rfl
theorem tw_797 : (Jvm.Cond.code ({ cls := "StarRightModel", name := "write", desc := "(I)I" } : Jvm.MethodName) prog_11_method_10_code (2 : Nat) (Option.some Jvm.ClassFile.FieldType.int)) ∈ TB := tb_in 797 (by decide +kernel) rfl
theorem tw_798 : (Jvm.Cond.constantLong "StarRightModel" (76 : Nat) (255 : Int64)) ∈ TB := tb_in 798 (by decide +kernel) rfl
theorem tw_799 : (Jvm.Cond.methodLink "StarRightModel" (69 : Nat) ({ cls := "StarRightModel", name := "in", desc := "(JJJ)Z" } : Jvm.MethodName)) ∈ TB := tb_in 799 (by decide +kernel) rfl
theorem tw_800 : (Jvm.Cond.static ({ cls := "StarRightModel", name := "in", desc := "(JJJ)Z" } : Jvm.MethodName)) ∈ TB := tb_in 800 (by decide +kernel) rfl
theorem tw_801 : (Jvm.Cond.code ({ cls := "StarRightModel", name := "in", desc := "(JJJ)Z" } : Jvm.MethodName) prog_11_method_3_code (6 : Nat) (Option.some Jvm.ClassFile.FieldType.boolean)) ∈ TB := tb_in 801 (by decide +kernel) rfl
theorem tw_802 : (Jvm.Cond.methodLink "StarRightLaw" (22 : Nat) ({ cls := "StarRightModel", name := "wipe", desc := "()I" } : Jvm.MethodName)) ∈ TB := tb_in 802 (by decide +kernel) rfl
theorem tw_803 : (Jvm.Cond.instanceMethod ({ cls := "StarRightModel", name := "wipe", desc := "()I" } : Jvm.MethodName)) ∈ TB := tb_in 803 (by decide +kernel) rfl
theorem tw_804 : (Jvm.Cond.selects "StarRightModel" ({ cls := "StarRightModel", name := "wipe", desc := "()I" } : Jvm.MethodName) ({ cls := "StarRightModel", name := "wipe", desc := "()I" } : Jvm.MethodName)) ∈ TB := tb_in 804 (by decide +kernel) rfl
theorem tw_805 : (Jvm.Cond.code ({ cls := "StarRightModel", name := "wipe", desc := "()I" } : Jvm.MethodName) prog_11_method_11_code (2 : Nat) (Option.some Jvm.ClassFile.FieldType.int)) ∈ TB := tb_in 805 (by decide +kernel) rfl
theorem tw_806 : (Jvm.Cond.methodLink "StarRightLaw" (26 : Nat) ({ cls := "StarRightModel", name := "fault", desc := "()I" } : Jvm.MethodName)) ∈ TB := tb_in 806 (by decide +kernel) rfl
theorem tw_807 : (Jvm.Cond.instanceMethod ({ cls := "StarRightModel", name := "fault", desc := "()I" } : Jvm.MethodName)) ∈ TB := tb_in 807 (by decide +kernel) rfl
theorem tw_808 : (Jvm.Cond.selects "StarRightModel" ({ cls := "StarRightModel", name := "fault", desc := "()I" } : Jvm.MethodName) ({ cls := "StarRightModel", name := "fault", desc := "()I" } : Jvm.MethodName)) ∈ TB := tb_in 808 (by decide +kernel) rfl
theorem tw_809 : (Jvm.Cond.code ({ cls := "StarRightModel", name := "fault", desc := "()I" } : Jvm.MethodName) prog_11_method_18_code (1 : Nat) (Option.some Jvm.ClassFile.FieldType.int)) ∈ TB := tb_in 809 (by decide +kernel) rfl
theorem tw_810 : (Jvm.Cond.methodLink "StarRightModel" (109 : Nat) ({ cls := "StarRightModel", name := "readNight", desc := "()I" } : Jvm.MethodName)) ∈ TB := tb_in 810 (by decide +kernel) rfl
theorem tw_812 : (Jvm.Cond.instanceMethod ({ cls := "StarRightModel", name := "readNight", desc := "()I" } : Jvm.MethodName)) ∈ TB := tb_in 812 (by decide +kernel) rfl
theorem tw_813 : (Jvm.Cond.code ({ cls := "StarRightModel", name := "readNight", desc := "()I" } : Jvm.MethodName) prog_11_method_17_code (1 : Nat) (Option.some Jvm.ClassFile.FieldType.int)) ∈ TB := tb_in 813 (by decide +kernel) rfl
theorem tw_814 : (Jvm.Cond.methodLink "StarRightModel" (91 : Nat) ({ cls := "StarRightModel", name := "figure", desc := "(II)I" } : Jvm.MethodName)) ∈ TB := tb_in 814 (by decide +kernel) rfl
theorem tw_816 : (Jvm.Cond.instanceMethod ({ cls := "StarRightModel", name := "figure", desc := "(II)I" } : Jvm.MethodName)) ∈ TB := tb_in 816 (by decide +kernel) rfl
theorem tw_817 : (Jvm.Cond.code ({ cls := "StarRightModel", name := "figure", desc := "(II)I" } : Jvm.MethodName) prog_11_method_12_code (3 : Nat) (Option.some Jvm.ClassFile.FieldType.int)) ∈ TB := tb_in 817 (by decide +kernel) rfl
theorem tw_818 : (Jvm.Cond.methodLink "StarRightModel" (106 : Nat) ({ cls := "StarRightModel", name := "readPart", desc := "()Z" } : Jvm.MethodName)) ∈ TB := tb_in 818 (by decide +kernel) rfl
theorem tw_820 : (Jvm.Cond.instanceMethod ({ cls := "StarRightModel", name := "readPart", desc := "()Z" } : Jvm.MethodName)) ∈ TB := tb_in 820 (by decide +kernel) rfl
theorem tw_821 : (Jvm.Cond.code ({ cls := "StarRightModel", name := "readPart", desc := "()Z" } : Jvm.MethodName) prog_11_method_16_code (2 : Nat) (Option.some Jvm.ClassFile.FieldType.boolean)) ∈ TB := tb_in 821 (by decide +kernel) rfl
theorem tw_822 : (Jvm.Cond.methodLink "StarRightModel" (98 : Nat) ({ cls := "StarRightModel", name := "readRoof", desc := "()Z" } : Jvm.MethodName)) ∈ TB := tb_in 822 (by decide +kernel) rfl
theorem tw_824 : (Jvm.Cond.instanceMethod ({ cls := "StarRightModel", name := "readRoof", desc := "()Z" } : Jvm.MethodName)) ∈ TB := tb_in 824 (by decide +kernel) rfl
theorem tw_825 : (Jvm.Cond.code ({ cls := "StarRightModel", name := "readRoof", desc := "()Z" } : Jvm.MethodName) prog_11_method_14_code (3 : Nat) (Option.some Jvm.ClassFile.FieldType.boolean)) ∈ TB := tb_in 825 (by decide +kernel) rfl
theorem tw_826 : (Jvm.Cond.methodLink "StarRightModel" (87 : Nat) ({ cls := "StarRightModel", name := "isTaken", desc := "(I)Z" } : Jvm.MethodName)) ∈ TB := tb_in 826 (by decide +kernel) rfl
theorem tw_828 : (Jvm.Cond.instanceMethod ({ cls := "StarRightModel", name := "isTaken", desc := "(I)Z" } : Jvm.MethodName)) ∈ TB := tb_in 828 (by decide +kernel) rfl
theorem tw_829 : (Jvm.Cond.code ({ cls := "StarRightModel", name := "isTaken", desc := "(I)Z" } : Jvm.MethodName) prog_11_method_13_code (4 : Nat) (Option.some Jvm.ClassFile.FieldType.boolean)) ∈ TB := tb_in 829 (by decide +kernel) rfl
theorem tw_830 : (Jvm.Cond.methodLink "StarRightModel" (101 : Nat) ({ cls := "StarRightModel", name := "readStar", desc := "()Z" } : Jvm.MethodName)) ∈ TB := tb_in 830 (by decide +kernel) rfl
theorem tw_832 : (Jvm.Cond.instanceMethod ({ cls := "StarRightModel", name := "readStar", desc := "()Z" } : Jvm.MethodName)) ∈ TB := tb_in 832 (by decide +kernel) rfl
theorem tw_833 : (Jvm.Cond.code ({ cls := "StarRightModel", name := "readStar", desc := "()Z" } : Jvm.MethodName) prog_11_method_15_code (3 : Nat) (Option.some Jvm.ClassFile.FieldType.boolean)) ∈ TB := tb_in 833 (by decide +kernel) rfl
theorem tw_834 : (Jvm.Cond.methodLink "StarRightLaw" (30 : Nat) ({ cls := "StarRightModel", name := "night", desc := "()I" } : Jvm.MethodName)) ∈ TB := tb_in 834 (by decide +kernel) rfl
theorem tw_835 : (Jvm.Cond.instanceMethod ({ cls := "StarRightModel", name := "night", desc := "()I" } : Jvm.MethodName)) ∈ TB := tb_in 835 (by decide +kernel) rfl
theorem tw_836 : (Jvm.Cond.selects "StarRightModel" ({ cls := "StarRightModel", name := "night", desc := "()I" } : Jvm.MethodName) ({ cls := "StarRightModel", name := "night", desc := "()I" } : Jvm.MethodName)) ∈ TB := tb_in 836 (by decide +kernel) rfl
theorem tw_837 : (Jvm.Cond.code ({ cls := "StarRightModel", name := "night", desc := "()I" } : Jvm.MethodName) prog_11_method_19_code (2 : Nat) (Option.some Jvm.ClassFile.FieldType.int)) ∈ TB := tb_in 837 (by decide +kernel) rfl
theorem tw_838 : (Jvm.Cond.methodLink "StarRightLaw" (34 : Nat) ({ cls := "StarRightModel", name := "about", desc := "(I)I" } : Jvm.MethodName)) ∈ TB := tb_in 838 (by decide +kernel) rfl
theorem tw_839 : (Jvm.Cond.instanceMethod ({ cls := "StarRightModel", name := "about", desc := "(I)I" } : Jvm.MethodName)) ∈ TB := tb_in 839 (by decide +kernel) rfl
theorem tw_840 : (Jvm.Cond.selects "StarRightModel" ({ cls := "StarRightModel", name := "about", desc := "(I)I" } : Jvm.MethodName) ({ cls := "StarRightModel", name := "about", desc := "(I)I" } : Jvm.MethodName)) ∈ TB := tb_in 840 (by decide +kernel) rfl
theorem tw_841 : (Jvm.Cond.code ({ cls := "StarRightModel", name := "about", desc := "(I)I" } : Jvm.MethodName) prog_11_method_26_code (4 : Nat) (Option.some Jvm.ClassFile.FieldType.int)) ∈ TB := tb_in 841 (by decide +kernel) rfl
theorem tw_842 : (Jvm.Cond.methodLink "StarRightModel" (145 : Nat) ({ cls := "StarRightModel", name := "all", desc := "()I" } : Jvm.MethodName)) ∈ TB := tb_in 842 (by decide +kernel) rfl
theorem tw_844 : (Jvm.Cond.instanceMethod ({ cls := "StarRightModel", name := "all", desc := "()I" } : Jvm.MethodName)) ∈ TB := tb_in 844 (by decide +kernel) rfl
theorem tw_845 : (Jvm.Cond.code ({ cls := "StarRightModel", name := "all", desc := "()I" } : Jvm.MethodName) prog_11_method_9_code (1 : Nat) (Option.some Jvm.ClassFile.FieldType.int)) ∈ TB := tb_in 845 (by decide +kernel) rfl
theorem tw_846 : (Jvm.Cond.methodLink "StarRightModel" (126 : Nat) ({ cls := "StarRightModel", name := "isShaded", desc := "([III)Z" } : Jvm.MethodName)) ∈ TB := tb_in 846 (by decide +kernel) rfl
theorem tw_848 : (Jvm.Cond.instanceMethod ({ cls := "StarRightModel", name := "isShaded", desc := "([III)Z" } : Jvm.MethodName)) ∈ TB := tb_in 848 (by decide +kernel) rfl
theorem tw_849 : (Jvm.Cond.code ({ cls := "StarRightModel", name := "isShaded", desc := "([III)Z" } : Jvm.MethodName) prog_11_method_20_code (6 : Nat) (Option.some Jvm.ClassFile.FieldType.boolean)) ∈ TB := tb_in 849 (by decide +kernel) rfl
theorem tw_850 : (Jvm.Cond.methodLink "StarRightModel" (119 : Nat) ({ cls := "StarRightModel", name := "has", desc := "(II)Z" } : Jvm.MethodName)) ∈ TB := tb_in 850 (by decide +kernel) rfl
theorem tw_851 : (Jvm.Cond.static ({ cls := "StarRightModel", name := "has", desc := "(II)Z" } : Jvm.MethodName)) ∈ TB := tb_in 851 (by decide +kernel) rfl
theorem tw_852 : (Jvm.Cond.code ({ cls := "StarRightModel", name := "has", desc := "(II)Z" } : Jvm.MethodName) prog_11_method_4_code (2 : Nat) (Option.some Jvm.ClassFile.FieldType.boolean)) ∈ TB := tb_in 852 (by decide +kernel) rfl
theorem tw_853 : (Jvm.Cond.methodLink "StarRightModel" (123 : Nat) ({ cls := "StarRightModel", name := "far", desc := "(II)I" } : Jvm.MethodName)) ∈ TB := tb_in 853 (by decide +kernel) rfl
theorem tw_854 : (Jvm.Cond.static ({ cls := "StarRightModel", name := "far", desc := "(II)I" } : Jvm.MethodName)) ∈ TB := tb_in 854 (by decide +kernel) rfl
theorem tw_855 : (Jvm.Cond.code ({ cls := "StarRightModel", name := "far", desc := "(II)I" } : Jvm.MethodName) prog_11_method_6_code (2 : Nat) (Option.some Jvm.ClassFile.FieldType.int)) ∈ TB := tb_in 855 (by decide +kernel) rfl
theorem tw_856 : (Jvm.Cond.methodLink "StarRightLaw" (39 : Nat) ({ cls := "StarRightModel", name := "roof", desc := "(II)I" } : Jvm.MethodName)) ∈ TB := tb_in 856 (by decide +kernel) rfl
theorem tw_857 : (Jvm.Cond.instanceMethod ({ cls := "StarRightModel", name := "roof", desc := "(II)I" } : Jvm.MethodName)) ∈ TB := tb_in 857 (by decide +kernel) rfl
theorem tw_858 : (Jvm.Cond.selects "StarRightModel" ({ cls := "StarRightModel", name := "roof", desc := "(II)I" } : Jvm.MethodName) ({ cls := "StarRightModel", name := "roof", desc := "(II)I" } : Jvm.MethodName)) ∈ TB := tb_in 858 (by decide +kernel) rfl
theorem tw_859 : (Jvm.Cond.code ({ cls := "StarRightModel", name := "roof", desc := "(II)I" } : Jvm.MethodName) prog_11_method_27_code (5 : Nat) (Option.some Jvm.ClassFile.FieldType.int)) ∈ TB := tb_in 859 (by decide +kernel) rfl
theorem tw_860 : (Jvm.Cond.methodLink "StarRightModel" (151 : Nat) ({ cls := "StarRightModel", name := "noRoof", desc := "(I)Z" } : Jvm.MethodName)) ∈ TB := tb_in 860 (by decide +kernel) rfl
theorem tw_862 : (Jvm.Cond.instanceMethod ({ cls := "StarRightModel", name := "noRoof", desc := "(I)Z" } : Jvm.MethodName)) ∈ TB := tb_in 862 (by decide +kernel) rfl
theorem tw_863 : (Jvm.Cond.code ({ cls := "StarRightModel", name := "noRoof", desc := "(I)Z" } : Jvm.MethodName) prog_11_method_7_code (2 : Nat) (Option.some Jvm.ClassFile.FieldType.boolean)) ∈ TB := tb_in 863 (by decide +kernel) rfl
theorem tw_864 : (Jvm.Cond.methodLink "StarRightModel" (133 : Nat) ({ cls := "StarRightModel", name := "doesSee", desc := "([IIII)Z" } : Jvm.MethodName)) ∈ TB := tb_in 864 (by decide +kernel) rfl
theorem tw_866 : (Jvm.Cond.instanceMethod ({ cls := "StarRightModel", name := "doesSee", desc := "([IIII)Z" } : Jvm.MethodName)) ∈ TB := tb_in 866 (by decide +kernel) rfl
theorem tw_867 : (Jvm.Cond.code ({ cls := "StarRightModel", name := "doesSee", desc := "([IIII)Z" } : Jvm.MethodName) prog_11_method_21_code (5 : Nat) (Option.some Jvm.ClassFile.FieldType.boolean)) ∈ TB := tb_in 867 (by decide +kernel) rfl
theorem tw_868 : (Jvm.Cond.methodLink "StarRightModel" (137 : Nat) ({ cls := "StarRightModel", name := "holder", desc := "([IIIII)I" } : Jvm.MethodName)) ∈ TB := tb_in 868 (by decide +kernel) rfl
theorem tw_870 : (Jvm.Cond.instanceMethod ({ cls := "StarRightModel", name := "holder", desc := "([IIIII)I" } : Jvm.MethodName)) ∈ TB := tb_in 870 (by decide +kernel) rfl
theorem tw_871 : (Jvm.Cond.code ({ cls := "StarRightModel", name := "holder", desc := "([IIIII)I" } : Jvm.MethodName) prog_11_method_23_code (11 : Nat) (Option.some Jvm.ClassFile.FieldType.int)) ∈ TB := tb_in 871 (by decide +kernel) rfl
theorem tw_872 : (Jvm.Cond.methodLink "StarRightModel" (130 : Nat) ({ cls := "StarRightModel", name := "over", desc := "(II)I" } : Jvm.MethodName)) ∈ TB := tb_in 872 (by decide +kernel) rfl
theorem tw_874 : (Jvm.Cond.instanceMethod ({ cls := "StarRightModel", name := "over", desc := "(II)I" } : Jvm.MethodName)) ∈ TB := tb_in 874 (by decide +kernel) rfl
theorem tw_875 : (Jvm.Cond.code ({ cls := "StarRightModel", name := "over", desc := "(II)I" } : Jvm.MethodName) prog_11_method_22_code (3 : Nat) (Option.some Jvm.ClassFile.FieldType.int)) ∈ TB := tb_in 875 (by decide +kernel) rfl
theorem tw_876 : (Jvm.Cond.methodLink "StarRightLaw" (43 : Nat) ({ cls := "StarRightModel", name := "star", desc := "(II)I" } : Jvm.MethodName)) ∈ TB := tb_in 876 (by decide +kernel) rfl
theorem tw_877 : (Jvm.Cond.instanceMethod ({ cls := "StarRightModel", name := "star", desc := "(II)I" } : Jvm.MethodName)) ∈ TB := tb_in 877 (by decide +kernel) rfl
theorem tw_878 : (Jvm.Cond.selects "StarRightModel" ({ cls := "StarRightModel", name := "star", desc := "(II)I" } : Jvm.MethodName) ({ cls := "StarRightModel", name := "star", desc := "(II)I" } : Jvm.MethodName)) ∈ TB := tb_in 878 (by decide +kernel) rfl
theorem tw_879 : (Jvm.Cond.code ({ cls := "StarRightModel", name := "star", desc := "(II)I" } : Jvm.MethodName) prog_11_method_28_code (4 : Nat) (Option.some Jvm.ClassFile.FieldType.int)) ∈ TB := tb_in 879 (by decide +kernel) rfl
theorem tw_880 : (Jvm.Cond.methodLink "StarRightModel" (154 : Nat) ({ cls := "StarRightModel", name := "noStar", desc := "(I)Z" } : Jvm.MethodName)) ∈ TB := tb_in 880 (by decide +kernel) rfl
theorem tw_882 : (Jvm.Cond.instanceMethod ({ cls := "StarRightModel", name := "noStar", desc := "(I)Z" } : Jvm.MethodName)) ∈ TB := tb_in 882 (by decide +kernel) rfl
theorem tw_883 : (Jvm.Cond.code ({ cls := "StarRightModel", name := "noStar", desc := "(I)Z" } : Jvm.MethodName) prog_11_method_8_code (2 : Nat) (Option.some Jvm.ClassFile.FieldType.boolean)) ∈ TB := tb_in 883 (by decide +kernel) rfl
theorem tw_884 : (Jvm.Cond.methodLink "StarRightModel" (141 : Nat) ({ cls := "StarRightModel", name := "pays", desc := "(IIII)I" } : Jvm.MethodName)) ∈ TB := tb_in 884 (by decide +kernel) rfl
theorem tw_886 : (Jvm.Cond.instanceMethod ({ cls := "StarRightModel", name := "pays", desc := "(IIII)I" } : Jvm.MethodName)) ∈ TB := tb_in 886 (by decide +kernel) rfl
theorem tw_887 : (Jvm.Cond.code ({ cls := "StarRightModel", name := "pays", desc := "(IIII)I" } : Jvm.MethodName) prog_11_method_24_code (7 : Nat) (Option.some Jvm.ClassFile.FieldType.int)) ∈ TB := tb_in 887 (by decide +kernel) rfl
theorem tw_888 : (Jvm.Cond.methodLink "StarRightLaw" (47 : Nat) ({ cls := "StarRightModel", name := "purse", desc := "(I)I" } : Jvm.MethodName)) ∈ TB := tb_in 888 (by decide +kernel) rfl
theorem tw_889 : (Jvm.Cond.instanceMethod ({ cls := "StarRightModel", name := "purse", desc := "(I)I" } : Jvm.MethodName)) ∈ TB := tb_in 889 (by decide +kernel) rfl
theorem tw_890 : (Jvm.Cond.selects "StarRightModel" ({ cls := "StarRightModel", name := "purse", desc := "(I)I" } : Jvm.MethodName) ({ cls := "StarRightModel", name := "purse", desc := "(I)I" } : Jvm.MethodName)) ∈ TB := tb_in 890 (by decide +kernel) rfl
theorem tw_891 : (Jvm.Cond.code ({ cls := "StarRightModel", name := "purse", desc := "(I)I" } : Jvm.MethodName) prog_11_method_29_code (2 : Nat) (Option.some Jvm.ClassFile.FieldType.int)) ∈ TB := tb_in 891 (by decide +kernel) rfl
theorem tw_892 : (Jvm.Cond.constantLong "StarRightModel" (157 : Nat) (3 : Int64)) ∈ TB := tb_in 892 (by decide +kernel) rfl
theorem tw_893 : (Jvm.Cond.methodLink "StarRightLaw" (51 : Nat) ({ cls := "StarRightModel", name := "build", desc := "(II)I" } : Jvm.MethodName)) ∈ TB := tb_in 893 (by decide +kernel) rfl
theorem tw_894 : (Jvm.Cond.instanceMethod ({ cls := "StarRightModel", name := "build", desc := "(II)I" } : Jvm.MethodName)) ∈ TB := tb_in 894 (by decide +kernel) rfl
theorem tw_895 : (Jvm.Cond.selects "StarRightModel" ({ cls := "StarRightModel", name := "build", desc := "(II)I" } : Jvm.MethodName) ({ cls := "StarRightModel", name := "build", desc := "(II)I" } : Jvm.MethodName)) ∈ TB := tb_in 895 (by decide +kernel) rfl
theorem tw_896 : (Jvm.Cond.code ({ cls := "StarRightModel", name := "build", desc := "(II)I" } : Jvm.MethodName) prog_11_method_31_code (4 : Nat) (Option.some Jvm.ClassFile.FieldType.int)) ∈ TB := tb_in 896 (by decide +kernel) rfl
theorem tw_897 : (Jvm.Cond.constantLong "StarRightModel" (159 : Nat) (9 : Int64)) ∈ TB := tb_in 897 (by decide +kernel) rfl
theorem tw_898 : (Jvm.Cond.methodLink "StarRightModel" (161 : Nat) ({ cls := "StarRightModel", name := "note", desc := "()V" } : Jvm.MethodName)) ∈ TB := tb_in 898 (by decide +kernel) rfl
theorem tw_900 : (Jvm.Cond.instanceMethod ({ cls := "StarRightModel", name := "note", desc := "()V" } : Jvm.MethodName)) ∈ TB := tb_in 900 (by decide +kernel) rfl
theorem tw_901 : (Jvm.Cond.code ({ cls := "StarRightModel", name := "note", desc := "()V" } : Jvm.MethodName) prog_11_method_30_code (2 : Nat) (Option.none : Option Jvm.ClassFile.FieldType)) ∈ TB := tb_in 901 (by decide +kernel) rfl
theorem tw_902 : (Jvm.Cond.methodLink "StarRightLaw" (55 : Nat) ({ cls := "StarRightModel", name := "light", desc := "(I)I" } : Jvm.MethodName)) ∈ TB := tb_in 902 (by decide +kernel) rfl
theorem tw_903 : (Jvm.Cond.instanceMethod ({ cls := "StarRightModel", name := "light", desc := "(I)I" } : Jvm.MethodName)) ∈ TB := tb_in 903 (by decide +kernel) rfl
theorem tw_904 : (Jvm.Cond.selects "StarRightModel" ({ cls := "StarRightModel", name := "light", desc := "(I)I" } : Jvm.MethodName) ({ cls := "StarRightModel", name := "light", desc := "(I)I" } : Jvm.MethodName)) ∈ TB := tb_in 904 (by decide +kernel) rfl
theorem tw_905 : (Jvm.Cond.code ({ cls := "StarRightModel", name := "light", desc := "(I)I" } : Jvm.MethodName) prog_11_method_32_code (2 : Nat) (Option.some Jvm.ClassFile.FieldType.int)) ∈ TB := tb_in 905 (by decide +kernel) rfl
theorem tw_906 : (Jvm.Cond.methodLink "StarRightLaw" (59 : Nat) ({ cls := "StarRightModel", name := "sell", desc := "(II)I" } : Jvm.MethodName)) ∈ TB := tb_in 906 (by decide +kernel) rfl
theorem tw_907 : (Jvm.Cond.instanceMethod ({ cls := "StarRightModel", name := "sell", desc := "(II)I" } : Jvm.MethodName)) ∈ TB := tb_in 907 (by decide +kernel) rfl
theorem tw_908 : (Jvm.Cond.selects "StarRightModel" ({ cls := "StarRightModel", name := "sell", desc := "(II)I" } : Jvm.MethodName) ({ cls := "StarRightModel", name := "sell", desc := "(II)I" } : Jvm.MethodName)) ∈ TB := tb_in 908 (by decide +kernel) rfl
theorem tw_909 : (Jvm.Cond.code ({ cls := "StarRightModel", name := "sell", desc := "(II)I" } : Jvm.MethodName) prog_11_method_33_code (4 : Nat) (Option.some Jvm.ClassFile.FieldType.int)) ∈ TB := tb_in 909 (by decide +kernel) rfl
theorem tw_910 : (Jvm.Cond.methodLink "StarRightLaw" (63 : Nat) ({ cls := "StarRightModel", name := "clouds", desc := "()I" } : Jvm.MethodName)) ∈ TB := tb_in 910 (by decide +kernel) rfl
theorem tw_911 : (Jvm.Cond.instanceMethod ({ cls := "StarRightModel", name := "clouds", desc := "()I" } : Jvm.MethodName)) ∈ TB := tb_in 911 (by decide +kernel) rfl
theorem tw_912 : (Jvm.Cond.selects "StarRightModel" ({ cls := "StarRightModel", name := "clouds", desc := "()I" } : Jvm.MethodName) ({ cls := "StarRightModel", name := "clouds", desc := "()I" } : Jvm.MethodName)) ∈ TB := tb_in 912 (by decide +kernel) rfl
theorem tw_913 : (Jvm.Cond.code ({ cls := "StarRightModel", name := "clouds", desc := "()I" } : Jvm.MethodName) prog_11_method_34_code (1 : Nat) (Option.some Jvm.ClassFile.FieldType.int)) ∈ TB := tb_in 913 (by decide +kernel) rfl
theorem tw_914 : (Jvm.Cond.methodLink "StarRightLaw" (67 : Nat) ({ cls := "StarRightModel", name := "hour", desc := "()I" } : Jvm.MethodName)) ∈ TB := tb_in 914 (by decide +kernel) rfl
theorem tw_915 : (Jvm.Cond.instanceMethod ({ cls := "StarRightModel", name := "hour", desc := "()I" } : Jvm.MethodName)) ∈ TB := tb_in 915 (by decide +kernel) rfl
theorem tw_916 : (Jvm.Cond.selects "StarRightModel" ({ cls := "StarRightModel", name := "hour", desc := "()I" } : Jvm.MethodName) ({ cls := "StarRightModel", name := "hour", desc := "()I" } : Jvm.MethodName)) ∈ TB := tb_in 916 (by decide +kernel) rfl
theorem tw_917 : (Jvm.Cond.code ({ cls := "StarRightModel", name := "hour", desc := "()I" } : Jvm.MethodName) prog_11_method_35_code (4 : Nat) (Option.some Jvm.ClassFile.FieldType.int)) ∈ TB := tb_in 917 (by decide +kernel) rfl
theorem tw_918 : (Jvm.Cond.methodLink "StarRightModel" (164 : Nat) ({ cls := "StarRightModel", name := "rentsOf", desc := "([IIIIII)I" } : Jvm.MethodName)) ∈ TB := tb_in 918 (by decide +kernel) rfl
theorem tw_920 : (Jvm.Cond.instanceMethod ({ cls := "StarRightModel", name := "rentsOf", desc := "([IIIIII)I" } : Jvm.MethodName)) ∈ TB := tb_in 920 (by decide +kernel) rfl
theorem tw_921 : (Jvm.Cond.code ({ cls := "StarRightModel", name := "rentsOf", desc := "([IIIIII)I" } : Jvm.MethodName) prog_11_method_25_code (11 : Nat) (Option.some Jvm.ClassFile.FieldType.int)) ∈ TB := tb_in 921 (by decide +kernel) rfl
theorem tw_922 : (Jvm.Cond.methodLink "StarRightLaw" (71 : Nat) ({ cls := "StarRightModel", name := "undo", desc := "()I" } : Jvm.MethodName)) ∈ TB := tb_in 922 (by decide +kernel) rfl
theorem tw_923 : (Jvm.Cond.instanceMethod ({ cls := "StarRightModel", name := "undo", desc := "()I" } : Jvm.MethodName)) ∈ TB := tb_in 923 (by decide +kernel) rfl
theorem tw_924 : (Jvm.Cond.selects "StarRightModel" ({ cls := "StarRightModel", name := "undo", desc := "()I" } : Jvm.MethodName) ({ cls := "StarRightModel", name := "undo", desc := "()I" } : Jvm.MethodName)) ∈ TB := tb_in 924 (by decide +kernel) rfl
theorem tw_925 : (Jvm.Cond.code ({ cls := "StarRightModel", name := "undo", desc := "()I" } : Jvm.MethodName) prog_11_method_36_code (2 : Nat) (Option.some Jvm.ClassFile.FieldType.int)) ∈ TB := tb_in 925 (by decide +kernel) rfl
theorem tw_926 : (Jvm.Cond.methodLink "StarRightLaw" (75 : Nat) ({ cls := "StarRightModel", name := "rents", desc := "(II)I" } : Jvm.MethodName)) ∈ TB := tb_in 926 (by decide +kernel) rfl
theorem tw_927 : (Jvm.Cond.instanceMethod ({ cls := "StarRightModel", name := "rents", desc := "(II)I" } : Jvm.MethodName)) ∈ TB := tb_in 927 (by decide +kernel) rfl
theorem tw_928 : (Jvm.Cond.selects "StarRightModel" ({ cls := "StarRightModel", name := "rents", desc := "(II)I" } : Jvm.MethodName) ({ cls := "StarRightModel", name := "rents", desc := "(II)I" } : Jvm.MethodName)) ∈ TB := tb_in 928 (by decide +kernel) rfl
theorem tw_929 : (Jvm.Cond.code ({ cls := "StarRightModel", name := "rents", desc := "(II)I" } : Jvm.MethodName) prog_11_method_38_code (3 : Nat) (Option.some Jvm.ClassFile.FieldType.int)) ∈ TB := tb_in 929 (by decide +kernel) rfl
theorem tw_930 : (Jvm.Cond.constantLong "StarRightModel" (168 : Nat) (4 : Int64)) ∈ TB := tb_in 930 (by decide +kernel) rfl
theorem tw_931 : (Jvm.Cond.constantLong "StarRightModel" (170 : Nat) (12 : Int64)) ∈ TB := tb_in 931 (by decide +kernel) rfl
theorem tw_932 : (Jvm.Cond.methodLink "StarRightLaw" (79 : Nat) ({ cls := "StarRightModel", name := "hold", desc := "(II)I" } : Jvm.MethodName)) ∈ TB := tb_in 932 (by decide +kernel) rfl
theorem tw_933 : (Jvm.Cond.instanceMethod ({ cls := "StarRightModel", name := "hold", desc := "(II)I" } : Jvm.MethodName)) ∈ TB := tb_in 933 (by decide +kernel) rfl
theorem tw_934 : (Jvm.Cond.selects "StarRightModel" ({ cls := "StarRightModel", name := "hold", desc := "(II)I" } : Jvm.MethodName) ({ cls := "StarRightModel", name := "hold", desc := "(II)I" } : Jvm.MethodName)) ∈ TB := tb_in 934 (by decide +kernel) rfl
theorem tw_935 : (Jvm.Cond.code ({ cls := "StarRightModel", name := "hold", desc := "(II)I" } : Jvm.MethodName) prog_11_method_39_code (9 : Nat) (Option.some Jvm.ClassFile.FieldType.int)) ∈ TB := tb_in 935 (by decide +kernel) rfl
theorem tw_936 : (Jvm.Cond.constantLong "StarRightModel" (172 : Nat) (10 : Int64)) ∈ TB := tb_in 936 (by decide +kernel) rfl
theorem tw_937 : (Jvm.Cond.methodLink "StarRightModel" (174 : Nat) ({ cls := "StarRightModel", name := "many", desc := "(I)I" } : Jvm.MethodName)) ∈ TB := tb_in 937 (by decide +kernel) rfl
theorem tw_938 : (Jvm.Cond.static ({ cls := "StarRightModel", name := "many", desc := "(I)I" } : Jvm.MethodName)) ∈ TB := tb_in 938 (by decide +kernel) rfl
theorem tw_939 : (Jvm.Cond.code ({ cls := "StarRightModel", name := "many", desc := "(I)I" } : Jvm.MethodName) prog_11_method_5_code (3 : Nat) (Option.some Jvm.ClassFile.FieldType.int)) ∈ TB := tb_in 939 (by decide +kernel) rfl
theorem tw_940 : (Jvm.Cond.methodLink "StarRightLaw" (83 : Nat) ({ cls := "StarRightModel", name := "fires", desc := "(II)I" } : Jvm.MethodName)) ∈ TB := tb_in 940 (by decide +kernel) rfl
theorem tw_941 : (Jvm.Cond.instanceMethod ({ cls := "StarRightModel", name := "fires", desc := "(II)I" } : Jvm.MethodName)) ∈ TB := tb_in 941 (by decide +kernel) rfl
theorem tw_942 : (Jvm.Cond.selects "StarRightModel" ({ cls := "StarRightModel", name := "fires", desc := "(II)I" } : Jvm.MethodName) ({ cls := "StarRightModel", name := "fires", desc := "(II)I" } : Jvm.MethodName)) ∈ TB := tb_in 942 (by decide +kernel) rfl
theorem tw_943 : (Jvm.Cond.code ({ cls := "StarRightModel", name := "fires", desc := "(II)I" } : Jvm.MethodName) prog_11_method_41_code (3 : Nat) (Option.some Jvm.ClassFile.FieldType.int)) ∈ TB := tb_in 943 (by decide +kernel) rfl
theorem tw_944 : (Jvm.Cond.methodLink "StarRightModel" (187 : Nat) ({ cls := "StarRightModel", name := "findFires", desc := "(I)V" } : Jvm.MethodName)) ∈ TB := tb_in 944 (by decide +kernel) rfl
theorem tw_946 : (Jvm.Cond.instanceMethod ({ cls := "StarRightModel", name := "findFires", desc := "(I)V" } : Jvm.MethodName)) ∈ TB := tb_in 946 (by decide +kernel) rfl
theorem tw_947 : (Jvm.Cond.code ({ cls := "StarRightModel", name := "findFires", desc := "(I)V" } : Jvm.MethodName) prog_11_method_40_code (4 : Nat) (Option.none : Option Jvm.ClassFile.FieldType)) ∈ TB := tb_in 947 (by decide +kernel) rfl
theorem tw_948 : (Jvm.Cond.methodLink "StarRightModel" (184 : Nat) ({ cls := "StarRightModel", name := "begin", desc := "()V" } : Jvm.MethodName)) ∈ TB := tb_in 948 (by decide +kernel) rfl
theorem tw_950 : (Jvm.Cond.instanceMethod ({ cls := "StarRightModel", name := "begin", desc := "()V" } : Jvm.MethodName)) ∈ TB := tb_in 950 (by decide +kernel) rfl
theorem tw_951 : (Jvm.Cond.code ({ cls := "StarRightModel", name := "begin", desc := "()V" } : Jvm.MethodName) prog_11_method_37_code (2 : Nat) (Option.none : Option Jvm.ClassFile.FieldType)) ∈ TB := tb_in 951 (by decide +kernel) rfl
theorem tw_952 : (Jvm.Cond.methodLink "StarRightLaw" (88 : Nat) ({ cls := "StarRightModel", name := "share", desc := "(IIZ)I" } : Jvm.MethodName)) ∈ TB := tb_in 952 (by decide +kernel) rfl
theorem tw_953 : (Jvm.Cond.instanceMethod ({ cls := "StarRightModel", name := "share", desc := "(IIZ)I" } : Jvm.MethodName)) ∈ TB := tb_in 953 (by decide +kernel) rfl
theorem tw_954 : (Jvm.Cond.selects "StarRightModel" ({ cls := "StarRightModel", name := "share", desc := "(IIZ)I" } : Jvm.MethodName) ({ cls := "StarRightModel", name := "share", desc := "(IIZ)I" } : Jvm.MethodName)) ∈ TB := tb_in 954 (by decide +kernel) rfl
theorem tw_955 : (Jvm.Cond.code ({ cls := "StarRightModel", name := "share", desc := "(IIZ)I" } : Jvm.MethodName) prog_11_method_45_code (7 : Nat) (Option.some Jvm.ClassFile.FieldType.int)) ∈ TB := tb_in 955 (by decide +kernel) rfl
theorem tw_956 : (Jvm.Cond.methodLink "StarRightModel" (194 : Nat) ({ cls := "StarRightModel", name := "orders", desc := "(I)I" } : Jvm.MethodName)) ∈ TB := tb_in 956 (by decide +kernel) rfl
theorem tw_957 : (Jvm.Cond.static ({ cls := "StarRightModel", name := "orders", desc := "(I)I" } : Jvm.MethodName)) ∈ TB := tb_in 957 (by decide +kernel) rfl
theorem tw_958 : (Jvm.Cond.code ({ cls := "StarRightModel", name := "orders", desc := "(I)I" } : Jvm.MethodName) prog_11_method_42_code (3 : Nat) (Option.some Jvm.ClassFile.FieldType.int)) ∈ TB := tb_in 958 (by decide +kernel) rfl
theorem tw_959 : (Jvm.Cond.methodLink "StarRightModel" (197 : Nat) ({ cls := "StarRightModel", name := "fraction", desc := "(IIZ)I" } : Jvm.MethodName)) ∈ TB := tb_in 959 (by decide +kernel) rfl
theorem tw_960 : (Jvm.Cond.static ({ cls := "StarRightModel", name := "fraction", desc := "(IIZ)I" } : Jvm.MethodName)) ∈ TB := tb_in 960 (by decide +kernel) rfl
theorem tw_961 : (Jvm.Cond.code ({ cls := "StarRightModel", name := "fraction", desc := "(IIZ)I" } : Jvm.MethodName) prog_11_method_44_code (4 : Nat) (Option.some Jvm.ClassFile.FieldType.int)) ∈ TB := tb_in 961 (by decide +kernel) rfl
theorem tw_962 : (Jvm.Cond.methodLink "StarRightModel" (191 : Nat) ({ cls := "StarRightModel", name := "divisor", desc := "(II)I" } : Jvm.MethodName)) ∈ TB := tb_in 962 (by decide +kernel) rfl
theorem tw_963 : (Jvm.Cond.static ({ cls := "StarRightModel", name := "divisor", desc := "(II)I" } : Jvm.MethodName)) ∈ TB := tb_in 963 (by decide +kernel) rfl
theorem tw_964 : (Jvm.Cond.code ({ cls := "StarRightModel", name := "divisor", desc := "(II)I" } : Jvm.MethodName) prog_11_method_43_code (5 : Nat) (Option.some Jvm.ClassFile.FieldType.int)) ∈ TB := tb_in 964 (by decide +kernel) rfl
theorem tw_965 : (Jvm.Cond.methodLink "StarRightLaw" (92 : Nat) ({ cls := "StarRightModel", name := "bestLaw", desc := "(II)I" } : Jvm.MethodName)) ∈ TB := tb_in 965 (by decide +kernel) rfl
theorem tw_966 : (Jvm.Cond.instanceMethod ({ cls := "StarRightModel", name := "bestLaw", desc := "(II)I" } : Jvm.MethodName)) ∈ TB := tb_in 966 (by decide +kernel) rfl
theorem tw_967 : (Jvm.Cond.selects "StarRightModel" ({ cls := "StarRightModel", name := "bestLaw", desc := "(II)I" } : Jvm.MethodName) ({ cls := "StarRightModel", name := "bestLaw", desc := "(II)I" } : Jvm.MethodName)) ∈ TB := tb_in 967 (by decide +kernel) rfl
theorem tw_968 : (Jvm.Cond.code ({ cls := "StarRightModel", name := "bestLaw", desc := "(II)I" } : Jvm.MethodName) prog_11_method_46_code (7 : Nat) (Option.some Jvm.ClassFile.FieldType.int)) ∈ TB := tb_in 968 (by decide +kernel) rfl
theorem tw_969 : (Jvm.Cond.methodLink "StarRightLaw" (96 : Nat) ({ cls := "StarRightModel", name := "starless", desc := "(I)I" } : Jvm.MethodName)) ∈ TB := tb_in 969 (by decide +kernel) rfl
theorem tw_970 : (Jvm.Cond.instanceMethod ({ cls := "StarRightModel", name := "starless", desc := "(I)I" } : Jvm.MethodName)) ∈ TB := tb_in 970 (by decide +kernel) rfl
theorem tw_971 : (Jvm.Cond.selects "StarRightModel" ({ cls := "StarRightModel", name := "starless", desc := "(I)I" } : Jvm.MethodName) ({ cls := "StarRightModel", name := "starless", desc := "(I)I" } : Jvm.MethodName)) ∈ TB := tb_in 971 (by decide +kernel) rfl
theorem tw_972 : (Jvm.Cond.code ({ cls := "StarRightModel", name := "starless", desc := "(I)I" } : Jvm.MethodName) prog_11_method_47_code (7 : Nat) (Option.some Jvm.ClassFile.FieldType.int)) ∈ TB := tb_in 972 (by decide +kernel) rfl
theorem tw_973 : (Jvm.Cond.methodLink "StarRightLaw" (101 : Nat) ({ cls := "StarRightModel", name := "rests", desc := "(IIII)I" } : Jvm.MethodName)) ∈ TB := tb_in 973 (by decide +kernel) rfl
theorem tw_974 : (Jvm.Cond.instanceMethod ({ cls := "StarRightModel", name := "rests", desc := "(IIII)I" } : Jvm.MethodName)) ∈ TB := tb_in 974 (by decide +kernel) rfl
theorem tw_975 : (Jvm.Cond.selects "StarRightModel" ({ cls := "StarRightModel", name := "rests", desc := "(IIII)I" } : Jvm.MethodName) ({ cls := "StarRightModel", name := "rests", desc := "(IIII)I" } : Jvm.MethodName)) ∈ TB := tb_in 975 (by decide +kernel) rfl
theorem tw_976 : (Jvm.Cond.code ({ cls := "StarRightModel", name := "rests", desc := "(IIII)I" } : Jvm.MethodName) prog_11_method_50_code (6 : Nat) (Option.some Jvm.ClassFile.FieldType.int)) ∈ TB := tb_in 976 (by decide +kernel) rfl
theorem tw_977 : (Jvm.Cond.methodLink "StarRightModel" (217 : Nat) ({ cls := "StarRightModel", name := "doesRest", desc := "(IIIII)Z" } : Jvm.MethodName)) ∈ TB := tb_in 977 (by decide +kernel) rfl
theorem tw_979 : (Jvm.Cond.instanceMethod ({ cls := "StarRightModel", name := "doesRest", desc := "(IIIII)Z" } : Jvm.MethodName)) ∈ TB := tb_in 979 (by decide +kernel) rfl
theorem tw_980 : (Jvm.Cond.code ({ cls := "StarRightModel", name := "doesRest", desc := "(IIIII)Z" } : Jvm.MethodName) prog_11_method_49_code (10 : Nat) (Option.some Jvm.ClassFile.FieldType.boolean)) ∈ TB := tb_in 980 (by decide +kernel) rfl
theorem tw_981 : (Jvm.Cond.methodLink "StarRightModel" (207 : Nat) ({ cls := "StarRightModel", name := "layRest", desc := "(IIIII)V" } : Jvm.MethodName)) ∈ TB := tb_in 981 (by decide +kernel) rfl
theorem tw_983 : (Jvm.Cond.instanceMethod ({ cls := "StarRightModel", name := "layRest", desc := "(IIIII)V" } : Jvm.MethodName)) ∈ TB := tb_in 983 (by decide +kernel) rfl
theorem tw_984 : (Jvm.Cond.code ({ cls := "StarRightModel", name := "layRest", desc := "(IIIII)V" } : Jvm.MethodName) prog_11_method_48_code (9 : Nat) (Option.none : Option Jvm.ClassFile.FieldType)) ∈ TB := tb_in 984 (by decide +kernel) rfl
theorem tw_985 : (Jvm.Cond.methodLink "StarRightLaw" (105 : Nat) ({ cls := "StarRightModel", name := "shine", desc := "(IIZ)I" } : Jvm.MethodName)) ∈ TB := tb_in 985 (by decide +kernel) rfl
theorem tw_986 : (Jvm.Cond.instanceMethod ({ cls := "StarRightModel", name := "shine", desc := "(IIZ)I" } : Jvm.MethodName)) ∈ TB := tb_in 986 (by decide +kernel) rfl
theorem tw_987 : (Jvm.Cond.selects "StarRightModel" ({ cls := "StarRightModel", name := "shine", desc := "(IIZ)I" } : Jvm.MethodName) ({ cls := "StarRightModel", name := "shine", desc := "(IIZ)I" } : Jvm.MethodName)) ∈ TB := tb_in 987 (by decide +kernel) rfl
theorem tw_988 : (Jvm.Cond.code ({ cls := "StarRightModel", name := "shine", desc := "(IIZ)I" } : Jvm.MethodName) prog_11_method_51_code (4 : Nat) (Option.some Jvm.ClassFile.FieldType.int)) ∈ TB := tb_in 988 (by decide +kernel) rfl
theorem tw_989 : (Jvm.Cond.methodLink "StarRightLaw" (109 : Nat) ({ cls := "StarRightModel", name := "unshine", desc := "()I" } : Jvm.MethodName)) ∈ TB := tb_in 989 (by decide +kernel) rfl
theorem tw_990 : (Jvm.Cond.instanceMethod ({ cls := "StarRightModel", name := "unshine", desc := "()I" } : Jvm.MethodName)) ∈ TB := tb_in 990 (by decide +kernel) rfl
theorem tw_991 : (Jvm.Cond.selects "StarRightModel" ({ cls := "StarRightModel", name := "unshine", desc := "()I" } : Jvm.MethodName) ({ cls := "StarRightModel", name := "unshine", desc := "()I" } : Jvm.MethodName)) ∈ TB := tb_in 991 (by decide +kernel) rfl
theorem tw_992 : (Jvm.Cond.code ({ cls := "StarRightModel", name := "unshine", desc := "()I" } : Jvm.MethodName) prog_11_method_52_code (2 : Nat) (Option.some Jvm.ClassFile.FieldType.int)) ∈ TB := tb_in 992 (by decide +kernel) rfl
theorem tw_993 : (Jvm.Cond.methodLink "StarRightLaw" (113 : Nat) ({ cls := "StarRightModel", name := "found", desc := "(I)I" } : Jvm.MethodName)) ∈ TB := tb_in 993 (by decide +kernel) rfl
theorem tw_994 : (Jvm.Cond.instanceMethod ({ cls := "StarRightModel", name := "found", desc := "(I)I" } : Jvm.MethodName)) ∈ TB := tb_in 994 (by decide +kernel) rfl
theorem tw_995 : (Jvm.Cond.selects "StarRightModel" ({ cls := "StarRightModel", name := "found", desc := "(I)I" } : Jvm.MethodName) ({ cls := "StarRightModel", name := "found", desc := "(I)I" } : Jvm.MethodName)) ∈ TB := tb_in 995 (by decide +kernel) rfl
theorem tw_996 : (Jvm.Cond.code ({ cls := "StarRightModel", name := "found", desc := "(I)I" } : Jvm.MethodName) prog_11_method_55_code (2 : Nat) (Option.some Jvm.ClassFile.FieldType.int)) ∈ TB := tb_in 996 (by decide +kernel) rfl
theorem tw_997 : (Jvm.Cond.methodLink "StarRightModel" (231 : Nat) ({ cls := "StarRightModel", name := "find", desc := "()V" } : Jvm.MethodName)) ∈ TB := tb_in 997 (by decide +kernel) rfl
theorem tw_999 : (Jvm.Cond.instanceMethod ({ cls := "StarRightModel", name := "find", desc := "()V" } : Jvm.MethodName)) ∈ TB := tb_in 999 (by decide +kernel) rfl
theorem tw_1000 : (Jvm.Cond.code ({ cls := "StarRightModel", name := "find", desc := "()V" } : Jvm.MethodName) prog_11_method_54_code (4 : Nat) (Option.none : Option Jvm.ClassFile.FieldType)) ∈ TB := tb_in 1000 (by decide +kernel) rfl
theorem tw_1001 : (Jvm.Cond.methodLink "StarRightModel" (227 : Nat) ({ cls := "StarRightModel", name := "isOver", desc := "(III)Z" } : Jvm.MethodName)) ∈ TB := tb_in 1001 (by decide +kernel) rfl
theorem tw_1002 : (Jvm.Cond.static ({ cls := "StarRightModel", name := "isOver", desc := "(III)Z" } : Jvm.MethodName)) ∈ TB := tb_in 1002 (by decide +kernel) rfl
theorem tw_1003 : (Jvm.Cond.code ({ cls := "StarRightModel", name := "isOver", desc := "(III)Z" } : Jvm.MethodName) prog_11_method_53_code (3 : Nat) (Option.some Jvm.ClassFile.FieldType.boolean)) ∈ TB := tb_in 1003 (by decide +kernel) rfl
theorem tw_1004 : (Jvm.Cond.methodLink "StarRightLaw" (117 : Nat) ({ cls := "StarRightModel", name := "look", desc := "()I" } : Jvm.MethodName)) ∈ TB := tb_in 1004 (by decide +kernel) rfl
theorem tw_1005 : (Jvm.Cond.instanceMethod ({ cls := "StarRightModel", name := "look", desc := "()I" } : Jvm.MethodName)) ∈ TB := tb_in 1005 (by decide +kernel) rfl
theorem tw_1006 : (Jvm.Cond.selects "StarRightModel" ({ cls := "StarRightModel", name := "look", desc := "()I" } : Jvm.MethodName) ({ cls := "StarRightModel", name := "look", desc := "()I" } : Jvm.MethodName)) ∈ TB := tb_in 1006 (by decide +kernel) rfl
theorem tw_1007 : (Jvm.Cond.code ({ cls := "StarRightModel", name := "look", desc := "()I" } : Jvm.MethodName) prog_11_method_56_code (6 : Nat) (Option.some Jvm.ClassFile.FieldType.int)) ∈ TB := tb_in 1007 (by decide +kernel) rfl
theorem tw_1008 : (Jvm.Cond.methodLink "StarRightLaw" (122 : Nat) ({ cls := "StarRightModel", name := "chance", desc := "(IIIZ)I" } : Jvm.MethodName)) ∈ TB := tb_in 1008 (by decide +kernel) rfl
theorem tw_1009 : (Jvm.Cond.instanceMethod ({ cls := "StarRightModel", name := "chance", desc := "(IIIZ)I" } : Jvm.MethodName)) ∈ TB := tb_in 1009 (by decide +kernel) rfl
theorem tw_1010 : (Jvm.Cond.selects "StarRightModel" ({ cls := "StarRightModel", name := "chance", desc := "(IIIZ)I" } : Jvm.MethodName) ({ cls := "StarRightModel", name := "chance", desc := "(IIIZ)I" } : Jvm.MethodName)) ∈ TB := tb_in 1010 (by decide +kernel) rfl
theorem tw_1011 : (Jvm.Cond.code ({ cls := "StarRightModel", name := "chance", desc := "(IIIZ)I" } : Jvm.MethodName) prog_11_method_57_code (10 : Nat) (Option.some Jvm.ClassFile.FieldType.int)) ∈ TB := tb_in 1011 (by decide +kernel) rfl
theorem tw_1012 : (Jvm.Cond.constantLong "StarRightModel" (234 : Nat) (6 : Int64)) ∈ TB := tb_in 1012 (by decide +kernel) rfl
theorem tw_1013 : (Jvm.Cond.methodLink "StarRightLaw" (129 : Nat) ({ cls := "StarRightModel", name := "seed", desc := "(J)J" } : Jvm.MethodName)) ∈ TB := tb_in 1013 (by decide +kernel) rfl
theorem tw_1014 : (Jvm.Cond.instanceMethod ({ cls := "StarRightModel", name := "seed", desc := "(J)J" } : Jvm.MethodName)) ∈ TB := tb_in 1014 (by decide +kernel) rfl
theorem tw_1015 : (Jvm.Cond.selects "StarRightModel" ({ cls := "StarRightModel", name := "seed", desc := "(J)J" } : Jvm.MethodName) ({ cls := "StarRightModel", name := "seed", desc := "(J)J" } : Jvm.MethodName)) ∈ TB := tb_in 1015 (by decide +kernel) rfl
theorem tw_1016 : (Jvm.Cond.code ({ cls := "StarRightModel", name := "seed", desc := "(J)J" } : Jvm.MethodName) prog_11_method_58_code (5 : Nat) (Option.some Jvm.ClassFile.FieldType.long)) ∈ TB := tb_in 1016 (by decide +kernel) rfl
theorem tw_1017 : (Jvm.Cond.methodLink "StarRightLaw" (133 : Nat) ({ cls := "StarRightModel", name := "nights", desc := "(I)I" } : Jvm.MethodName)) ∈ TB := tb_in 1017 (by decide +kernel) rfl
theorem tw_1018 : (Jvm.Cond.instanceMethod ({ cls := "StarRightModel", name := "nights", desc := "(I)I" } : Jvm.MethodName)) ∈ TB := tb_in 1018 (by decide +kernel) rfl
theorem tw_1019 : (Jvm.Cond.selects "StarRightModel" ({ cls := "StarRightModel", name := "nights", desc := "(I)I" } : Jvm.MethodName) ({ cls := "StarRightModel", name := "nights", desc := "(I)I" } : Jvm.MethodName)) ∈ TB := tb_in 1019 (by decide +kernel) rfl
theorem tw_1020 : (Jvm.Cond.code ({ cls := "StarRightModel", name := "nights", desc := "(I)I" } : Jvm.MethodName) prog_11_method_59_code (4 : Nat) (Option.some Jvm.ClassFile.FieldType.int)) ∈ TB := tb_in 1020 (by decide +kernel) rfl
theorem tw_1021 : (Jvm.Cond.constantLong "StarRightModel" (240 : Nat) (30 : Int64)) ∈ TB := tb_in 1021 (by decide +kernel) rfl
theorem tw_1022 : (Jvm.Cond.constantLong "StarRightModel" (242 : Nat) (6364136223846793005 : Int64)) ∈ TB := tb_in 1022 (by decide +kernel) rfl
theorem tw_1023 : (Jvm.Cond.constantLong "StarRightModel" (244 : Nat) (1442695040888963407 : Int64)) ∈ TB := tb_in 1023 (by decide +kernel) rfl
theorem tw_1024 : (Jvm.Cond.methodLink "StarRightLaw" (137 : Nat) ({ cls := "StarRightModel", name := "keep", desc := "(I)I" } : Jvm.MethodName)) ∈ TB := tb_in 1024 (by decide +kernel) rfl
theorem tw_1025 : (Jvm.Cond.instanceMethod ({ cls := "StarRightModel", name := "keep", desc := "(I)I" } : Jvm.MethodName)) ∈ TB := tb_in 1025 (by decide +kernel) rfl
theorem tw_1026 : (Jvm.Cond.selects "StarRightModel" ({ cls := "StarRightModel", name := "keep", desc := "(I)I" } : Jvm.MethodName) ({ cls := "StarRightModel", name := "keep", desc := "(I)I" } : Jvm.MethodName)) ∈ TB := tb_in 1026 (by decide +kernel) rfl
theorem tw_1027 : (Jvm.Cond.code ({ cls := "StarRightModel", name := "keep", desc := "(I)I" } : Jvm.MethodName) prog_11_method_60_code (3 : Nat) (Option.some Jvm.ClassFile.FieldType.int)) ∈ TB := tb_in 1027 (by decide +kernel) rfl
theorem tw_1028 : (Jvm.Cond.methodLink "StarRightLaw" (141 : Nat) ({ cls := "StarRightModel", name := "again", desc := "(I)I" } : Jvm.MethodName)) ∈ TB := tb_in 1028 (by decide +kernel) rfl
theorem tw_1029 : (Jvm.Cond.instanceMethod ({ cls := "StarRightModel", name := "again", desc := "(I)I" } : Jvm.MethodName)) ∈ TB := tb_in 1029 (by decide +kernel) rfl
theorem tw_1030 : (Jvm.Cond.selects "StarRightModel" ({ cls := "StarRightModel", name := "again", desc := "(I)I" } : Jvm.MethodName) ({ cls := "StarRightModel", name := "again", desc := "(I)I" } : Jvm.MethodName)) ∈ TB := tb_in 1030 (by decide +kernel) rfl
theorem tw_1031 : (Jvm.Cond.code ({ cls := "StarRightModel", name := "again", desc := "(I)I" } : Jvm.MethodName) prog_11_method_61_code (3 : Nat) (Option.some Jvm.ClassFile.FieldType.int)) ∈ TB := tb_in 1031 (by decide +kernel) rfl
theorem tw_1032 : (Jvm.Cond.constantLong "StarRightLaw" (123 : Nat) (4294967295 : Int64)) ∈ TB := tb_in 1032 (by decide +kernel) rfl
/-- the words of nest mates (a state keeps them when it is warmed) -/
def NW : List Cond := [(Jvm.Cond.methodLinkNest "StarRight" (11 : Nat) ({ cls := "StarRight$Text", name := "<init>", desc := "()V" } : Jvm.MethodName) "StarRight"), (Jvm.Cond.fieldLinkNest "StarRight" (128 : Nat) "StarRight$Text" "length" "I" "StarRight"), (Jvm.Cond.methodLinkNest "StarRight" (18 : Nat) ({ cls := "StarRight$Stars", name := "<init>", desc := "()V" } : Jvm.MethodName) "StarRight"), (Jvm.Cond.fieldLinkNest "StarRight" (166 : Nat) "StarRight$Stars" "speed" "[I" "StarRight"), (Jvm.Cond.fieldLinkNest "StarRight" (169 : Nat) "StarRight$Stars" "worth" "[I" "StarRight"), (Jvm.Cond.fieldLinkNest "StarRight" (111 : Nat) "StarRight$Stars" "count" "I" "StarRight"), (Jvm.Cond.fieldLinkNest "StarRight$Sight" (38 : Nat) "StarRight$Stars" "count" "I" "StarRight"), (Jvm.Cond.methodLinkNest "StarRight" (25 : Nat) ({ cls := "StarRight$Town", name := "<init>", desc := "()V" } : Jvm.MethodName) "StarRight"), (Jvm.Cond.fieldLinkNest "StarRight" (135 : Nat) "StarRight$Town" "cell" "[I" "StarRight"), (Jvm.Cond.fieldLinkNest "StarRight" (138 : Nat) "StarRight$Town" "height" "[I" "StarRight"), (Jvm.Cond.fieldLinkNest "StarRight" (141 : Nat) "StarRight$Town" "owner" "[I" "StarRight"), (Jvm.Cond.fieldLinkNest "StarRight" (179 : Nat) "StarRight$Town" "purses" "[I" "StarRight"), (Jvm.Cond.fieldLinkNest "StarRight" (108 : Nat) "StarRight$Town" "roofs" "I" "StarRight"), (Jvm.Cond.fieldLinkNest "StarRight" (120 : Nat) "StarRight$Town" "smoking" "I" "StarRight"), (Jvm.Cond.fieldLinkNest "StarRight" (114 : Nat) "StarRight$Town" "now" "I" "StarRight"), (Jvm.Cond.fieldLinkNest "StarRight$Sight" (66 : Nat) "StarRight$Town" "now" "I" "StarRight"), (Jvm.Cond.fieldLinkNest "StarRight" (117 : Nat) "StarRight$Town" "cloudy" "Z" "StarRight"), (Jvm.Cond.fieldLinkNest "StarRight$Sight" (62 : Nat) "StarRight$Town" "cloudy" "Z" "StarRight"), (Jvm.Cond.methodLinkNest "StarRight" (35 : Nat) ({ cls := "StarRight$Slot", name := "<init>", desc := "()V" } : Jvm.MethodName) "StarRight"), (Jvm.Cond.methodLinkNest "StarRight$Slot" (9 : Nat) ({ cls := "StarRight$Town", name := "<init>", desc := "()V" } : Jvm.MethodName) "StarRight"), (Jvm.Cond.fieldLinkNest "StarRight" (323 : Nat) "StarRight$Slot" "town" "LStarRight$Town;" "StarRight"), (Jvm.Cond.fieldLinkNest "StarRight" (94 : Nat) "StarRight$Slot" "kept" "Z" "StarRight"), (Jvm.Cond.methodLinkNest "StarRight" (45 : Nat) ({ cls := "StarRight$Sight", name := "<init>", desc := "()V" } : Jvm.MethodName) "StarRight"), (Jvm.Cond.methodLinkNest "StarRight" (52 : Nat) ({ cls := "StarRight$Acts", name := "<init>", desc := "()V" } : Jvm.MethodName) "StarRight"), (Jvm.Cond.fieldLinkNest "StarRight" (205 : Nat) "StarRight$Acts" "kind" "[I" "StarRight"), (Jvm.Cond.fieldLinkNest "StarRight" (202 : Nat) "StarRight$Acts" "roof" "[I" "StarRight"), (Jvm.Cond.fieldLinkNest "StarRight" (208 : Nat) "StarRight$Acts" "was" "[I" "StarRight"), (Jvm.Cond.fieldLinkNest "StarRight" (126 : Nat) "StarRight$Acts" "count" "I" "StarRight"), (Jvm.Cond.methodLinkNest "StarRight" (59 : Nat) ({ cls := "StarRight$Watch", name := "<init>", desc := "()V" } : Jvm.MethodName) "StarRight"), (Jvm.Cond.fieldLinkNest "StarRight" (127 : Nat) "StarRight$Watch" "count" "I" "StarRight"), (Jvm.Cond.methodLinkNest "StarRight" (66 : Nat) ({ cls := "StarRight$Contest", name := "<init>", desc := "()V" } : Jvm.MethodName) "StarRight")]
theorem tn_25 : (Jvm.Cond.methodLinkNest "StarRight" (11 : Nat) ({ cls := "StarRight$Text", name := "<init>", desc := "()V" } : Jvm.MethodName) "StarRight") ∈ NW := List.mem_of_getElem? (i := 0) rfl
theorem tn_31 : (Jvm.Cond.fieldLinkNest "StarRight" (128 : Nat) "StarRight$Text" "length" "I" "StarRight") ∈ NW := List.mem_of_getElem? (i := 1) rfl
theorem tn_40 : (Jvm.Cond.methodLinkNest "StarRight" (18 : Nat) ({ cls := "StarRight$Stars", name := "<init>", desc := "()V" } : Jvm.MethodName) "StarRight") ∈ NW := List.mem_of_getElem? (i := 2) rfl
theorem tn_46 : (Jvm.Cond.fieldLinkNest "StarRight" (166 : Nat) "StarRight$Stars" "speed" "[I" "StarRight") ∈ NW := List.mem_of_getElem? (i := 3) rfl
theorem tn_48 : (Jvm.Cond.fieldLinkNest "StarRight" (169 : Nat) "StarRight$Stars" "worth" "[I" "StarRight") ∈ NW := List.mem_of_getElem? (i := 4) rfl
theorem tn_50 : (Jvm.Cond.fieldLinkNest "StarRight" (111 : Nat) "StarRight$Stars" "count" "I" "StarRight") ∈ NW := List.mem_of_getElem? (i := 5) rfl
theorem tn_51 : (Jvm.Cond.fieldLinkNest "StarRight$Sight" (38 : Nat) "StarRight$Stars" "count" "I" "StarRight") ∈ NW := List.mem_of_getElem? (i := 6) rfl
theorem tn_63 : (Jvm.Cond.methodLinkNest "StarRight" (25 : Nat) ({ cls := "StarRight$Town", name := "<init>", desc := "()V" } : Jvm.MethodName) "StarRight") ∈ NW := List.mem_of_getElem? (i := 7) rfl
theorem tn_68 : (Jvm.Cond.fieldLinkNest "StarRight" (135 : Nat) "StarRight$Town" "cell" "[I" "StarRight") ∈ NW := List.mem_of_getElem? (i := 8) rfl
theorem tn_70 : (Jvm.Cond.fieldLinkNest "StarRight" (138 : Nat) "StarRight$Town" "height" "[I" "StarRight") ∈ NW := List.mem_of_getElem? (i := 9) rfl
theorem tn_72 : (Jvm.Cond.fieldLinkNest "StarRight" (141 : Nat) "StarRight$Town" "owner" "[I" "StarRight") ∈ NW := List.mem_of_getElem? (i := 10) rfl
theorem tn_74 : (Jvm.Cond.fieldLinkNest "StarRight" (179 : Nat) "StarRight$Town" "purses" "[I" "StarRight") ∈ NW := List.mem_of_getElem? (i := 11) rfl
theorem tn_76 : (Jvm.Cond.fieldLinkNest "StarRight" (108 : Nat) "StarRight$Town" "roofs" "I" "StarRight") ∈ NW := List.mem_of_getElem? (i := 12) rfl
theorem tn_78 : (Jvm.Cond.fieldLinkNest "StarRight" (120 : Nat) "StarRight$Town" "smoking" "I" "StarRight") ∈ NW := List.mem_of_getElem? (i := 13) rfl
theorem tn_80 : (Jvm.Cond.fieldLinkNest "StarRight" (114 : Nat) "StarRight$Town" "now" "I" "StarRight") ∈ NW := List.mem_of_getElem? (i := 14) rfl
theorem tn_81 : (Jvm.Cond.fieldLinkNest "StarRight$Sight" (66 : Nat) "StarRight$Town" "now" "I" "StarRight") ∈ NW := List.mem_of_getElem? (i := 15) rfl
theorem tn_83 : (Jvm.Cond.fieldLinkNest "StarRight" (117 : Nat) "StarRight$Town" "cloudy" "Z" "StarRight") ∈ NW := List.mem_of_getElem? (i := 16) rfl
theorem tn_84 : (Jvm.Cond.fieldLinkNest "StarRight$Sight" (62 : Nat) "StarRight$Town" "cloudy" "Z" "StarRight") ∈ NW := List.mem_of_getElem? (i := 17) rfl
theorem tn_104 : (Jvm.Cond.methodLinkNest "StarRight" (35 : Nat) ({ cls := "StarRight$Slot", name := "<init>", desc := "()V" } : Jvm.MethodName) "StarRight") ∈ NW := List.mem_of_getElem? (i := 18) rfl
theorem tn_109 : (Jvm.Cond.methodLinkNest "StarRight$Slot" (9 : Nat) ({ cls := "StarRight$Town", name := "<init>", desc := "()V" } : Jvm.MethodName) "StarRight") ∈ NW := List.mem_of_getElem? (i := 19) rfl
theorem tn_111 : (Jvm.Cond.fieldLinkNest "StarRight" (323 : Nat) "StarRight$Slot" "town" "LStarRight$Town;" "StarRight") ∈ NW := List.mem_of_getElem? (i := 20) rfl
theorem tn_112 : (Jvm.Cond.fieldLinkNest "StarRight" (94 : Nat) "StarRight$Slot" "kept" "Z" "StarRight") ∈ NW := List.mem_of_getElem? (i := 21) rfl
theorem tn_120 : (Jvm.Cond.methodLinkNest "StarRight" (45 : Nat) ({ cls := "StarRight$Sight", name := "<init>", desc := "()V" } : Jvm.MethodName) "StarRight") ∈ NW := List.mem_of_getElem? (i := 22) rfl
theorem tn_136 : (Jvm.Cond.methodLinkNest "StarRight" (52 : Nat) ({ cls := "StarRight$Acts", name := "<init>", desc := "()V" } : Jvm.MethodName) "StarRight") ∈ NW := List.mem_of_getElem? (i := 23) rfl
theorem tn_141 : (Jvm.Cond.fieldLinkNest "StarRight" (205 : Nat) "StarRight$Acts" "kind" "[I" "StarRight") ∈ NW := List.mem_of_getElem? (i := 24) rfl
theorem tn_143 : (Jvm.Cond.fieldLinkNest "StarRight" (202 : Nat) "StarRight$Acts" "roof" "[I" "StarRight") ∈ NW := List.mem_of_getElem? (i := 25) rfl
theorem tn_145 : (Jvm.Cond.fieldLinkNest "StarRight" (208 : Nat) "StarRight$Acts" "was" "[I" "StarRight") ∈ NW := List.mem_of_getElem? (i := 26) rfl
theorem tn_147 : (Jvm.Cond.fieldLinkNest "StarRight" (126 : Nat) "StarRight$Acts" "count" "I" "StarRight") ∈ NW := List.mem_of_getElem? (i := 27) rfl
theorem tn_159 : (Jvm.Cond.methodLinkNest "StarRight" (59 : Nat) ({ cls := "StarRight$Watch", name := "<init>", desc := "()V" } : Jvm.MethodName) "StarRight") ∈ NW := List.mem_of_getElem? (i := 28) rfl
theorem tn_167 : (Jvm.Cond.fieldLinkNest "StarRight" (127 : Nat) "StarRight$Watch" "count" "I" "StarRight") ∈ NW := List.mem_of_getElem? (i := 29) rfl
theorem tn_180 : (Jvm.Cond.methodLinkNest "StarRight" (66 : Nat) ({ cls := "StarRight$Contest", name := "<init>", desc := "()V" } : Jvm.MethodName) "StarRight") ∈ NW := List.mem_of_getElem? (i := 30) rfl
theorem nw_in : ∀ w ∈ NW, w ∈ tables_1 := by decide +kernel
theorem nw_kind : ∀ w ∈ NW, (∃ a i b n d h, w = .fieldLinkNest a i b n d h) ∨ ∃ a i x h, w = .methodLinkNest a i x h := by
  intro w hw
  simp only [NW, List.mem_cons, List.not_mem_nil, or_false] at hw
  rcases hw with rfl | rfl | rfl | rfl | rfl | rfl | rfl | rfl | rfl | rfl | rfl | rfl | rfl | rfl | rfl | rfl | rfl | rfl | rfl | rfl | rfl | rfl | rfl | rfl | rfl | rfl | rfl | rfl | rfl | rfl | rfl <;> first | exact Or.inl ⟨_, _, _, _, _, _, rfl⟩ | exact Or.inr ⟨_, _, _, _, rfl⟩
theorem twp_0 : Cond.selects "StarRight$Text" ⟨"StarRight$Text", "byteAt", "(I)I"⟩ ⟨"StarRight$Text", "byteAt", "(I)I"⟩ ∈ TB := tb_inP (by decide +kernel) rfl
theorem twp_1 : Cond.selects "StarRight$Text" ⟨"StarRight$Text", "hasDigit", "(III)Z"⟩ ⟨"StarRight$Text", "hasDigit", "(III)Z"⟩ ∈ TB := tb_inP (by decide +kernel) rfl
theorem twp_2 : Cond.selects "StarRight$Text" ⟨"StarRight$Text", "digitAt", "(I)I"⟩ ⟨"StarRight$Text", "digitAt", "(I)I"⟩ ∈ TB := tb_inP (by decide +kernel) rfl
theorem twp_3 : Cond.selects "StarRight$Text" ⟨"StarRight$Text", "faultInRoof", "(II)I"⟩ ⟨"StarRight$Text", "faultInRoof", "(II)I"⟩ ∈ TB := tb_inP (by decide +kernel) rfl
theorem twp_4 : Cond.selects "StarRight$Text" ⟨"StarRight$Text", "faultInStar", "(I)I"⟩ ⟨"StarRight$Text", "faultInStar", "(I)I"⟩ ∈ TB := tb_inP (by decide +kernel) rfl
theorem twp_5 : Cond.selects "StarRight$Town" ⟨"StarRight$Town", "isShaded", "(II)Z"⟩ ⟨"StarRight$Town", "isShaded", "(II)Z"⟩ ∈ TB := tb_inP (by decide +kernel) rfl
theorem twp_6 : Cond.selects "StarRight$Town" ⟨"StarRight$Town", "distance", "(II)I"⟩ ⟨"StarRight$Town", "distance", "(II)I"⟩ ∈ TB := tb_inP (by decide +kernel) rfl
theorem twp_7 : Cond.selects "StarRight" ⟨"StarRight", "surveyTown", "()V"⟩ ⟨"StarRight", "surveyTown", "()V"⟩ ∈ TB := tb_inP (by decide +kernel) rfl
theorem twp_8 : Cond.selects "StarRight$Sight" ⟨"StarRight$Sight", "holderByLaw", "(LStarRight$Town;II)I"⟩ ⟨"StarRight$Sight", "holderByLaw", "(LStarRight$Town;II)I"⟩ ∈ TB := tb_inP (by decide +kernel) rfl
theorem twp_9 : Cond.selects "StarRight" ⟨"StarRight", "starsHeldNow", "(I)I"⟩ ⟨"StarRight", "starsHeldNow", "(I)I"⟩ ∈ TB := tb_inP (by decide +kernel) rfl
theorem twp_10 : Cond.selects "StarRight$Sight" ⟨"StarRight$Sight", "payTo", "(II)I"⟩ ⟨"StarRight$Sight", "payTo", "(II)I"⟩ ∈ TB := tb_inP (by decide +kernel) rfl
theorem twp_11 : Cond.selects "StarRight$Acts" ⟨"StarRight$Acts", "forgetFirst", "()V"⟩ ⟨"StarRight$Acts", "forgetFirst", "()V"⟩ ∈ TB := tb_inP (by decide +kernel) rfl
theorem twp_12 : Cond.selects "StarRight" ⟨"StarRight", "payPurses", "(I)I"⟩ ⟨"StarRight", "payPurses", "(I)I"⟩ ∈ TB := tb_inP (by decide +kernel) rfl
theorem twp_13 : Cond.selects "StarRight" ⟨"StarRight", "gainOfFires", "(II)I"⟩ ⟨"StarRight", "gainOfFires", "(II)I"⟩ ∈ TB := tb_inP (by decide +kernel) rfl
theorem twp_14 : Cond.selects "StarRight" ⟨"StarRight", "gainInAllOrders", "(I)I"⟩ ⟨"StarRight", "gainInAllOrders", "(I)I"⟩ ∈ TB := tb_inP (by decide +kernel) rfl
theorem twp_15 : Cond.selects "StarRight" ⟨"StarRight", "rentsByLaw", "(III)I"⟩ ⟨"StarRight", "rentsByLaw", "(III)I"⟩ ∈ TB := tb_inP (by decide +kernel) rfl
theorem twp_16 : Cond.selects "StarRight" ⟨"StarRight", "tryHeights", "(IIII)V"⟩ ⟨"StarRight", "tryHeights", "(IIII)V"⟩ ∈ TB := tb_inP (by decide +kernel) rfl
theorem twp_17 : Cond.selects "StarRight$Contest" ⟨"StarRight$Contest", "isAtRest", "(I)Z"⟩ ⟨"StarRight$Contest", "isAtRest", "(I)Z"⟩ ∈ TB := tb_inP (by decide +kernel) rfl
theorem twp_18 : Cond.selects "StarRight$Watch" ⟨"StarRight$Watch", "fits", "(I)Z"⟩ ⟨"StarRight$Watch", "fits", "(I)Z"⟩ ∈ TB := tb_inP (by decide +kernel) rfl
theorem twp_19 : Cond.selects "StarRight" ⟨"StarRight", "slotOf", "(I)LStarRight$Slot;"⟩ ⟨"StarRight", "slotOf", "(I)LStarRight$Slot;"⟩ ∈ TB := tb_inP (by decide +kernel) rfl
theorem twp_20 : Cond.selects "StarRightModel" ⟨"StarRightModel", "readNight", "()I"⟩ ⟨"StarRightModel", "readNight", "()I"⟩ ∈ TB := tb_inP (by decide +kernel) rfl
theorem twp_21 : Cond.selects "StarRightModel" ⟨"StarRightModel", "figure", "(II)I"⟩ ⟨"StarRightModel", "figure", "(II)I"⟩ ∈ TB := tb_inP (by decide +kernel) rfl
theorem twp_22 : Cond.selects "StarRightModel" ⟨"StarRightModel", "readPart", "()Z"⟩ ⟨"StarRightModel", "readPart", "()Z"⟩ ∈ TB := tb_inP (by decide +kernel) rfl
theorem twp_23 : Cond.selects "StarRightModel" ⟨"StarRightModel", "readRoof", "()Z"⟩ ⟨"StarRightModel", "readRoof", "()Z"⟩ ∈ TB := tb_inP (by decide +kernel) rfl
theorem twp_24 : Cond.selects "StarRightModel" ⟨"StarRightModel", "isTaken", "(I)Z"⟩ ⟨"StarRightModel", "isTaken", "(I)Z"⟩ ∈ TB := tb_inP (by decide +kernel) rfl
theorem twp_25 : Cond.selects "StarRightModel" ⟨"StarRightModel", "readStar", "()Z"⟩ ⟨"StarRightModel", "readStar", "()Z"⟩ ∈ TB := tb_inP (by decide +kernel) rfl
theorem twp_26 : Cond.selects "StarRightModel" ⟨"StarRightModel", "all", "()I"⟩ ⟨"StarRightModel", "all", "()I"⟩ ∈ TB := tb_inP (by decide +kernel) rfl
theorem twp_27 : Cond.selects "StarRightModel" ⟨"StarRightModel", "isShaded", "([III)Z"⟩ ⟨"StarRightModel", "isShaded", "([III)Z"⟩ ∈ TB := tb_inP (by decide +kernel) rfl
theorem twp_28 : Cond.selects "StarRightModel" ⟨"StarRightModel", "noRoof", "(I)Z"⟩ ⟨"StarRightModel", "noRoof", "(I)Z"⟩ ∈ TB := tb_inP (by decide +kernel) rfl
theorem twp_29 : Cond.selects "StarRightModel" ⟨"StarRightModel", "doesSee", "([IIII)Z"⟩ ⟨"StarRightModel", "doesSee", "([IIII)Z"⟩ ∈ TB := tb_inP (by decide +kernel) rfl
theorem twp_30 : Cond.selects "StarRightModel" ⟨"StarRightModel", "holder", "([IIIII)I"⟩ ⟨"StarRightModel", "holder", "([IIIII)I"⟩ ∈ TB := tb_inP (by decide +kernel) rfl
theorem twp_31 : Cond.selects "StarRightModel" ⟨"StarRightModel", "over", "(II)I"⟩ ⟨"StarRightModel", "over", "(II)I"⟩ ∈ TB := tb_inP (by decide +kernel) rfl
theorem twp_32 : Cond.selects "StarRightModel" ⟨"StarRightModel", "noStar", "(I)Z"⟩ ⟨"StarRightModel", "noStar", "(I)Z"⟩ ∈ TB := tb_inP (by decide +kernel) rfl
theorem twp_33 : Cond.selects "StarRightModel" ⟨"StarRightModel", "pays", "(IIII)I"⟩ ⟨"StarRightModel", "pays", "(IIII)I"⟩ ∈ TB := tb_inP (by decide +kernel) rfl
theorem twp_34 : Cond.selects "StarRightModel" ⟨"StarRightModel", "note", "()V"⟩ ⟨"StarRightModel", "note", "()V"⟩ ∈ TB := tb_inP (by decide +kernel) rfl
theorem twp_35 : Cond.selects "StarRightModel" ⟨"StarRightModel", "rentsOf", "([IIIIII)I"⟩ ⟨"StarRightModel", "rentsOf", "([IIIIII)I"⟩ ∈ TB := tb_inP (by decide +kernel) rfl
theorem twp_36 : Cond.selects "StarRightModel" ⟨"StarRightModel", "findFires", "(I)V"⟩ ⟨"StarRightModel", "findFires", "(I)V"⟩ ∈ TB := tb_inP (by decide +kernel) rfl
theorem twp_37 : Cond.selects "StarRightModel" ⟨"StarRightModel", "begin", "()V"⟩ ⟨"StarRightModel", "begin", "()V"⟩ ∈ TB := tb_inP (by decide +kernel) rfl
theorem twp_38 : Cond.selects "StarRightModel" ⟨"StarRightModel", "doesRest", "(IIIII)Z"⟩ ⟨"StarRightModel", "doesRest", "(IIIII)Z"⟩ ∈ TB := tb_inP (by decide +kernel) rfl
theorem twp_39 : Cond.selects "StarRightModel" ⟨"StarRightModel", "layRest", "(IIIII)V"⟩ ⟨"StarRightModel", "layRest", "(IIIII)V"⟩ ∈ TB := tb_inP (by decide +kernel) rfl
theorem twp_40 : Cond.selects "StarRightModel" ⟨"StarRightModel", "find", "()V"⟩ ⟨"StarRightModel", "find", "()V"⟩ ∈ TB := tb_inP (by decide +kernel) rfl
theorem tu_0 : ∀ w ∈ u_ws RX0 TX0 4, w ∈ TB := by decide +kernel
theorem tu_1 : ∀ w ∈ u_ws RX1 TX1 2, w ∈ TB := by decide +kernel
theorem tu_2 : ∀ w ∈ u_ws RX2 TX2 3, w ∈ TB := by decide +kernel
theorem tu_3 : ∀ w ∈ u_ws RX3 TX3 2, w ∈ TB := by decide +kernel
theorem tu_4 : ∀ w ∈ u_ws RX4 TX4 4, w ∈ TB := by decide +kernel
theorem tu_5 : ∀ w ∈ u_ws RX5 TX5 2, w ∈ TB := by decide +kernel
theorem tu_6 : ∀ w ∈ u_ws RX6 TX6 8, w ∈ TB := by decide +kernel
theorem tu_7 : ∀ w ∈ u_ws RX7 TX7 4, w ∈ TB := by decide +kernel
theorem tu_8 : ∀ w ∈ u_ws RX8 TX8 13, w ∈ TB := by decide +kernel
theorem tu_9 : ∀ w ∈ u_ws RX9 TX9 37, w ∈ TB := by decide +kernel
