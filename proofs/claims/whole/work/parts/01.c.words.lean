def xT : List Cond := lw_tbl.filter goodWord
theorem xT_t {w : Cond} (h : w ∈ tables_1) (g : goodWord w = true) : w ∈ xT := List.mem_filter.mpr ⟨List.mem_append_right _ h, g⟩
theorem xT_1 {w : Cond} (j : Nat) (h : tables_1_1[j]? = some w) (g : goodWord w = true) : w ∈ xT := xT_t (List.mem_append_left _ (List.mem_of_getElem? h)) g
theorem xT_2 {w : Cond} (j : Nat) (h : tables_1_2[j]? = some w) (g : goodWord w = true) : w ∈ xT := xT_t (List.mem_append_right _ (List.mem_append_left _ (List.mem_of_getElem? h))) g
theorem xT_3 {w : Cond} (j : Nat) (h : tables_1_3[j]? = some w) (g : goodWord w = true) : w ∈ xT := xT_t (List.mem_append_right _ (List.mem_append_right _ (List.mem_append_left _ (List.mem_of_getElem? h)))) g
theorem xT_4 {w : Cond} (j : Nat) (h : tables_1_4[j]? = some w) (g : goodWord w = true) : w ∈ xT := xT_t (List.mem_append_right _ (List.mem_append_right _ (List.mem_append_right _ (List.mem_append_left _ (List.mem_of_getElem? h))))) g
theorem xT_5 {w : Cond} (j : Nat) (h : tables_1_5[j]? = some w) (g : goodWord w = true) : w ∈ xT := xT_t (List.mem_append_right _ (List.mem_append_right _ (List.mem_append_right _ (List.mem_append_right _ (List.mem_append_left _ (List.mem_of_getElem? h)))))) g
theorem xT_6 {w : Cond} (j : Nat) (h : tables_1_6[j]? = some w) (g : goodWord w = true) : w ∈ xT := xT_t (List.mem_append_right _ (List.mem_append_right _ (List.mem_append_right _ (List.mem_append_right _ (List.mem_append_right _ (List.mem_of_getElem? h)))))) g
theorem xT_p {q : MethodName × Nat} (h : q ∈ lw_privs) : Cond.selects q.1.cls q.1 q.1 ∈ xT := List.mem_filter.mpr ⟨List.mem_append_left _ (List.mem_map.mpr ⟨q, h, rfl⟩), rfl⟩
theorem xT_good {w : Cond} (h : w ∈ xT) : (w.onTables && w.keeps) = true ∨ ∃ ty, w = .arrayClass ty := good_of_word (List.mem_filter.mp h).2
theorem xg_P {cd : Cond} (h5 : cd ∈ xT) : GoodIn xT (cd :: xT) := fun w h => by
  rcases List.mem_cons.mp h with rfl | h
  · exact ⟨h5, xT_good h5⟩
  · exact ⟨h, xT_good h⟩
theorem xg_V {own C : String} {idx : Nat} {y : MethodName} {cd : Cond} (h1 : Cond.methodLink own idx y ∈ xT) (h2 : Cond.instanceMethod y ∈ xT) (h3 : Cond.selects C y y ∈ xT) (h4 : Cond.initialized C ∈ xT) (h5 : cd ∈ xT) : GoodIn xT (wsV own idx C y (cd :: xT)) := fun w h => by
  rcases List.mem_append.mp h with h | h
  · have : w ∈ xT := by
      rcases List.mem_cons.mp h with rfl | h
      · exact h1
      rcases List.mem_cons.mp h with rfl | h
      · exact h2
      rcases List.mem_cons.mp h with rfl | h
      · exact h3
      rcases List.mem_cons.mp h with rfl | h
      · exact h4
      cases h
    exact ⟨this, xT_good this⟩
  · exact xg_P h5 w h
theorem xg_S {own : String} {idx : Nat} {y : MethodName} {cd : Cond} (h1 : Cond.methodLink own idx y ∈ xT) (h2 : Cond.static y ∈ xT) (h4 : Cond.initialized y.cls ∈ xT) (h5 : cd ∈ xT) : GoodIn xT (va_wsS own idx y (cd :: xT)) := fun w h => by
  rcases List.mem_append.mp h with h | h
  · have : w ∈ xT := by
      rcases List.mem_cons.mp h with rfl | h
      · exact h1
      rcases List.mem_cons.mp h with rfl | h
      · exact h2
      rcases List.mem_cons.mp h with rfl | h
      · exact h4
      cases h
    exact ⟨this, xT_good this⟩
  · exact xg_P h5 w h
theorem tw1_0 : (Jvm.Cond.initialized "NobodyFirstLaw") ∈ xT := xT_1 0 rfl rfl
theorem tw1_1 : (Jvm.Cond.initialized "NobodyFirst") ∈ xT := xT_1 1 rfl rfl
theorem tw1_2 : (Jvm.Cond.initialized "NobodyFirst$Reader") ∈ xT := xT_1 2 rfl rfl
theorem tw1_3 : (Jvm.Cond.initialized "NobodyFirst$Party") ∈ xT := xT_1 3 rfl rfl
theorem tw1_4 : (Jvm.Cond.initialized "NobodyFirst$Told") ∈ xT := xT_1 4 rfl rfl
theorem tw1_5 : (Jvm.Cond.initialized "NobodyFirst$Evening") ∈ xT := xT_1 5 rfl rfl
theorem tw1_6 : (Jvm.Cond.initialized "NobodyFirst$Giving") ∈ xT := xT_1 6 rfl rfl
theorem tw1_7 : (Jvm.Cond.initialized "NobodyFirst$Game") ∈ xT := xT_1 7 rfl rfl
theorem tw1_8 : (Jvm.Cond.initialized "NobodyFirst$History") ∈ xT := xT_1 8 rfl rfl
theorem tw1_9 : (Jvm.Cond.initialized "java/lang/Math") ∈ xT := xT_1 9 rfl rfl
theorem tw1_10 : (Jvm.Cond.initialized "NobodyFirstModel") ∈ xT := xT_1 10 rfl rfl
theorem tw1_11 : (Jvm.Cond.initialized "java/util/Arrays") ∈ xT := xT_1 11 rfl rfl
theorem tw1_12 : (Jvm.Cond.initialized "java/lang/String") ∈ xT := xT_1 12 rfl rfl
theorem tw1_13 : (Jvm.Cond.initialized "java/lang/StringLatin1") ∈ xT := xT_1 13 rfl rfl
theorem tw1_14 : (Jvm.Cond.initialized "java/lang/StringUTF16") ∈ xT := xT_1 14 rfl rfl
theorem tw1_15 : (Jvm.Cond.initialized "jdk/internal/util/Preconditions") ∈ xT := xT_1 15 rfl rfl
theorem tw1_16 : (Jvm.Cond.initialized "java/lang/Character") ∈ xT := xT_1 16 rfl rfl
theorem tw1_17 : (Jvm.Cond.initialized "java/lang/System") ∈ xT := xT_1 17 rfl rfl
theorem tw1_18 : (Jvm.Cond.classLink "NobodyFirstLaw" (7 : Nat) "NobodyFirst") ∈ xT := xT_1 18 rfl rfl
theorem tw1_19 : (Jvm.Cond.instantiable "NobodyFirst" (9 : Nat)) ∈ xT := xT_1 19 rfl rfl
theorem tw1_20 : (Jvm.Cond.methodLink "NobodyFirstLaw" (9 : Nat) ({ cls := "NobodyFirst", name := "<init>", desc := "()V" } : Jvm.MethodName)) ∈ xT := xT_1 20 rfl rfl
theorem tw1_21 : (Jvm.Cond.instanceMethod ({ cls := "NobodyFirst", name := "<init>", desc := "()V" } : Jvm.MethodName)) ∈ xT := xT_1 21 rfl rfl
theorem tw1_22 : (Jvm.Cond.code ({ cls := "NobodyFirst", name := "<init>", desc := "()V" } : Jvm.MethodName) prog_1_method_1_code (1 : Nat) (Option.none : Option Jvm.ClassFile.FieldType)) ∈ xT := xT_1 22 rfl rfl
theorem tw1_23 : (Jvm.Cond.methodLink "NobodyFirst" (1 : Nat) ({ cls := "java/lang/Object", name := "<init>", desc := "()V" } : Jvm.MethodName)) ∈ xT := xT_1 23 rfl rfl
theorem tw1_24 : (Jvm.Cond.instanceMethod ({ cls := "java/lang/Object", name := "<init>", desc := "()V" } : Jvm.MethodName)) ∈ xT := xT_1 24 rfl rfl
theorem tw1_25 : (Jvm.Cond.code ({ cls := "java/lang/Object", name := "<init>", desc := "()V" } : Jvm.MethodName) object_method_1_code (1 : Nat) (Option.none : Option Jvm.ClassFile.FieldType)) ∈ xT := xT_1 25 rfl rfl
theorem tw1_26 : (Jvm.Cond.classLink "NobodyFirst" (17 : Nat) "NobodyFirst$Reader") ∈ xT := xT_1 26 rfl rfl
theorem tw1_27 : (Jvm.Cond.instantiable "NobodyFirst$Reader" (2 : Nat)) ∈ xT := xT_1 27 rfl rfl
theorem tw1_29 : (Jvm.Cond.instanceMethod ({ cls := "NobodyFirst$Reader", name := "<init>", desc := "()V" } : Jvm.MethodName)) ∈ xT := xT_1 29 rfl rfl
theorem tw1_30 : (Jvm.Cond.code ({ cls := "NobodyFirst$Reader", name := "<init>", desc := "()V" } : Jvm.MethodName) prog_7_method_1_code (1 : Nat) (Option.none : Option Jvm.ClassFile.FieldType)) ∈ xT := xT_1 30 rfl rfl
theorem tw1_31 : (Jvm.Cond.methodLink "NobodyFirst$Reader" (3 : Nat) ({ cls := "java/lang/Object", name := "<init>", desc := "()V" } : Jvm.MethodName)) ∈ xT := xT_1 31 rfl rfl
theorem tw1_32 : (Jvm.Cond.fieldLink "NobodyFirst$Reader" (11 : Nat) "NobodyFirst$Reader" "numbers" "[I") ∈ xT := xT_1 32 rfl rfl
theorem tw1_33 : (Jvm.Cond.fieldLink "NobodyFirst$Reader" (15 : Nat) "NobodyFirst$Reader" "place" "I") ∈ xT := xT_1 33 rfl rfl
theorem tw1_34 : (Jvm.Cond.laysFinal "NobodyFirst$Reader" "NobodyFirst$Reader" "numbers" "[I") ∈ xT := xT_1 34 rfl rfl
theorem tw1_36 : (Jvm.Cond.lays "NobodyFirst$Reader" "NobodyFirst$Reader" "place" "I") ∈ xT := xT_1 36 rfl rfl
theorem tw1_39 : (Jvm.Cond.arrayClass Jvm.ClassFile.FieldType.byte) ∈ xT := xT_1 39 rfl rfl
theorem tw1_40 : (Jvm.Cond.arrayClass Jvm.ClassFile.FieldType.int) ∈ xT := xT_1 40 rfl rfl
theorem tw1_41 : (Jvm.Cond.classLink "NobodyFirst" (24 : Nat) "NobodyFirst$Party") ∈ xT := xT_1 41 rfl rfl
theorem tw1_42 : (Jvm.Cond.instantiable "NobodyFirst$Party" (18 : Nat)) ∈ xT := xT_1 42 rfl rfl
theorem tw1_44 : (Jvm.Cond.instanceMethod ({ cls := "NobodyFirst$Party", name := "<init>", desc := "()V" } : Jvm.MethodName)) ∈ xT := xT_1 44 rfl rfl
theorem tw1_45 : (Jvm.Cond.code ({ cls := "NobodyFirst$Party", name := "<init>", desc := "()V" } : Jvm.MethodName) prog_6_method_1_code (1 : Nat) (Option.none : Option Jvm.ClassFile.FieldType)) ∈ xT := xT_1 45 rfl rfl
theorem tw1_46 : (Jvm.Cond.methodLink "NobodyFirst$Party" (3 : Nat) ({ cls := "java/lang/Object", name := "<init>", desc := "()V" } : Jvm.MethodName)) ∈ xT := xT_1 46 rfl rfl
theorem tw1_47 : (Jvm.Cond.classLink "NobodyFirst$Party" (28 : Nat) "NobodyFirst$Told") ∈ xT := xT_1 47 rfl rfl
theorem tw1_48 : (Jvm.Cond.instantiable "NobodyFirst$Told" (5 : Nat)) ∈ xT := xT_1 48 rfl rfl
theorem tw1_50 : (Jvm.Cond.instanceMethod ({ cls := "NobodyFirst$Told", name := "<init>", desc := "()V" } : Jvm.MethodName)) ∈ xT := xT_1 50 rfl rfl
theorem tw1_51 : (Jvm.Cond.code ({ cls := "NobodyFirst$Told", name := "<init>", desc := "()V" } : Jvm.MethodName) prog_8_method_1_code (1 : Nat) (Option.none : Option Jvm.ClassFile.FieldType)) ∈ xT := xT_1 51 rfl rfl
theorem tw1_52 : (Jvm.Cond.methodLink "NobodyFirst$Told" (3 : Nat) ({ cls := "java/lang/Object", name := "<init>", desc := "()V" } : Jvm.MethodName)) ∈ xT := xT_1 52 rfl rfl
theorem tw1_53 : (Jvm.Cond.fieldLink "NobodyFirst$Told" (9 : Nat) "NobodyFirst$Told" "signs" "I") ∈ xT := xT_1 53 rfl rfl
theorem tw1_57 : (Jvm.Cond.fieldLink "NobodyFirst$Told" (15 : Nat) "NobodyFirst$Told" "signMinute" "[I") ∈ xT := xT_1 57 rfl rfl
theorem tw1_59 : (Jvm.Cond.fieldLink "NobodyFirst$Told" (19 : Nat) "NobodyFirst$Told" "signWorth" "[I") ∈ xT := xT_1 59 rfl rfl
theorem tw1_61 : (Jvm.Cond.fieldLink "NobodyFirst$Told" (22 : Nat) "NobodyFirst$Told" "words" "I") ∈ xT := xT_1 61 rfl rfl
theorem tw1_65 : (Jvm.Cond.fieldLink "NobodyFirst$Told" (25 : Nat) "NobodyFirst$Told" "wordMinute" "[I") ∈ xT := xT_1 65 rfl rfl
theorem tw1_67 : (Jvm.Cond.lays "NobodyFirst$Told" "NobodyFirst$Told" "signs" "I") ∈ xT := xT_1 67 rfl rfl
theorem tw1_69 : (Jvm.Cond.laysFinal "NobodyFirst$Told" "NobodyFirst$Told" "signMinute" "[I") ∈ xT := xT_1 69 rfl rfl
theorem tw1_71 : (Jvm.Cond.laysFinal "NobodyFirst$Told" "NobodyFirst$Told" "signWorth" "[I") ∈ xT := xT_1 71 rfl rfl
theorem tw1_73 : (Jvm.Cond.lays "NobodyFirst$Told" "NobodyFirst$Told" "words" "I") ∈ xT := xT_1 73 rfl rfl
theorem tw1_75 : (Jvm.Cond.laysFinal "NobodyFirst$Told" "NobodyFirst$Told" "wordMinute" "[I") ∈ xT := xT_1 75 rfl rfl
theorem tw1_78 : (Jvm.Cond.fieldLink "NobodyFirst$Party" (9 : Nat) "NobodyFirst$Party" "guests" "I") ∈ xT := xT_1 78 rfl rfl
theorem tw1_82 : (Jvm.Cond.fieldLink "NobodyFirst$Party" (15 : Nat) "NobodyFirst$Party" "pair" "[I") ∈ xT := xT_1 82 rfl rfl
theorem tw1_86 : (Jvm.Cond.fieldLink "NobodyFirst$Party" (19 : Nat) "NobodyFirst$Party" "wouldGo" "[I") ∈ xT := xT_1 86 rfl rfl
theorem tw1_90 : (Jvm.Cond.fieldLink "NobodyFirst$Party" (22 : Nat) "NobodyFirst$Party" "ownShame" "[I") ∈ xT := xT_1 90 rfl rfl
theorem tw1_94 : (Jvm.Cond.fieldLink "NobodyFirst$Party" (25 : Nat) "NobodyFirst$Party" "kind" "[I") ∈ xT := xT_1 94 rfl rfl
theorem tw1_97 : (Jvm.Cond.fieldLink "NobodyFirst$Party" (31 : Nat) "NobodyFirst$Party" "told" "LNobodyFirst$Told;") ∈ xT := xT_1 97 rfl rfl
theorem tw1_101 : (Jvm.Cond.fieldLink "NobodyFirst$Party" (35 : Nat) "NobodyFirst$Party" "drawsBy" "I") ∈ xT := xT_1 101 rfl rfl
theorem tw1_103 : (Jvm.Cond.fieldLink "NobodyFirst$Party" (38 : Nat) "NobodyFirst$Party" "hall" "I") ∈ xT := xT_1 103 rfl rfl
theorem tw1_105 : (Jvm.Cond.fieldLink "NobodyFirst$Party" (41 : Nat) "NobodyFirst$Party" "end" "I") ∈ xT := xT_1 105 rfl rfl
theorem tw1_107 : (Jvm.Cond.fieldLink "NobodyFirst$Party" (44 : Nat) "NobodyFirst$Party" "offers" "I") ∈ xT := xT_1 107 rfl rfl
theorem tw1_110 : (Jvm.Cond.fieldLink "NobodyFirst$Party" (47 : Nat) "NobodyFirst$Party" "offerWorth" "[I") ∈ xT := xT_1 110 rfl rfl
theorem tw1_112 : (Jvm.Cond.fieldLink "NobodyFirst$Party" (50 : Nat) "NobodyFirst$Party" "offerCost" "[I") ∈ xT := xT_1 112 rfl rfl
theorem tw1_114 : (Jvm.Cond.fieldLink "NobodyFirst$Party" (53 : Nat) "NobodyFirst$Party" "ifMeant" "[I") ∈ xT := xT_1 114 rfl rfl
theorem tw1_116 : (Jvm.Cond.fieldLink "NobodyFirst$Party" (56 : Nat) "NobodyFirst$Party" "ifNot" "[I") ∈ xT := xT_1 116 rfl rfl
theorem tw1_118 : (Jvm.Cond.fieldLink "NobodyFirst$Party" (59 : Nat) "NobodyFirst$Party" "looks" "I") ∈ xT := xT_1 118 rfl rfl
theorem tw1_120 : (Jvm.Cond.fieldLink "NobodyFirst$Party" (62 : Nat) "NobodyFirst$Party" "lookedAt" "[I") ∈ xT := xT_1 120 rfl rfl
theorem tw1_121 : (Jvm.Cond.fieldLink "NobodyFirst$Party" (65 : Nat) "NobodyFirst$Party" "lookMinute" "[I") ∈ xT := xT_1 121 rfl rfl
theorem tw1_122 : (Jvm.Cond.fieldLink "NobodyFirst$Party" (68 : Nat) "NobodyFirst$Party" "yawned" "[I") ∈ xT := xT_1 122 rfl rfl
theorem tw1_123 : (Jvm.Cond.lays "NobodyFirst$Party" "NobodyFirst$Party" "guests" "I") ∈ xT := xT_1 123 rfl rfl
theorem tw1_125 : (Jvm.Cond.laysFinal "NobodyFirst$Party" "NobodyFirst$Party" "pair" "[I") ∈ xT := xT_1 125 rfl rfl
theorem tw1_127 : (Jvm.Cond.laysFinal "NobodyFirst$Party" "NobodyFirst$Party" "wouldGo" "[I") ∈ xT := xT_1 127 rfl rfl
theorem tw1_129 : (Jvm.Cond.laysFinal "NobodyFirst$Party" "NobodyFirst$Party" "ownShame" "[I") ∈ xT := xT_1 129 rfl rfl
theorem tw1_131 : (Jvm.Cond.laysFinal "NobodyFirst$Party" "NobodyFirst$Party" "kind" "[I") ∈ xT := xT_1 131 rfl rfl
theorem tw1_133 : (Jvm.Cond.laysFinal "NobodyFirst$Party" "NobodyFirst$Party" "told" "LNobodyFirst$Told;") ∈ xT := xT_1 133 rfl rfl
theorem tw1_135 : (Jvm.Cond.lays "NobodyFirst$Party" "NobodyFirst$Party" "drawsBy" "I") ∈ xT := xT_1 135 rfl rfl
theorem tw1_137 : (Jvm.Cond.lays "NobodyFirst$Party" "NobodyFirst$Party" "hall" "I") ∈ xT := xT_1 137 rfl rfl
theorem tw1_139 : (Jvm.Cond.lays "NobodyFirst$Party" "NobodyFirst$Party" "end" "I") ∈ xT := xT_1 139 rfl rfl
theorem tw1_141 : (Jvm.Cond.lays "NobodyFirst$Party" "NobodyFirst$Party" "offers" "I") ∈ xT := xT_1 141 rfl rfl
theorem tw1_143 : (Jvm.Cond.laysFinal "NobodyFirst$Party" "NobodyFirst$Party" "offerWorth" "[I") ∈ xT := xT_1 143 rfl rfl
theorem tw1_145 : (Jvm.Cond.laysFinal "NobodyFirst$Party" "NobodyFirst$Party" "offerCost" "[I") ∈ xT := xT_1 145 rfl rfl
theorem tw1_147 : (Jvm.Cond.laysFinal "NobodyFirst$Party" "NobodyFirst$Party" "ifMeant" "[I") ∈ xT := xT_1 147 rfl rfl
theorem tw1_149 : (Jvm.Cond.laysFinal "NobodyFirst$Party" "NobodyFirst$Party" "ifNot" "[I") ∈ xT := xT_1 149 rfl rfl
theorem tw1_151 : (Jvm.Cond.lays "NobodyFirst$Party" "NobodyFirst$Party" "looks" "I") ∈ xT := xT_1 151 rfl rfl
theorem tw1_153 : (Jvm.Cond.laysFinal "NobodyFirst$Party" "NobodyFirst$Party" "lookedAt" "[I") ∈ xT := xT_1 153 rfl rfl
theorem tw1_155 : (Jvm.Cond.laysFinal "NobodyFirst$Party" "NobodyFirst$Party" "lookMinute" "[I") ∈ xT := xT_1 155 rfl rfl
theorem tw1_157 : (Jvm.Cond.laysFinal "NobodyFirst$Party" "NobodyFirst$Party" "yawned" "[I") ∈ xT := xT_1 157 rfl rfl
theorem tw1_160 : (Jvm.Cond.classLink "NobodyFirst" (34 : Nat) "NobodyFirst$Evening") ∈ xT := xT_1 160 rfl rfl
theorem tw1_161 : (Jvm.Cond.instantiable "NobodyFirst$Evening" (14 : Nat)) ∈ xT := xT_1 161 rfl rfl
theorem tw1_163 : (Jvm.Cond.instanceMethod ({ cls := "NobodyFirst$Evening", name := "<init>", desc := "()V" } : Jvm.MethodName)) ∈ xT := xT_1 163 rfl rfl
theorem tw1_164 : (Jvm.Cond.code ({ cls := "NobodyFirst$Evening", name := "<init>", desc := "()V" } : Jvm.MethodName) prog_2_method_1_code (1 : Nat) (Option.none : Option Jvm.ClassFile.FieldType)) ∈ xT := xT_1 164 rfl rfl
theorem tw1_165 : (Jvm.Cond.methodLink "NobodyFirst$Evening" (3 : Nat) ({ cls := "java/lang/Object", name := "<init>", desc := "()V" } : Jvm.MethodName)) ∈ xT := xT_1 165 rfl rfl
theorem tw1_166 : (Jvm.Cond.classLink "NobodyFirst$Evening" (9 : Nat) "NobodyFirst$Party") ∈ xT := xT_1 166 rfl rfl
theorem tw1_168 : (Jvm.Cond.fieldLink "NobodyFirst$Evening" (12 : Nat) "NobodyFirst$Evening" "party" "LNobodyFirst$Party;") ∈ xT := xT_1 168 rfl rfl
theorem tw1_169 : (Jvm.Cond.fieldLink "NobodyFirst$Evening" (18 : Nat) "NobodyFirst$Evening" "kind" "[I") ∈ xT := xT_1 169 rfl rfl
theorem tw1_170 : (Jvm.Cond.fieldLink "NobodyFirst$Evening" (22 : Nat) "NobodyFirst$Evening" "goesFrom" "[I") ∈ xT := xT_1 170 rfl rfl
theorem tw1_171 : (Jvm.Cond.fieldLink "NobodyFirst$Evening" (25 : Nat) "NobodyFirst$Evening" "signs" "I") ∈ xT := xT_1 171 rfl rfl
theorem tw1_172 : (Jvm.Cond.fieldLink "NobodyFirst$Evening" (29 : Nat) "NobodyFirst$Evening" "signMinute" "[I") ∈ xT := xT_1 172 rfl rfl
theorem tw1_173 : (Jvm.Cond.fieldLink "NobodyFirst$Evening" (32 : Nat) "NobodyFirst$Evening" "signWorth" "[I") ∈ xT := xT_1 173 rfl rfl
theorem tw1_174 : (Jvm.Cond.fieldLink "NobodyFirst$Evening" (35 : Nat) "NobodyFirst$Evening" "heardBy" "[I") ∈ xT := xT_1 174 rfl rfl
theorem tw1_175 : (Jvm.Cond.fieldLink "NobodyFirst$Evening" (38 : Nat) "NobodyFirst$Evening" "allStandAt" "I") ∈ xT := xT_1 175 rfl rfl
theorem tw1_176 : (Jvm.Cond.fieldLink "NobodyFirst$Evening" (41 : Nat) "NobodyFirst$Evening" "present" "I") ∈ xT := xT_1 176 rfl rfl
theorem tw1_177 : (Jvm.Cond.fieldLink "NobodyFirst$Evening" (44 : Nat) "NobodyFirst$Evening" "stood" "I") ∈ xT := xT_1 177 rfl rfl
theorem tw1_178 : (Jvm.Cond.fieldLink "NobodyFirst$Evening" (47 : Nat) "NobodyFirst$Evening" "guestsStood" "I") ∈ xT := xT_1 178 rfl rfl
theorem tw1_179 : (Jvm.Cond.fieldLink "NobodyFirst$Evening" (50 : Nat) "NobodyFirst$Evening" "ready" "[I") ∈ xT := xT_1 179 rfl rfl
theorem tw1_180 : (Jvm.Cond.fieldLink "NobodyFirst$Evening" (53 : Nat) "NobodyFirst$Evening" "stands" "[I") ∈ xT := xT_1 180 rfl rfl
theorem tw1_181 : (Jvm.Cond.fieldLink "NobodyFirst$Evening" (56 : Nat) "NobodyFirst$Evening" "goes" "[I") ∈ xT := xT_1 181 rfl rfl
theorem tw1_182 : (Jvm.Cond.lays "NobodyFirst$Evening" "NobodyFirst$Evening" "party" "LNobodyFirst$Party;") ∈ xT := xT_1 182 rfl rfl
theorem tw1_184 : (Jvm.Cond.laysFinal "NobodyFirst$Evening" "NobodyFirst$Evening" "kind" "[I") ∈ xT := xT_1 184 rfl rfl
theorem tw1_186 : (Jvm.Cond.laysFinal "NobodyFirst$Evening" "NobodyFirst$Evening" "goesFrom" "[I") ∈ xT := xT_1 186 rfl rfl
theorem tw1_188 : (Jvm.Cond.lays "NobodyFirst$Evening" "NobodyFirst$Evening" "signs" "I") ∈ xT := xT_1 188 rfl rfl
theorem tw1_190 : (Jvm.Cond.laysFinal "NobodyFirst$Evening" "NobodyFirst$Evening" "signMinute" "[I") ∈ xT := xT_1 190 rfl rfl
theorem tw1_192 : (Jvm.Cond.laysFinal "NobodyFirst$Evening" "NobodyFirst$Evening" "signWorth" "[I") ∈ xT := xT_1 192 rfl rfl
theorem tw1_194 : (Jvm.Cond.laysFinal "NobodyFirst$Evening" "NobodyFirst$Evening" "heardBy" "[I") ∈ xT := xT_1 194 rfl rfl
theorem tw1_196 : (Jvm.Cond.lays "NobodyFirst$Evening" "NobodyFirst$Evening" "allStandAt" "I") ∈ xT := xT_1 196 rfl rfl
theorem tw1_198 : (Jvm.Cond.lays "NobodyFirst$Evening" "NobodyFirst$Evening" "present" "I") ∈ xT := xT_1 198 rfl rfl
theorem tw1_200 : (Jvm.Cond.lays "NobodyFirst$Evening" "NobodyFirst$Evening" "stood" "I") ∈ xT := xT_1 200 rfl rfl
theorem tw1_202 : (Jvm.Cond.lays "NobodyFirst$Evening" "NobodyFirst$Evening" "guestsStood" "I") ∈ xT := xT_1 202 rfl rfl
theorem tw1_204 : (Jvm.Cond.laysFinal "NobodyFirst$Evening" "NobodyFirst$Evening" "ready" "[I") ∈ xT := xT_1 204 rfl rfl
theorem tw1_206 : (Jvm.Cond.laysFinal "NobodyFirst$Evening" "NobodyFirst$Evening" "stands" "[I") ∈ xT := xT_1 206 rfl rfl
theorem tw1_208 : (Jvm.Cond.laysFinal "NobodyFirst$Evening" "NobodyFirst$Evening" "goes" "[I") ∈ xT := xT_1 208 rfl rfl
theorem tw1_211 : (Jvm.Cond.classLink "NobodyFirst" (41 : Nat) "NobodyFirst$Giving") ∈ xT := xT_1 211 rfl rfl
theorem tw1_212 : (Jvm.Cond.instantiable "NobodyFirst$Giving" (4 : Nat)) ∈ xT := xT_1 212 rfl rfl
theorem tw1_214 : (Jvm.Cond.instanceMethod ({ cls := "NobodyFirst$Giving", name := "<init>", desc := "()V" } : Jvm.MethodName)) ∈ xT := xT_1 214 rfl rfl
theorem tw1_215 : (Jvm.Cond.code ({ cls := "NobodyFirst$Giving", name := "<init>", desc := "()V" } : Jvm.MethodName) prog_4_method_1_code (1 : Nat) (Option.none : Option Jvm.ClassFile.FieldType)) ∈ xT := xT_1 215 rfl rfl
theorem tw1_216 : (Jvm.Cond.methodLink "NobodyFirst$Giving" (3 : Nat) ({ cls := "java/lang/Object", name := "<init>", desc := "()V" } : Jvm.MethodName)) ∈ xT := xT_1 216 rfl rfl
theorem tw1_217 : (Jvm.Cond.fieldLink "NobodyFirst$Giving" (9 : Nat) "NobodyFirst$Giving" "known" "Z") ∈ xT := xT_1 217 rfl rfl
theorem tw1_219 : (Jvm.Cond.fieldLink "NobodyFirst$Giving" (15 : Nat) "NobodyFirst$Giving" "least" "I") ∈ xT := xT_1 219 rfl rfl
theorem tw1_221 : (Jvm.Cond.fieldLink "NobodyFirst$Giving" (19 : Nat) "NobodyFirst$Giving" "choice" "[I") ∈ xT := xT_1 221 rfl rfl
theorem tw1_222 : (Jvm.Cond.fieldLink "NobodyFirst$Giving" (23 : Nat) "NobodyFirst$Giving" "chosen" "[I") ∈ xT := xT_1 222 rfl rfl
theorem tw1_223 : (Jvm.Cond.lays "NobodyFirst$Giving" "NobodyFirst$Giving" "known" "Z") ∈ xT := xT_1 223 rfl rfl
theorem tw1_225 : (Jvm.Cond.lays "NobodyFirst$Giving" "NobodyFirst$Giving" "least" "I") ∈ xT := xT_1 225 rfl rfl
theorem tw1_227 : (Jvm.Cond.laysFinal "NobodyFirst$Giving" "NobodyFirst$Giving" "choice" "[I") ∈ xT := xT_1 227 rfl rfl
theorem tw1_229 : (Jvm.Cond.laysFinal "NobodyFirst$Giving" "NobodyFirst$Giving" "chosen" "[I") ∈ xT := xT_1 229 rfl rfl
theorem tw1_232 : (Jvm.Cond.classLink "NobodyFirst" (48 : Nat) "NobodyFirst$Game") ∈ xT := xT_1 232 rfl rfl
theorem tw1_233 : (Jvm.Cond.instantiable "NobodyFirst$Game" (9 : Nat)) ∈ xT := xT_1 233 rfl rfl
theorem tw1_235 : (Jvm.Cond.instanceMethod ({ cls := "NobodyFirst$Game", name := "<init>", desc := "()V" } : Jvm.MethodName)) ∈ xT := xT_1 235 rfl rfl
theorem tw1_236 : (Jvm.Cond.code ({ cls := "NobodyFirst$Game", name := "<init>", desc := "()V" } : Jvm.MethodName) prog_3_method_1_code (1 : Nat) (Option.none : Option Jvm.ClassFile.FieldType)) ∈ xT := xT_1 236 rfl rfl
theorem tw1_237 : (Jvm.Cond.methodLink "NobodyFirst$Game" (3 : Nat) ({ cls := "java/lang/Object", name := "<init>", desc := "()V" } : Jvm.MethodName)) ∈ xT := xT_1 237 rfl rfl
theorem tw1_238 : (Jvm.Cond.fieldLink "NobodyFirst$Game" (9 : Nat) "NobodyFirst$Game" "known" "Z") ∈ xT := xT_1 238 rfl rfl
theorem tw1_239 : (Jvm.Cond.fieldLink "NobodyFirst$Game" (15 : Nat) "NobodyFirst$Game" "pairs" "I") ∈ xT := xT_1 239 rfl rfl
theorem tw2_1 : (Jvm.Cond.fieldLink "NobodyFirst$Game" (19 : Nat) "NobodyFirst$Game" "wouldGo" "[I") ∈ xT := xT_2 1 rfl rfl
theorem tw2_2 : (Jvm.Cond.fieldLink "NobodyFirst$Game" (23 : Nat) "NobodyFirst$Game" "ownShame" "[I") ∈ xT := xT_2 2 rfl rfl
theorem tw2_3 : (Jvm.Cond.fieldLink "NobodyFirst$Game" (26 : Nat) "NobodyFirst$Game" "slot" "[I") ∈ xT := xT_2 3 rfl rfl
theorem tw2_4 : (Jvm.Cond.fieldLink "NobodyFirst$Game" (29 : Nat) "NobodyFirst$Game" "firstRest" "[I") ∈ xT := xT_2 4 rfl rfl
theorem tw2_6 : (Jvm.Cond.fieldLink "NobodyFirst$Game" (32 : Nat) "NobodyFirst$Game" "restsFound" "I") ∈ xT := xT_2 6 rfl rfl
theorem tw2_8 : (Jvm.Cond.fieldLink "NobodyFirst$Game" (35 : Nat) "NobodyFirst$Game" "leastOfRests" "I") ∈ xT := xT_2 8 rfl rfl
theorem tw2_10 : (Jvm.Cond.fieldLink "NobodyFirst$Game" (38 : Nat) "NobodyFirst$Game" "leastOfAll" "I") ∈ xT := xT_2 10 rfl rfl
theorem tw2_12 : (Jvm.Cond.lays "NobodyFirst$Game" "NobodyFirst$Game" "known" "Z") ∈ xT := xT_2 12 rfl rfl
theorem tw2_14 : (Jvm.Cond.lays "NobodyFirst$Game" "NobodyFirst$Game" "pairs" "I") ∈ xT := xT_2 14 rfl rfl
theorem tw2_16 : (Jvm.Cond.laysFinal "NobodyFirst$Game" "NobodyFirst$Game" "wouldGo" "[I") ∈ xT := xT_2 16 rfl rfl
theorem tw2_18 : (Jvm.Cond.laysFinal "NobodyFirst$Game" "NobodyFirst$Game" "ownShame" "[I") ∈ xT := xT_2 18 rfl rfl
theorem tw2_20 : (Jvm.Cond.laysFinal "NobodyFirst$Game" "NobodyFirst$Game" "slot" "[I") ∈ xT := xT_2 20 rfl rfl
theorem tw2_22 : (Jvm.Cond.laysFinal "NobodyFirst$Game" "NobodyFirst$Game" "firstRest" "[I") ∈ xT := xT_2 22 rfl rfl
theorem tw2_24 : (Jvm.Cond.lays "NobodyFirst$Game" "NobodyFirst$Game" "restsFound" "I") ∈ xT := xT_2 24 rfl rfl
theorem tw2_26 : (Jvm.Cond.lays "NobodyFirst$Game" "NobodyFirst$Game" "leastOfRests" "I") ∈ xT := xT_2 26 rfl rfl
theorem tw2_28 : (Jvm.Cond.lays "NobodyFirst$Game" "NobodyFirst$Game" "leastOfAll" "I") ∈ xT := xT_2 28 rfl rfl
theorem tw2_31 : (Jvm.Cond.classLink "NobodyFirst" (55 : Nat) "NobodyFirst$History") ∈ xT := xT_2 31 rfl rfl
theorem tw2_32 : (Jvm.Cond.instantiable "NobodyFirst$History" (5 : Nat)) ∈ xT := xT_2 32 rfl rfl
theorem tw2_34 : (Jvm.Cond.instanceMethod ({ cls := "NobodyFirst$History", name := "<init>", desc := "()V" } : Jvm.MethodName)) ∈ xT := xT_2 34 rfl rfl
theorem tw2_35 : (Jvm.Cond.code ({ cls := "NobodyFirst$History", name := "<init>", desc := "()V" } : Jvm.MethodName) prog_5_method_1_code (1 : Nat) (Option.none : Option Jvm.ClassFile.FieldType)) ∈ xT := xT_2 35 rfl rfl
theorem tw2_36 : (Jvm.Cond.methodLink "NobodyFirst$History" (3 : Nat) ({ cls := "java/lang/Object", name := "<init>", desc := "()V" } : Jvm.MethodName)) ∈ xT := xT_2 36 rfl rfl
theorem tw2_37 : (Jvm.Cond.classLink "NobodyFirst$History" (19 : Nat) "NobodyFirst$Told") ∈ xT := xT_2 37 rfl rfl
theorem tw2_39 : (Jvm.Cond.fieldLink "NobodyFirst$History" (9 : Nat) "NobodyFirst$History" "wasSign" "[Z") ∈ xT := xT_2 39 rfl rfl
theorem tw2_40 : (Jvm.Cond.fieldLink "NobodyFirst$History" (15 : Nat) "NobodyFirst$History" "steps" "I") ∈ xT := xT_2 40 rfl rfl
theorem tw2_42 : (Jvm.Cond.fieldLink "NobodyFirst$History" (22 : Nat) "NobodyFirst$History" "firstKept" "LNobodyFirst$Told;") ∈ xT := xT_2 42 rfl rfl
theorem tw2_43 : (Jvm.Cond.fieldLink "NobodyFirst$History" (26 : Nat) "NobodyFirst$History" "secondKept" "LNobodyFirst$Told;") ∈ xT := xT_2 43 rfl rfl
theorem tw2_44 : (Jvm.Cond.fieldLink "NobodyFirst$History" (29 : Nat) "NobodyFirst$History" "kept" "I") ∈ xT := xT_2 44 rfl rfl
theorem tw2_46 : (Jvm.Cond.laysFinal "NobodyFirst$History" "NobodyFirst$History" "wasSign" "[Z") ∈ xT := xT_2 46 rfl rfl
theorem tw2_48 : (Jvm.Cond.lays "NobodyFirst$History" "NobodyFirst$History" "steps" "I") ∈ xT := xT_2 48 rfl rfl
theorem tw2_50 : (Jvm.Cond.laysFinal "NobodyFirst$History" "NobodyFirst$History" "firstKept" "LNobodyFirst$Told;") ∈ xT := xT_2 50 rfl rfl
theorem tw2_52 : (Jvm.Cond.laysFinal "NobodyFirst$History" "NobodyFirst$History" "secondKept" "LNobodyFirst$Told;") ∈ xT := xT_2 52 rfl rfl
theorem tw2_54 : (Jvm.Cond.lays "NobodyFirst$History" "NobodyFirst$History" "kept" "I") ∈ xT := xT_2 54 rfl rfl
theorem tw2_57 : (Jvm.Cond.arrayClass Jvm.ClassFile.FieldType.boolean) ∈ xT := xT_2 57 rfl rfl
theorem tw2_58 : (Jvm.Cond.methodLink "NobodyFirst" (62 : Nat) ({ cls := "NobodyFirst$Party", name := "addGuest", desc := "(IIII)Z" } : Jvm.MethodName)) ∈ xT := xT_2 58 rfl rfl
theorem tw2_59 : (Jvm.Cond.instanceMethod ({ cls := "NobodyFirst$Party", name := "addGuest", desc := "(IIII)Z" } : Jvm.MethodName)) ∈ xT := xT_2 59 rfl rfl
theorem tw2_60 : (Jvm.Cond.selects "NobodyFirst$Party" ({ cls := "NobodyFirst$Party", name := "addGuest", desc := "(IIII)Z" } : Jvm.MethodName) ({ cls := "NobodyFirst$Party", name := "addGuest", desc := "(IIII)Z" } : Jvm.MethodName)) ∈ xT := xT_2 60 rfl rfl
theorem tw2_61 : (Jvm.Cond.code ({ cls := "NobodyFirst$Party", name := "addGuest", desc := "(IIII)Z" } : Jvm.MethodName) prog_6_method_3_code (5 : Nat) (Option.some Jvm.ClassFile.FieldType.boolean)) ∈ xT := xT_2 61 rfl rfl
theorem tw2_62 : (Jvm.Cond.methodLink "NobodyFirst" (66 : Nat) ({ cls := "NobodyFirst$Game", name := "gather", desc := "(LNobodyFirst$Party;)V" } : Jvm.MethodName)) ∈ xT := xT_2 62 rfl rfl
theorem tw2_63 : (Jvm.Cond.instanceMethod ({ cls := "NobodyFirst$Game", name := "gather", desc := "(LNobodyFirst$Party;)V" } : Jvm.MethodName)) ∈ xT := xT_2 63 rfl rfl
theorem tw2_64 : (Jvm.Cond.selects "NobodyFirst$Game" ({ cls := "NobodyFirst$Game", name := "gather", desc := "(LNobodyFirst$Party;)V" } : Jvm.MethodName) ({ cls := "NobodyFirst$Game", name := "gather", desc := "(LNobodyFirst$Party;)V" } : Jvm.MethodName)) ∈ xT := xT_2 64 rfl rfl
theorem tw2_65 : (Jvm.Cond.code ({ cls := "NobodyFirst$Game", name := "gather", desc := "(LNobodyFirst$Party;)V" } : Jvm.MethodName) prog_3_method_2_code (5 : Nat) (Option.none : Option Jvm.ClassFile.FieldType)) ∈ xT := xT_2 65 rfl rfl
theorem tw2_66 : (Jvm.Cond.methodLink "NobodyFirst$Game" (50 : Nat) ({ cls := "java/lang/Math", name := "max", desc := "(II)I" } : Jvm.MethodName)) ∈ xT := xT_2 66 rfl rfl
theorem tw2_67 : (Jvm.Cond.static ({ cls := "java/lang/Math", name := "max", desc := "(II)I" } : Jvm.MethodName)) ∈ xT := xT_2 67 rfl rfl
theorem tw2_68 : Cond.code Lib.Math.max.name Lib.Math.max.code 2 (some .int) ∈ xT := xT_2 68 rfl rfl
theorem tw2_69 : (Jvm.Cond.fieldLink "NobodyFirst" (9 : Nat) "NobodyFirst" "text" "[B") ∈ xT := xT_2 69 rfl rfl
theorem tw2_70 : (Jvm.Cond.fieldLink "NobodyFirst" (13 : Nat) "NobodyFirst" "length" "I") ∈ xT := xT_2 70 rfl rfl
theorem tw2_71 : (Jvm.Cond.fieldLink "NobodyFirst" (20 : Nat) "NobodyFirst" "reader" "LNobodyFirst$Reader;") ∈ xT := xT_2 71 rfl rfl
theorem tw2_72 : (Jvm.Cond.fieldLink "NobodyFirst" (27 : Nat) "NobodyFirst" "laid" "LNobodyFirst$Party;") ∈ xT := xT_2 72 rfl rfl
theorem tw2_73 : (Jvm.Cond.fieldLink "NobodyFirst" (31 : Nat) "NobodyFirst" "draft" "LNobodyFirst$Party;") ∈ xT := xT_2 73 rfl rfl
theorem tw2_74 : (Jvm.Cond.fieldLink "NobodyFirst" (37 : Nat) "NobodyFirst" "evening" "LNobodyFirst$Evening;") ∈ xT := xT_2 74 rfl rfl
theorem tw2_75 : (Jvm.Cond.fieldLink "NobodyFirst" (44 : Nat) "NobodyFirst" "giving" "LNobodyFirst$Giving;") ∈ xT := xT_2 75 rfl rfl
theorem tw2_76 : (Jvm.Cond.fieldLink "NobodyFirst" (51 : Nat) "NobodyFirst" "game" "LNobodyFirst$Game;") ∈ xT := xT_2 76 rfl rfl
theorem tw2_77 : (Jvm.Cond.fieldLink "NobodyFirst" (58 : Nat) "NobodyFirst" "history" "LNobodyFirst$History;") ∈ xT := xT_2 77 rfl rfl
theorem tw2_78 : (Jvm.Cond.laysFinal "NobodyFirst" "NobodyFirst" "text" "[B") ∈ xT := xT_2 78 rfl rfl
theorem tw2_80 : (Jvm.Cond.lays "NobodyFirst" "NobodyFirst" "length" "I") ∈ xT := xT_2 80 rfl rfl
theorem tw2_82 : (Jvm.Cond.laysFinal "NobodyFirst" "NobodyFirst" "reader" "LNobodyFirst$Reader;") ∈ xT := xT_2 82 rfl rfl
theorem tw2_84 : (Jvm.Cond.lays "NobodyFirst" "NobodyFirst" "laid" "LNobodyFirst$Party;") ∈ xT := xT_2 84 rfl rfl
theorem tw2_86 : (Jvm.Cond.lays "NobodyFirst" "NobodyFirst" "draft" "LNobodyFirst$Party;") ∈ xT := xT_2 86 rfl rfl
theorem tw2_88 : (Jvm.Cond.laysFinal "NobodyFirst" "NobodyFirst" "evening" "LNobodyFirst$Evening;") ∈ xT := xT_2 88 rfl rfl
theorem tw2_90 : (Jvm.Cond.laysFinal "NobodyFirst" "NobodyFirst" "giving" "LNobodyFirst$Giving;") ∈ xT := xT_2 90 rfl rfl
theorem tw2_92 : (Jvm.Cond.laysFinal "NobodyFirst" "NobodyFirst" "game" "LNobodyFirst$Game;") ∈ xT := xT_2 92 rfl rfl
theorem tw2_94 : (Jvm.Cond.laysFinal "NobodyFirst" "NobodyFirst" "history" "LNobodyFirst$History;") ∈ xT := xT_2 94 rfl rfl
theorem tw2_97 : (Jvm.Cond.methodLink "NobodyFirstLaw" (15 : Nat) ({ cls := "NobodyFirst", name := "write", desc := "(IJ)I" } : Jvm.MethodName)) ∈ xT := xT_2 97 rfl rfl
theorem tw2_98 : (Jvm.Cond.instanceMethod ({ cls := "NobodyFirst", name := "write", desc := "(IJ)I" } : Jvm.MethodName)) ∈ xT := xT_2 98 rfl rfl
theorem tw2_99 : (Jvm.Cond.selects "NobodyFirst" ({ cls := "NobodyFirst", name := "write", desc := "(IJ)I" } : Jvm.MethodName) ({ cls := "NobodyFirst", name := "write", desc := "(IJ)I" } : Jvm.MethodName)) ∈ xT := xT_2 99 rfl rfl
theorem tw2_100 : (Jvm.Cond.code ({ cls := "NobodyFirst", name := "write", desc := "(IJ)I" } : Jvm.MethodName) prog_1_method_2_code (5 : Nat) (Option.some Jvm.ClassFile.FieldType.int)) ∈ xT := xT_2 100 rfl rfl
theorem tw2_101 : (Jvm.Cond.methodLink "NobodyFirst" (70 : Nat) ({ cls := "NobodyFirst", name := "within", desc := "(III)Z" } : Jvm.MethodName)) ∈ xT := xT_2 101 rfl rfl
theorem tw2_102 : (Jvm.Cond.static ({ cls := "NobodyFirst", name := "within", desc := "(III)Z" } : Jvm.MethodName)) ∈ xT := xT_2 102 rfl rfl
theorem tw2_103 : (Jvm.Cond.code ({ cls := "NobodyFirst", name := "within", desc := "(III)Z" } : Jvm.MethodName) prog_1_method_30_code (3 : Nat) (Option.some Jvm.ClassFile.FieldType.boolean)) ∈ xT := xT_2 103 rfl rfl
theorem tw2_104 : (Jvm.Cond.methodLink "NobodyFirstLaw" (20 : Nat) ({ cls := "NobodyFirst", name := "wipe", desc := "()I" } : Jvm.MethodName)) ∈ xT := xT_2 104 rfl rfl
theorem tw2_105 : (Jvm.Cond.instanceMethod ({ cls := "NobodyFirst", name := "wipe", desc := "()I" } : Jvm.MethodName)) ∈ xT := xT_2 105 rfl rfl
theorem tw2_106 : (Jvm.Cond.selects "NobodyFirst" ({ cls := "NobodyFirst", name := "wipe", desc := "()I" } : Jvm.MethodName) ({ cls := "NobodyFirst", name := "wipe", desc := "()I" } : Jvm.MethodName)) ∈ xT := xT_2 106 rfl rfl
theorem tw2_107 : (Jvm.Cond.code ({ cls := "NobodyFirst", name := "wipe", desc := "()I" } : Jvm.MethodName) prog_1_method_3_code (2 : Nat) (Option.some Jvm.ClassFile.FieldType.int)) ∈ xT := xT_2 107 rfl rfl
theorem tw2_108 : (Jvm.Cond.methodLink "NobodyFirstLaw" (25 : Nat) ({ cls := "NobodyFirst", name := "fault", desc := "()I" } : Jvm.MethodName)) ∈ xT := xT_2 108 rfl rfl
theorem tw2_109 : (Jvm.Cond.instanceMethod ({ cls := "NobodyFirst", name := "fault", desc := "()I" } : Jvm.MethodName)) ∈ xT := xT_2 109 rfl rfl
theorem tw2_110 : (Jvm.Cond.selects "NobodyFirst" ({ cls := "NobodyFirst", name := "fault", desc := "()I" } : Jvm.MethodName) ({ cls := "NobodyFirst", name := "fault", desc := "()I" } : Jvm.MethodName)) ∈ xT := xT_2 110 rfl rfl
theorem tw2_111 : (Jvm.Cond.code ({ cls := "NobodyFirst", name := "fault", desc := "()I" } : Jvm.MethodName) prog_1_method_4_code (1 : Nat) (Option.some Jvm.ClassFile.FieldType.int)) ∈ xT := xT_2 111 rfl rfl
theorem tw2_112 : (Jvm.Cond.methodLink "NobodyFirst" (74 : Nat) ({ cls := "NobodyFirst$Reader", name := "firstFault", desc := "([BILNobodyFirst$Party;)I" } : Jvm.MethodName)) ∈ xT := xT_2 112 rfl rfl
theorem tw2_113 : (Jvm.Cond.instanceMethod ({ cls := "NobodyFirst$Reader", name := "firstFault", desc := "([BILNobodyFirst$Party;)I" } : Jvm.MethodName)) ∈ xT := xT_2 113 rfl rfl
theorem tw2_114 : (Jvm.Cond.selects "NobodyFirst$Reader" ({ cls := "NobodyFirst$Reader", name := "firstFault", desc := "([BILNobodyFirst$Party;)I" } : Jvm.MethodName) ({ cls := "NobodyFirst$Reader", name := "firstFault", desc := "([BILNobodyFirst$Party;)I" } : Jvm.MethodName)) ∈ xT := xT_2 114 rfl rfl
theorem tw2_115 : (Jvm.Cond.code ({ cls := "NobodyFirst$Reader", name := "firstFault", desc := "([BILNobodyFirst$Party;)I" } : Jvm.MethodName) prog_7_method_2_code (7 : Nat) (Option.some Jvm.ClassFile.FieldType.int)) ∈ xT := xT_2 115 rfl rfl
theorem tw2_116 : (Jvm.Cond.methodLink "NobodyFirst$Reader" (19 : Nat) ({ cls := "NobodyFirst$Party", name := "clear", desc := "()V" } : Jvm.MethodName)) ∈ xT := xT_2 116 rfl rfl
theorem tw2_117 : (Jvm.Cond.instanceMethod ({ cls := "NobodyFirst$Party", name := "clear", desc := "()V" } : Jvm.MethodName)) ∈ xT := xT_2 117 rfl rfl
theorem tw2_118 : (Jvm.Cond.selects "NobodyFirst$Party" ({ cls := "NobodyFirst$Party", name := "clear", desc := "()V" } : Jvm.MethodName) ({ cls := "NobodyFirst$Party", name := "clear", desc := "()V" } : Jvm.MethodName)) ∈ xT := xT_2 118 rfl rfl
theorem tw2_119 : (Jvm.Cond.code ({ cls := "NobodyFirst$Party", name := "clear", desc := "()V" } : Jvm.MethodName) prog_6_method_2_code (1 : Nat) (Option.none : Option Jvm.ClassFile.FieldType)) ∈ xT := xT_2 119 rfl rfl
theorem tw2_120 : (Jvm.Cond.methodLink "NobodyFirst$Party" (71 : Nat) ({ cls := "NobodyFirst$Told", name := "clear", desc := "()V" } : Jvm.MethodName)) ∈ xT := xT_2 120 rfl rfl
theorem tw2_121 : (Jvm.Cond.instanceMethod ({ cls := "NobodyFirst$Told", name := "clear", desc := "()V" } : Jvm.MethodName)) ∈ xT := xT_2 121 rfl rfl
theorem tw2_122 : (Jvm.Cond.selects "NobodyFirst$Told" ({ cls := "NobodyFirst$Told", name := "clear", desc := "()V" } : Jvm.MethodName) ({ cls := "NobodyFirst$Told", name := "clear", desc := "()V" } : Jvm.MethodName)) ∈ xT := xT_2 122 rfl rfl
theorem tw2_123 : (Jvm.Cond.code ({ cls := "NobodyFirst$Told", name := "clear", desc := "()V" } : Jvm.MethodName) prog_8_method_2_code (1 : Nat) (Option.none : Option Jvm.ClassFile.FieldType)) ∈ xT := xT_2 123 rfl rfl
theorem tw2_124 : (Jvm.Cond.methodLink "NobodyFirst$Party" (74 : Nat) ({ cls := "java/util/Arrays", name := "fill", desc := "([II)V" } : Jvm.MethodName)) ∈ xT := xT_2 124 rfl rfl
theorem tw2_125 : (Jvm.Cond.static ({ cls := "java/util/Arrays", name := "fill", desc := "([II)V" } : Jvm.MethodName)) ∈ xT := xT_2 125 rfl rfl
theorem tw2_126 : (Jvm.Cond.code ({ cls := "java/util/Arrays", name := "fill", desc := "([II)V" } : Jvm.MethodName) prog_17_method_103_code (4 : Nat) (Option.none : Option Jvm.ClassFile.FieldType)) ∈ xT := xT_2 126 rfl rfl
theorem tw2_128 : (Jvm.Cond.methodLink "NobodyFirst$Reader" (26 : Nat) ({ cls := "java/lang/String", name := "indexOf", desc := "(I)I" } : Jvm.MethodName)) ∈ xT := xT_2 128 rfl rfl
theorem tw2_129 : (Jvm.Cond.instanceMethod ({ cls := "java/lang/String", name := "indexOf", desc := "(I)I" } : Jvm.MethodName)) ∈ xT := xT_2 129 rfl rfl
theorem tw2_130 : (Jvm.Cond.selects "java/lang/String" ({ cls := "java/lang/String", name := "indexOf", desc := "(I)I" } : Jvm.MethodName) ({ cls := "java/lang/String", name := "indexOf", desc := "(I)I" } : Jvm.MethodName)) ∈ xT := xT_2 130 rfl rfl
theorem tw2_131 : (Jvm.Cond.code ({ cls := "java/lang/String", name := "indexOf", desc := "(I)I" } : Jvm.MethodName) prog_13_method_79_code (2 : Nat) (Option.some Jvm.ClassFile.FieldType.int)) ∈ xT := xT_2 131 rfl rfl
theorem tw2_132 : (Jvm.Cond.methodLink "java/lang/String" (633 : Nat) ({ cls := "java/lang/String", name := "indexOf", desc := "(II)I" } : Jvm.MethodName)) ∈ xT := xT_2 132 rfl rfl
theorem tw2_133 : (Jvm.Cond.instanceMethod ({ cls := "java/lang/String", name := "indexOf", desc := "(II)I" } : Jvm.MethodName)) ∈ xT := xT_2 133 rfl rfl
theorem tw2_134 : (Jvm.Cond.selects "java/lang/String" ({ cls := "java/lang/String", name := "indexOf", desc := "(II)I" } : Jvm.MethodName) ({ cls := "java/lang/String", name := "indexOf", desc := "(II)I" } : Jvm.MethodName)) ∈ xT := xT_2 134 rfl rfl
theorem tw2_135 : (Jvm.Cond.code ({ cls := "java/lang/String", name := "indexOf", desc := "(II)I" } : Jvm.MethodName) prog_13_method_80_code (3 : Nat) (Option.some Jvm.ClassFile.FieldType.int)) ∈ xT := xT_2 135 rfl rfl
theorem tw2_136 : (Jvm.Cond.methodLink "java/lang/String" (492 : Nat) ({ cls := "java/lang/String", name := "isLatin1", desc := "()Z" } : Jvm.MethodName)) ∈ xT := xT_2 136 rfl rfl
theorem tw2_137 : (Jvm.Cond.instanceMethod ({ cls := "java/lang/String", name := "isLatin1", desc := "()Z" } : Jvm.MethodName)) ∈ xT := xT_2 137 rfl rfl
theorem tw2_138 : (Jvm.Cond.selects "java/lang/String" ({ cls := "java/lang/String", name := "isLatin1", desc := "()Z" } : Jvm.MethodName) ({ cls := "java/lang/String", name := "isLatin1", desc := "()Z" } : Jvm.MethodName)) ∈ xT := xT_2 138 rfl rfl
theorem tw2_139 : (Jvm.Cond.code ({ cls := "java/lang/String", name := "isLatin1", desc := "()Z" } : Jvm.MethodName) prog_13_method_154_code (1 : Nat) (Option.some Jvm.ClassFile.FieldType.boolean)) ∈ xT := xT_2 139 rfl rfl
theorem tw2_140 : (Jvm.Cond.fieldLink "java/lang/String" (38 : Nat) "java/lang/String" "COMPACT_STRINGS" "Z") ∈ xT := xT_2 140 rfl rfl
theorem tw2_142 : (Jvm.Cond.methodLink "java/lang/String" (505 : Nat) ({ cls := "java/lang/String", name := "length", desc := "()I" } : Jvm.MethodName)) ∈ xT := xT_2 142 rfl rfl
theorem tw2_143 : (Jvm.Cond.instanceMethod ({ cls := "java/lang/String", name := "length", desc := "()I" } : Jvm.MethodName)) ∈ xT := xT_2 143 rfl rfl
theorem tw2_144 : (Jvm.Cond.selects "java/lang/String" ({ cls := "java/lang/String", name := "length", desc := "()I" } : Jvm.MethodName) ({ cls := "java/lang/String", name := "length", desc := "()I" } : Jvm.MethodName)) ∈ xT := xT_2 144 rfl rfl
theorem tw2_145 : (Jvm.Cond.code ({ cls := "java/lang/String", name := "length", desc := "()I" } : Jvm.MethodName) prog_13_method_54_code (1 : Nat) (Option.some Jvm.ClassFile.FieldType.int)) ∈ xT := xT_2 145 rfl rfl
theorem tw2_146 : (Jvm.Cond.methodLink "java/lang/String" (335 : Nat) ({ cls := "java/lang/String", name := "coder", desc := "()B" } : Jvm.MethodName)) ∈ xT := xT_2 146 rfl rfl
theorem tw2_147 : (Jvm.Cond.instanceMethod ({ cls := "java/lang/String", name := "coder", desc := "()B" } : Jvm.MethodName)) ∈ xT := xT_2 147 rfl rfl
theorem tw2_148 : (Jvm.Cond.selects "java/lang/String" ({ cls := "java/lang/String", name := "coder", desc := "()B" } : Jvm.MethodName) ({ cls := "java/lang/String", name := "coder", desc := "()B" } : Jvm.MethodName)) ∈ xT := xT_2 148 rfl rfl
theorem tw2_149 : (Jvm.Cond.code ({ cls := "java/lang/String", name := "coder", desc := "()B" } : Jvm.MethodName) prog_13_method_152_code (1 : Nat) (Option.some Jvm.ClassFile.FieldType.byte)) ∈ xT := xT_2 149 rfl rfl
theorem tw2_150 : (Jvm.Cond.methodLink "java/lang/String" (637 : Nat) ({ cls := "java/lang/StringLatin1", name := "indexOf", desc := "([BIII)I" } : Jvm.MethodName)) ∈ xT := xT_2 150 rfl rfl
theorem tw2_151 : (Jvm.Cond.static ({ cls := "java/lang/StringLatin1", name := "indexOf", desc := "([BIII)I" } : Jvm.MethodName)) ∈ xT := xT_2 151 rfl rfl
theorem tw2_152 : (Jvm.Cond.code ({ cls := "java/lang/StringLatin1", name := "indexOf", desc := "([BIII)I" } : Jvm.MethodName) prog_14_method_22_code (4 : Nat) (Option.some Jvm.ClassFile.FieldType.int)) ∈ xT := xT_2 152 rfl rfl
theorem tw2_153 : (Jvm.Cond.methodLink "java/lang/StringLatin1" (88 : Nat) ({ cls := "java/lang/StringLatin1", name := "canEncode", desc := "(I)Z" } : Jvm.MethodName)) ∈ xT := xT_2 153 rfl rfl
theorem tw2_154 : (Jvm.Cond.static ({ cls := "java/lang/StringLatin1", name := "canEncode", desc := "(I)Z" } : Jvm.MethodName)) ∈ xT := xT_2 154 rfl rfl
theorem tw2_155 : (Jvm.Cond.code ({ cls := "java/lang/StringLatin1", name := "canEncode", desc := "(I)Z" } : Jvm.MethodName) prog_14_method_4_code (1 : Nat) (Option.some Jvm.ClassFile.FieldType.boolean)) ∈ xT := xT_2 155 rfl rfl
theorem tw2_156 : (Jvm.Cond.methodLink "java/lang/StringLatin1" (92 : Nat) ({ cls := "java/lang/Math", name := "max", desc := "(II)I" } : Jvm.MethodName)) ∈ xT := xT_2 156 rfl rfl
theorem tw2_157 : (Jvm.Cond.methodLink "java/lang/StringLatin1" (38 : Nat) ({ cls := "java/lang/Math", name := "min", desc := "(II)I" } : Jvm.MethodName)) ∈ xT := xT_2 157 rfl rfl
theorem tw2_158 : (Jvm.Cond.static ({ cls := "java/lang/Math", name := "min", desc := "(II)I" } : Jvm.MethodName)) ∈ xT := xT_2 158 rfl rfl
theorem tw2_159 : Cond.code Lib.Math.min.name Lib.Math.min.code 2 (some .int) ∈ xT := xT_2 159 rfl rfl
theorem tw2_160 : (Jvm.Cond.methodLink "java/lang/StringLatin1" (95 : Nat) ({ cls := "java/lang/StringLatin1", name := "indexOfChar", desc := "([BIII)I" } : Jvm.MethodName)) ∈ xT := xT_2 160 rfl rfl
theorem tw2_161 : (Jvm.Cond.static ({ cls := "java/lang/StringLatin1", name := "indexOfChar", desc := "([BIII)I" } : Jvm.MethodName)) ∈ xT := xT_2 161 rfl rfl
theorem tw2_162 : (Jvm.Cond.code ({ cls := "java/lang/StringLatin1", name := "indexOfChar", desc := "([BIII)I" } : Jvm.MethodName) prog_14_method_23_code (6 : Nat) (Option.some Jvm.ClassFile.FieldType.int)) ∈ xT := xT_2 162 rfl rfl
theorem tw2_163 : (Jvm.Cond.methodLink "java/lang/String" (640 : Nat) ({ cls := "java/lang/StringUTF16", name := "indexOf", desc := "([BIII)I" } : Jvm.MethodName)) ∈ xT := xT_2 163 rfl rfl
theorem tw2_164 : (Jvm.Cond.static ({ cls := "java/lang/StringUTF16", name := "indexOf", desc := "([BIII)I" } : Jvm.MethodName)) ∈ xT := xT_2 164 rfl rfl
theorem tw2_165 : (Jvm.Cond.code ({ cls := "java/lang/StringUTF16", name := "indexOf", desc := "([BIII)I" } : Jvm.MethodName) prog_15_method_40_code (4 : Nat) (Option.some Jvm.ClassFile.FieldType.int)) ∈ xT := xT_2 165 rfl rfl
theorem tw2_166 : (Jvm.Cond.methodLink "java/lang/StringUTF16" (224 : Nat) ({ cls := "java/lang/Math", name := "max", desc := "(II)I" } : Jvm.MethodName)) ∈ xT := xT_2 166 rfl rfl
theorem tw2_167 : (Jvm.Cond.methodLink "java/lang/StringUTF16" (183 : Nat) ({ cls := "java/lang/Math", name := "min", desc := "(II)I" } : Jvm.MethodName)) ∈ xT := xT_2 167 rfl rfl
theorem tw2_168 : (Jvm.Cond.constant "java/lang/StringUTF16" (227 : Nat) (65536 : Int32)) ∈ xT := xT_2 168 rfl rfl
theorem tw2_169 : (Jvm.Cond.methodLink "java/lang/StringUTF16" (228 : Nat) ({ cls := "java/lang/StringUTF16", name := "indexOfChar", desc := "([BIII)I" } : Jvm.MethodName)) ∈ xT := xT_2 169 rfl rfl
theorem tw2_170 : (Jvm.Cond.static ({ cls := "java/lang/StringUTF16", name := "indexOfChar", desc := "([BIII)I" } : Jvm.MethodName)) ∈ xT := xT_2 170 rfl rfl
theorem tw2_171 : (Jvm.Cond.code ({ cls := "java/lang/StringUTF16", name := "indexOfChar", desc := "([BIII)I" } : Jvm.MethodName) prog_15_method_47_code (4 : Nat) (Option.some Jvm.ClassFile.FieldType.int)) ∈ xT := xT_2 171 rfl rfl
theorem tw2_172 : (Jvm.Cond.methodLink "java/lang/StringUTF16" (96 : Nat) ({ cls := "java/lang/StringUTF16", name := "checkBoundsBeginEnd", desc := "(II[B)V" } : Jvm.MethodName)) ∈ xT := xT_2 172 rfl rfl
theorem tw2_173 : (Jvm.Cond.static ({ cls := "java/lang/StringUTF16", name := "checkBoundsBeginEnd", desc := "(II[B)V" } : Jvm.MethodName)) ∈ xT := xT_2 173 rfl rfl
theorem tw2_174 : (Jvm.Cond.code ({ cls := "java/lang/StringUTF16", name := "checkBoundsBeginEnd", desc := "(II[B)V" } : Jvm.MethodName) prog_15_method_93_code (3 : Nat) (Option.none : Option Jvm.ClassFile.FieldType)) ∈ xT := xT_2 174 rfl rfl
theorem tw2_175 : (Jvm.Cond.methodLink "java/lang/StringUTF16" (48 : Nat) ({ cls := "java/lang/StringUTF16", name := "length", desc := "([B)I" } : Jvm.MethodName)) ∈ xT := xT_2 175 rfl rfl
theorem tw2_176 : (Jvm.Cond.static ({ cls := "java/lang/StringUTF16", name := "length", desc := "([B)I" } : Jvm.MethodName)) ∈ xT := xT_2 176 rfl rfl
theorem tw2_177 : (Jvm.Cond.code ({ cls := "java/lang/StringUTF16", name := "length", desc := "([B)I" } : Jvm.MethodName) prog_15_method_6_code (1 : Nat) (Option.some Jvm.ClassFile.FieldType.int)) ∈ xT := xT_2 177 rfl rfl
theorem tw2_178 : (Jvm.Cond.methodLink "java/lang/StringUTF16" (241 : Nat) ({ cls := "java/lang/String", name := "checkBoundsBeginEnd", desc := "(III)V" } : Jvm.MethodName)) ∈ xT := xT_2 178 rfl rfl
theorem tw2_179 : (Jvm.Cond.static ({ cls := "java/lang/String", name := "checkBoundsBeginEnd", desc := "(III)V" } : Jvm.MethodName)) ∈ xT := xT_2 179 rfl rfl
theorem tw2_180 : (Jvm.Cond.code ({ cls := "java/lang/String", name := "checkBoundsBeginEnd", desc := "(III)V" } : Jvm.MethodName) prog_13_method_158_code (3 : Nat) (Option.none : Option Jvm.ClassFile.FieldType)) ∈ xT := xT_2 180 rfl rfl
theorem tw2_181 : (Jvm.Cond.fieldLink "java/lang/String" (1053 : Nat) "jdk/internal/util/Preconditions" "SIOOBE_FORMATTER" "Ljava/util/function/BiFunction;") ∈ xT := xT_2 181 rfl rfl
theorem tw2_183 : (Jvm.Cond.methodLink "java/lang/String" (1062 : Nat) ({ cls := "jdk/internal/util/Preconditions", name := "checkFromToIndex", desc := "(IIILjava/util/function/BiFunction;)I" } : Jvm.MethodName)) ∈ xT := xT_2 183 rfl rfl
theorem tw2_184 : (Jvm.Cond.static ({ cls := "jdk/internal/util/Preconditions", name := "checkFromToIndex", desc := "(IIILjava/util/function/BiFunction;)I" } : Jvm.MethodName)) ∈ xT := xT_2 184 rfl rfl
theorem tw2_185 : (Jvm.Cond.code ({ cls := "jdk/internal/util/Preconditions", name := "checkFromToIndex", desc := "(IIILjava/util/function/BiFunction;)I" } : Jvm.MethodName) prog_18_method_12_code (4 : Nat) (Option.some Jvm.ClassFile.FieldType.int)) ∈ xT := xT_2 185 rfl rfl
theorem tw2_186 : (Jvm.Cond.methodLink "java/lang/StringUTF16" (244 : Nat) ({ cls := "java/lang/StringUTF16", name := "indexOfCharUnsafe", desc := "([BIII)I" } : Jvm.MethodName)) ∈ xT := xT_2 186 rfl rfl
theorem tw2_187 : (Jvm.Cond.static ({ cls := "java/lang/StringUTF16", name := "indexOfCharUnsafe", desc := "([BIII)I" } : Jvm.MethodName)) ∈ xT := xT_2 187 rfl rfl
theorem tw2_188 : (Jvm.Cond.code ({ cls := "java/lang/StringUTF16", name := "indexOfCharUnsafe", desc := "([BIII)I" } : Jvm.MethodName) prog_15_method_48_code (5 : Nat) (Option.some Jvm.ClassFile.FieldType.int)) ∈ xT := xT_2 188 rfl rfl
theorem tw2_189 : (Jvm.Cond.methodLink "java/lang/StringUTF16" (71 : Nat) ({ cls := "java/lang/StringUTF16", name := "getChar", desc := "([BI)C" } : Jvm.MethodName)) ∈ xT := xT_2 189 rfl rfl
theorem tw2_190 : (Jvm.Cond.static ({ cls := "java/lang/StringUTF16", name := "getChar", desc := "([BI)C" } : Jvm.MethodName)) ∈ xT := xT_2 190 rfl rfl
theorem tw2_191 : (Jvm.Cond.code ({ cls := "java/lang/StringUTF16", name := "getChar", desc := "([BI)C" } : Jvm.MethodName) prog_15_method_5_code (2 : Nat) (Option.some Jvm.ClassFile.FieldType.char)) ∈ xT := xT_2 191 rfl rfl
theorem tw2_192 : (Jvm.Cond.fieldLink "java/lang/StringUTF16" (44 : Nat) "java/lang/StringUTF16" "$assertionsDisabled" "Z") ∈ xT := xT_2 192 rfl rfl
theorem tw2_194 : (Jvm.Cond.fieldLink "java/lang/StringUTF16" (59 : Nat) "java/lang/StringUTF16" "HI_BYTE_SHIFT" "I") ∈ xT := xT_2 194 rfl rfl
theorem tw2_196 : (Jvm.Cond.fieldLink "java/lang/StringUTF16" (63 : Nat) "java/lang/StringUTF16" "LO_BYTE_SHIFT" "I") ∈ xT := xT_2 196 rfl rfl
theorem tw2_198 : (Jvm.Cond.methodLink "java/lang/StringUTF16" (232 : Nat) ({ cls := "java/lang/StringUTF16", name := "indexOfSupplementary", desc := "([BIII)I" } : Jvm.MethodName)) ∈ xT := xT_2 198 rfl rfl
theorem tw2_199 : (Jvm.Cond.static ({ cls := "java/lang/StringUTF16", name := "indexOfSupplementary", desc := "([BIII)I" } : Jvm.MethodName)) ∈ xT := xT_2 199 rfl rfl
theorem tw2_200 : (Jvm.Cond.code ({ cls := "java/lang/StringUTF16", name := "indexOfSupplementary", desc := "([BIII)I" } : Jvm.MethodName) prog_15_method_49_code (7 : Nat) (Option.some Jvm.ClassFile.FieldType.int)) ∈ xT := xT_2 200 rfl rfl
theorem tw2_201 : (Jvm.Cond.methodLink "java/lang/StringUTF16" (164 : Nat) ({ cls := "java/lang/Character", name := "isValidCodePoint", desc := "(I)Z" } : Jvm.MethodName)) ∈ xT := xT_2 201 rfl rfl
theorem tw2_202 : (Jvm.Cond.static ({ cls := "java/lang/Character", name := "isValidCodePoint", desc := "(I)Z" } : Jvm.MethodName)) ∈ xT := xT_2 202 rfl rfl
theorem tw2_203 : (Jvm.Cond.code ({ cls := "java/lang/Character", name := "isValidCodePoint", desc := "(I)Z" } : Jvm.MethodName) prog_11_method_11_code (2 : Nat) (Option.some Jvm.ClassFile.FieldType.boolean)) ∈ xT := xT_2 203 rfl rfl
theorem tw2_204 : (Jvm.Cond.methodLink "java/lang/StringUTF16" (157 : Nat) ({ cls := "java/lang/Character", name := "highSurrogate", desc := "(I)C" } : Jvm.MethodName)) ∈ xT := xT_2 204 rfl rfl
theorem tw2_205 : (Jvm.Cond.static ({ cls := "java/lang/Character", name := "highSurrogate", desc := "(I)C" } : Jvm.MethodName)) ∈ xT := xT_2 205 rfl rfl
theorem tw2_206 : (Jvm.Cond.code ({ cls := "java/lang/Character", name := "highSurrogate", desc := "(I)C" } : Jvm.MethodName) prog_11_method_28_code (1 : Nat) (Option.some Jvm.ClassFile.FieldType.char)) ∈ xT := xT_2 206 rfl rfl
theorem tw2_207 : (Jvm.Cond.constant "java/lang/Character" (110 : Nat) (55232 : Int32)) ∈ xT := xT_2 207 rfl rfl
theorem tw2_208 : (Jvm.Cond.methodLink "java/lang/StringUTF16" (161 : Nat) ({ cls := "java/lang/Character", name := "lowSurrogate", desc := "(I)C" } : Jvm.MethodName)) ∈ xT := xT_2 208 rfl rfl
theorem tw2_209 : (Jvm.Cond.static ({ cls := "java/lang/Character", name := "lowSurrogate", desc := "(I)C" } : Jvm.MethodName)) ∈ xT := xT_2 209 rfl rfl
theorem tw2_210 : (Jvm.Cond.code ({ cls := "java/lang/Character", name := "lowSurrogate", desc := "(I)C" } : Jvm.MethodName) prog_11_method_29_code (1 : Nat) (Option.some Jvm.ClassFile.FieldType.char)) ∈ xT := xT_2 210 rfl rfl
theorem tw2_211 : (Jvm.Cond.constant "java/lang/Character" (76 : Nat) (56320 : Int32)) ∈ xT := xT_2 211 rfl rfl
theorem tw2_212 : (Jvm.Cond.methodLink "NobodyFirst$Reader" (32 : Nat) ({ cls := "NobodyFirst$Reader", name := "readNumbers", desc := "([BII)Z" } : Jvm.MethodName)) ∈ xT := xT_2 212 rfl rfl
theorem tw2_214 : (Jvm.Cond.instanceMethod ({ cls := "NobodyFirst$Reader", name := "readNumbers", desc := "([BII)Z" } : Jvm.MethodName)) ∈ xT := xT_2 214 rfl rfl
theorem tw2_215 : (Jvm.Cond.code ({ cls := "NobodyFirst$Reader", name := "readNumbers", desc := "([BII)Z" } : Jvm.MethodName) prog_7_method_3_code (9 : Nat) (Option.some Jvm.ClassFile.FieldType.boolean)) ∈ xT := xT_2 215 rfl rfl
theorem tw2_216 : (Jvm.Cond.fieldLink "NobodyFirst$Reader" (40 : Nat) "NobodyFirst$Reader" "HOW_MANY" "[I") ∈ xT := xT_2 216 rfl rfl
theorem tw2_218 : (Jvm.Cond.methodLink "NobodyFirst$Reader" (43 : Nat) ({ cls := "NobodyFirst$Reader", name := "readNumber", desc := "([BI)I" } : Jvm.MethodName)) ∈ xT := xT_2 218 rfl rfl
theorem tw2_220 : (Jvm.Cond.instanceMethod ({ cls := "NobodyFirst$Reader", name := "readNumber", desc := "([BI)I" } : Jvm.MethodName)) ∈ xT := xT_2 220 rfl rfl
theorem tw2_221 : (Jvm.Cond.code ({ cls := "NobodyFirst$Reader", name := "readNumber", desc := "([BI)I" } : Jvm.MethodName) prog_7_method_4_code (5 : Nat) (Option.some Jvm.ClassFile.FieldType.int)) ∈ xT := xT_2 221 rfl rfl
theorem tw2_222 : (Jvm.Cond.fieldLink "NobodyFirst$Reader" (47 : Nat) "NobodyFirst$Reader" "LEAST" "[I") ∈ xT := xT_2 222 rfl rfl
theorem tw2_224 : (Jvm.Cond.fieldLink "NobodyFirst$Reader" (50 : Nat) "NobodyFirst$Reader" "MOST" "[I") ∈ xT := xT_2 224 rfl rfl
theorem tw2_226 : (Jvm.Cond.methodLink "NobodyFirst$Reader" (36 : Nat) ({ cls := "NobodyFirst$Reader", name := "enter", desc := "(ILNobodyFirst$Party;)Z" } : Jvm.MethodName)) ∈ xT := xT_2 226 rfl rfl
theorem tw2_228 : (Jvm.Cond.instanceMethod ({ cls := "NobodyFirst$Reader", name := "enter", desc := "(ILNobodyFirst$Party;)Z" } : Jvm.MethodName)) ∈ xT := xT_2 228 rfl rfl
theorem tw2_229 : (Jvm.Cond.code ({ cls := "NobodyFirst$Reader", name := "enter", desc := "(ILNobodyFirst$Party;)Z" } : Jvm.MethodName) prog_7_method_5_code (3 : Nat) (Option.some Jvm.ClassFile.FieldType.boolean)) ∈ xT := xT_2 229 rfl rfl
theorem tw2_230 : (Jvm.Cond.methodLink "NobodyFirst$Reader" (53 : Nat) ({ cls := "NobodyFirst$Party", name := "addGuest", desc := "(IIII)Z" } : Jvm.MethodName)) ∈ xT := xT_2 230 rfl rfl
theorem tw2_231 : (Jvm.Cond.methodLink "NobodyFirst$Reader" (61 : Nat) ({ cls := "NobodyFirst$Told", name := "addSign", desc := "(II)Z" } : Jvm.MethodName)) ∈ xT := xT_2 231 rfl rfl
theorem tw2_232 : (Jvm.Cond.instanceMethod ({ cls := "NobodyFirst$Told", name := "addSign", desc := "(II)Z" } : Jvm.MethodName)) ∈ xT := xT_2 232 rfl rfl
theorem tw2_233 : (Jvm.Cond.selects "NobodyFirst$Told" ({ cls := "NobodyFirst$Told", name := "addSign", desc := "(II)Z" } : Jvm.MethodName) ({ cls := "NobodyFirst$Told", name := "addSign", desc := "(II)Z" } : Jvm.MethodName)) ∈ xT := xT_2 233 rfl rfl
theorem tw2_234 : (Jvm.Cond.code ({ cls := "NobodyFirst$Told", name := "addSign", desc := "(II)Z" } : Jvm.MethodName) prog_8_method_3_code (3 : Nat) (Option.some Jvm.ClassFile.FieldType.boolean)) ∈ xT := xT_2 234 rfl rfl
theorem tw2_235 : (Jvm.Cond.methodLink "NobodyFirst$Reader" (67 : Nat) ({ cls := "NobodyFirst$Told", name := "addWord", desc := "(I)Z" } : Jvm.MethodName)) ∈ xT := xT_2 235 rfl rfl
theorem tw2_236 : (Jvm.Cond.instanceMethod ({ cls := "NobodyFirst$Told", name := "addWord", desc := "(I)Z" } : Jvm.MethodName)) ∈ xT := xT_2 236 rfl rfl
theorem tw2_237 : (Jvm.Cond.selects "NobodyFirst$Told" ({ cls := "NobodyFirst$Told", name := "addWord", desc := "(I)Z" } : Jvm.MethodName) ({ cls := "NobodyFirst$Told", name := "addWord", desc := "(I)Z" } : Jvm.MethodName)) ∈ xT := xT_2 237 rfl rfl
theorem tw2_238 : (Jvm.Cond.code ({ cls := "NobodyFirst$Told", name := "addWord", desc := "(I)Z" } : Jvm.MethodName) prog_8_method_4_code (2 : Nat) (Option.some Jvm.ClassFile.FieldType.boolean)) ∈ xT := xT_2 238 rfl rfl
theorem tw2_239 : (Jvm.Cond.methodLink "NobodyFirst$Reader" (71 : Nat) ({ cls := "NobodyFirst$Party", name := "setHall", desc := "(II)Z" } : Jvm.MethodName)) ∈ xT := xT_2 239 rfl rfl
theorem tw3_0 : (Jvm.Cond.instanceMethod ({ cls := "NobodyFirst$Party", name := "setHall", desc := "(II)Z" } : Jvm.MethodName)) ∈ xT := xT_3 0 rfl rfl
theorem tw3_1 : (Jvm.Cond.selects "NobodyFirst$Party" ({ cls := "NobodyFirst$Party", name := "setHall", desc := "(II)Z" } : Jvm.MethodName) ({ cls := "NobodyFirst$Party", name := "setHall", desc := "(II)Z" } : Jvm.MethodName)) ∈ xT := xT_3 1 rfl rfl
theorem tw3_2 : (Jvm.Cond.code ({ cls := "NobodyFirst$Party", name := "setHall", desc := "(II)Z" } : Jvm.MethodName) prog_6_method_7_code (3 : Nat) (Option.some Jvm.ClassFile.FieldType.boolean)) ∈ xT := xT_3 2 rfl rfl
theorem tw3_3 : (Jvm.Cond.methodLink "NobodyFirst$Reader" (74 : Nat) ({ cls := "NobodyFirst$Party", name := "setEnd", desc := "(I)Z" } : Jvm.MethodName)) ∈ xT := xT_3 3 rfl rfl
theorem tw3_4 : (Jvm.Cond.instanceMethod ({ cls := "NobodyFirst$Party", name := "setEnd", desc := "(I)Z" } : Jvm.MethodName)) ∈ xT := xT_3 4 rfl rfl
theorem tw3_5 : (Jvm.Cond.selects "NobodyFirst$Party" ({ cls := "NobodyFirst$Party", name := "setEnd", desc := "(I)Z" } : Jvm.MethodName) ({ cls := "NobodyFirst$Party", name := "setEnd", desc := "(I)Z" } : Jvm.MethodName)) ∈ xT := xT_3 5 rfl rfl
theorem tw3_6 : (Jvm.Cond.code ({ cls := "NobodyFirst$Party", name := "setEnd", desc := "(I)Z" } : Jvm.MethodName) prog_6_method_8_code (2 : Nat) (Option.some Jvm.ClassFile.FieldType.boolean)) ∈ xT := xT_3 6 rfl rfl
theorem tw3_7 : (Jvm.Cond.methodLink "NobodyFirst$Reader" (77 : Nat) ({ cls := "NobodyFirst$Party", name := "addOffer", desc := "(II)Z" } : Jvm.MethodName)) ∈ xT := xT_3 7 rfl rfl
theorem tw3_8 : (Jvm.Cond.instanceMethod ({ cls := "NobodyFirst$Party", name := "addOffer", desc := "(II)Z" } : Jvm.MethodName)) ∈ xT := xT_3 8 rfl rfl
theorem tw3_9 : (Jvm.Cond.selects "NobodyFirst$Party" ({ cls := "NobodyFirst$Party", name := "addOffer", desc := "(II)Z" } : Jvm.MethodName) ({ cls := "NobodyFirst$Party", name := "addOffer", desc := "(II)Z" } : Jvm.MethodName)) ∈ xT := xT_3 9 rfl rfl
theorem tw3_10 : (Jvm.Cond.code ({ cls := "NobodyFirst$Party", name := "addOffer", desc := "(II)Z" } : Jvm.MethodName) prog_6_method_4_code (3 : Nat) (Option.some Jvm.ClassFile.FieldType.boolean)) ∈ xT := xT_3 10 rfl rfl
theorem tw3_11 : (Jvm.Cond.methodLink "NobodyFirst$Reader" (80 : Nat) ({ cls := "NobodyFirst$Party", name := "setCustom", desc := "(III)Z" } : Jvm.MethodName)) ∈ xT := xT_3 11 rfl rfl
theorem tw3_12 : (Jvm.Cond.instanceMethod ({ cls := "NobodyFirst$Party", name := "setCustom", desc := "(III)Z" } : Jvm.MethodName)) ∈ xT := xT_3 12 rfl rfl
theorem tw3_13 : (Jvm.Cond.selects "NobodyFirst$Party" ({ cls := "NobodyFirst$Party", name := "setCustom", desc := "(III)Z" } : Jvm.MethodName) ({ cls := "NobodyFirst$Party", name := "setCustom", desc := "(III)Z" } : Jvm.MethodName)) ∈ xT := xT_3 13 rfl rfl
theorem tw3_14 : (Jvm.Cond.code ({ cls := "NobodyFirst$Party", name := "setCustom", desc := "(III)Z" } : Jvm.MethodName) prog_6_method_6_code (4 : Nat) (Option.some Jvm.ClassFile.FieldType.boolean)) ∈ xT := xT_3 14 rfl rfl
theorem tw3_16 : (Jvm.Cond.methodLink "NobodyFirst$Reader" (84 : Nat) ({ cls := "NobodyFirst$Party", name := "addLook", desc := "(III)Z" } : Jvm.MethodName)) ∈ xT := xT_3 16 rfl rfl
theorem tw3_17 : (Jvm.Cond.instanceMethod ({ cls := "NobodyFirst$Party", name := "addLook", desc := "(III)Z" } : Jvm.MethodName)) ∈ xT := xT_3 17 rfl rfl
theorem tw3_18 : (Jvm.Cond.selects "NobodyFirst$Party" ({ cls := "NobodyFirst$Party", name := "addLook", desc := "(III)Z" } : Jvm.MethodName) ({ cls := "NobodyFirst$Party", name := "addLook", desc := "(III)Z" } : Jvm.MethodName)) ∈ xT := xT_3 18 rfl rfl
theorem tw3_19 : (Jvm.Cond.code ({ cls := "NobodyFirst$Party", name := "addLook", desc := "(III)Z" } : Jvm.MethodName) prog_6_method_5_code (4 : Nat) (Option.some Jvm.ClassFile.FieldType.boolean)) ∈ xT := xT_3 19 rfl rfl
theorem tw3_20 : (Jvm.Cond.methodLink "NobodyFirstLaw" (29 : Nat) ({ cls := "NobodyFirst", name := "lay", desc := "()I" } : Jvm.MethodName)) ∈ xT := xT_3 20 rfl rfl
theorem tw3_21 : (Jvm.Cond.instanceMethod ({ cls := "NobodyFirst", name := "lay", desc := "()I" } : Jvm.MethodName)) ∈ xT := xT_3 21 rfl rfl
theorem tw3_22 : (Jvm.Cond.selects "NobodyFirst" ({ cls := "NobodyFirst", name := "lay", desc := "()I" } : Jvm.MethodName) ({ cls := "NobodyFirst", name := "lay", desc := "()I" } : Jvm.MethodName)) ∈ xT := xT_3 22 rfl rfl
theorem tw3_23 : (Jvm.Cond.code ({ cls := "NobodyFirst", name := "lay", desc := "()I" } : Jvm.MethodName) prog_1_method_5_code (2 : Nat) (Option.some Jvm.ClassFile.FieldType.int)) ∈ xT := xT_3 23 rfl rfl
theorem tw3_24 : (Jvm.Cond.methodLink "NobodyFirst" (81 : Nat) ({ cls := "NobodyFirst$History", name := "forget", desc := "()V" } : Jvm.MethodName)) ∈ xT := xT_3 24 rfl rfl
theorem tw3_25 : (Jvm.Cond.instanceMethod ({ cls := "NobodyFirst$History", name := "forget", desc := "()V" } : Jvm.MethodName)) ∈ xT := xT_3 25 rfl rfl
theorem tw3_26 : (Jvm.Cond.selects "NobodyFirst$History" ({ cls := "NobodyFirst$History", name := "forget", desc := "()V" } : Jvm.MethodName) ({ cls := "NobodyFirst$History", name := "forget", desc := "()V" } : Jvm.MethodName)) ∈ xT := xT_3 26 rfl rfl
theorem tw3_27 : (Jvm.Cond.code ({ cls := "NobodyFirst$History", name := "forget", desc := "()V" } : Jvm.MethodName) prog_5_method_2_code (1 : Nat) (Option.none : Option Jvm.ClassFile.FieldType)) ∈ xT := xT_3 27 rfl rfl
theorem tw3_28 : (Jvm.Cond.methodLink "NobodyFirstLaw" (33 : Nat) ({ cls := "NobodyFirst", name := "guest", desc := "(II)I" } : Jvm.MethodName)) ∈ xT := xT_3 28 rfl rfl
theorem tw3_29 : (Jvm.Cond.instanceMethod ({ cls := "NobodyFirst", name := "guest", desc := "(II)I" } : Jvm.MethodName)) ∈ xT := xT_3 29 rfl rfl
theorem tw3_30 : (Jvm.Cond.selects "NobodyFirst" ({ cls := "NobodyFirst", name := "guest", desc := "(II)I" } : Jvm.MethodName) ({ cls := "NobodyFirst", name := "guest", desc := "(II)I" } : Jvm.MethodName)) ∈ xT := xT_3 30 rfl rfl
theorem tw3_31 : (Jvm.Cond.code ({ cls := "NobodyFirst", name := "guest", desc := "(II)I" } : Jvm.MethodName) prog_1_method_6_code (3 : Nat) (Option.some Jvm.ClassFile.FieldType.int)) ∈ xT := xT_3 31 rfl rfl
theorem tw3_32 : (Jvm.Cond.methodLink "NobodyFirst" (88 : Nat) ({ cls := "NobodyFirst", name := "isGuest", desc := "(I)Z" } : Jvm.MethodName)) ∈ xT := xT_3 32 rfl rfl
theorem tw3_34 : (Jvm.Cond.instanceMethod ({ cls := "NobodyFirst", name := "isGuest", desc := "(I)Z" } : Jvm.MethodName)) ∈ xT := xT_3 34 rfl rfl
theorem tw3_35 : (Jvm.Cond.code ({ cls := "NobodyFirst", name := "isGuest", desc := "(I)Z" } : Jvm.MethodName) prog_1_method_31_code (2 : Nat) (Option.some Jvm.ClassFile.FieldType.boolean)) ∈ xT := xT_3 35 rfl rfl
theorem tw3_36 : (Jvm.Cond.methodLink "NobodyFirstLaw" (38 : Nat) ({ cls := "NobodyFirst", name := "shame", desc := "(II)I" } : Jvm.MethodName)) ∈ xT := xT_3 36 rfl rfl
theorem tw3_37 : (Jvm.Cond.instanceMethod ({ cls := "NobodyFirst", name := "shame", desc := "(II)I" } : Jvm.MethodName)) ∈ xT := xT_3 37 rfl rfl
theorem tw3_38 : (Jvm.Cond.selects "NobodyFirst" ({ cls := "NobodyFirst", name := "shame", desc := "(II)I" } : Jvm.MethodName) ({ cls := "NobodyFirst", name := "shame", desc := "(II)I" } : Jvm.MethodName)) ∈ xT := xT_3 38 rfl rfl
theorem tw3_39 : (Jvm.Cond.code ({ cls := "NobodyFirst", name := "shame", desc := "(II)I" } : Jvm.MethodName) prog_1_method_7_code (3 : Nat) (Option.some Jvm.ClassFile.FieldType.int)) ∈ xT := xT_3 39 rfl rfl
theorem tw3_40 : (Jvm.Cond.methodLink "NobodyFirst" (105 : Nat) ({ cls := "NobodyFirst", name := "passAsItIs", desc := "()V" } : Jvm.MethodName)) ∈ xT := xT_3 40 rfl rfl
theorem tw3_42 : (Jvm.Cond.instanceMethod ({ cls := "NobodyFirst", name := "passAsItIs", desc := "()V" } : Jvm.MethodName)) ∈ xT := xT_3 42 rfl rfl
theorem tw3_43 : (Jvm.Cond.code ({ cls := "NobodyFirst", name := "passAsItIs", desc := "()V" } : Jvm.MethodName) prog_1_method_32_code (1 : Nat) (Option.none : Option Jvm.ClassFile.FieldType)) ∈ xT := xT_3 43 rfl rfl
theorem tw3_44 : (Jvm.Cond.methodLink "NobodyFirst" (201 : Nat) ({ cls := "NobodyFirst$Evening", name := "prepare", desc := "(LNobodyFirst$Party;)V" } : Jvm.MethodName)) ∈ xT := xT_3 44 rfl rfl
theorem tw3_45 : (Jvm.Cond.instanceMethod ({ cls := "NobodyFirst$Evening", name := "prepare", desc := "(LNobodyFirst$Party;)V" } : Jvm.MethodName)) ∈ xT := xT_3 45 rfl rfl
theorem tw3_46 : (Jvm.Cond.selects "NobodyFirst$Evening" ({ cls := "NobodyFirst$Evening", name := "prepare", desc := "(LNobodyFirst$Party;)V" } : Jvm.MethodName) ({ cls := "NobodyFirst$Evening", name := "prepare", desc := "(LNobodyFirst$Party;)V" } : Jvm.MethodName)) ∈ xT := xT_3 46 rfl rfl
theorem tw3_47 : (Jvm.Cond.code ({ cls := "NobodyFirst$Evening", name := "prepare", desc := "(LNobodyFirst$Party;)V" } : Jvm.MethodName) prog_2_method_2_code (3 : Nat) (Option.none : Option Jvm.ClassFile.FieldType)) ∈ xT := xT_3 47 rfl rfl
theorem tw3_48 : (Jvm.Cond.methodLink "NobodyFirst$Evening" (78 : Nat) ({ cls := "NobodyFirst$Evening", name := "addSign", desc := "(II)V" } : Jvm.MethodName)) ∈ xT := xT_3 48 rfl rfl
theorem tw3_49 : (Jvm.Cond.instanceMethod ({ cls := "NobodyFirst$Evening", name := "addSign", desc := "(II)V" } : Jvm.MethodName)) ∈ xT := xT_3 49 rfl rfl
theorem tw3_50 : (Jvm.Cond.selects "NobodyFirst$Evening" ({ cls := "NobodyFirst$Evening", name := "addSign", desc := "(II)V" } : Jvm.MethodName) ({ cls := "NobodyFirst$Evening", name := "addSign", desc := "(II)V" } : Jvm.MethodName)) ∈ xT := xT_3 50 rfl rfl
theorem tw3_51 : (Jvm.Cond.code ({ cls := "NobodyFirst$Evening", name := "addSign", desc := "(II)V" } : Jvm.MethodName) prog_2_method_3_code (3 : Nat) (Option.none : Option Jvm.ClassFile.FieldType)) ∈ xT := xT_3 51 rfl rfl
theorem tw3_52 : (Jvm.Cond.methodLink "NobodyFirst" (207 : Nat) ({ cls := "NobodyFirst$Evening", name := "pass", desc := "()V" } : Jvm.MethodName)) ∈ xT := xT_3 52 rfl rfl
theorem tw3_53 : (Jvm.Cond.instanceMethod ({ cls := "NobodyFirst$Evening", name := "pass", desc := "()V" } : Jvm.MethodName)) ∈ xT := xT_3 53 rfl rfl
theorem tw3_54 : (Jvm.Cond.selects "NobodyFirst$Evening" ({ cls := "NobodyFirst$Evening", name := "pass", desc := "()V" } : Jvm.MethodName) ({ cls := "NobodyFirst$Evening", name := "pass", desc := "()V" } : Jvm.MethodName)) ∈ xT := xT_3 54 rfl rfl
theorem tw3_55 : (Jvm.Cond.code ({ cls := "NobodyFirst$Evening", name := "pass", desc := "()V" } : Jvm.MethodName) prog_2_method_8_code (3 : Nat) (Option.none : Option Jvm.ClassFile.FieldType)) ∈ xT := xT_3 55 rfl rfl
theorem tw3_56 : (Jvm.Cond.constant "NobodyFirst$Evening" (90 : Nat) (100000 : Int32)) ∈ xT := xT_3 56 rfl rfl
theorem tw3_57 : (Jvm.Cond.methodLink "NobodyFirst$Evening" (91 : Nat) ({ cls := "java/util/Arrays", name := "fill", desc := "([II)V" } : Jvm.MethodName)) ∈ xT := xT_3 57 rfl rfl
theorem tw3_58 : (Jvm.Cond.methodLink "NobodyFirst$Evening" (97 : Nat) ({ cls := "NobodyFirst$Evening", name := "goOnFrom", desc := "(I)I" } : Jvm.MethodName)) ∈ xT := xT_3 58 rfl rfl
theorem tw3_60 : (Jvm.Cond.instanceMethod ({ cls := "NobodyFirst$Evening", name := "goOnFrom", desc := "(I)I" } : Jvm.MethodName)) ∈ xT := xT_3 60 rfl rfl
theorem tw3_61 : (Jvm.Cond.code ({ cls := "NobodyFirst$Evening", name := "goOnFrom", desc := "(I)I" } : Jvm.MethodName) prog_2_method_9_code (5 : Nat) (Option.some Jvm.ClassFile.FieldType.int)) ∈ xT := xT_3 61 rfl rfl
theorem tw3_62 : (Jvm.Cond.methodLink "NobodyFirst$Evening" (108 : Nat) ({ cls := "NobodyFirst$Evening", name := "nextChange", desc := "(I)I" } : Jvm.MethodName)) ∈ xT := xT_3 62 rfl rfl
theorem tw3_64 : (Jvm.Cond.instanceMethod ({ cls := "NobodyFirst$Evening", name := "nextChange", desc := "(I)I" } : Jvm.MethodName)) ∈ xT := xT_3 64 rfl rfl
theorem tw3_65 : (Jvm.Cond.code ({ cls := "NobodyFirst$Evening", name := "nextChange", desc := "(I)I" } : Jvm.MethodName) prog_2_method_10_code (4 : Nat) (Option.some Jvm.ClassFile.FieldType.int)) ∈ xT := xT_3 65 rfl rfl
theorem tw3_66 : (Jvm.Cond.methodLink "NobodyFirst$Evening" (111 : Nat) ({ cls := "java/lang/Math", name := "min", desc := "(II)I" } : Jvm.MethodName)) ∈ xT := xT_3 66 rfl rfl
theorem tw3_67 : (Jvm.Cond.methodLink "NobodyFirst$Evening" (101 : Nat) ({ cls := "NobodyFirst$Evening", name := "sits", desc := "(I)Z" } : Jvm.MethodName)) ∈ xT := xT_3 67 rfl rfl
theorem tw3_69 : (Jvm.Cond.instanceMethod ({ cls := "NobodyFirst$Evening", name := "sits", desc := "(I)Z" } : Jvm.MethodName)) ∈ xT := xT_3 69 rfl rfl
theorem tw3_70 : (Jvm.Cond.code ({ cls := "NobodyFirst$Evening", name := "sits", desc := "(I)Z" } : Jvm.MethodName) prog_2_method_11_code (2 : Nat) (Option.some Jvm.ClassFile.FieldType.boolean)) ∈ xT := xT_3 70 rfl rfl
theorem tw3_71 : (Jvm.Cond.methodLink "NobodyFirst$Evening" (117 : Nat) ({ cls := "NobodyFirst$Evening", name := "pairFrom", desc := "(II)I" } : Jvm.MethodName)) ∈ xT := xT_3 71 rfl rfl
theorem tw3_73 : (Jvm.Cond.instanceMethod ({ cls := "NobodyFirst$Evening", name := "pairFrom", desc := "(II)I" } : Jvm.MethodName)) ∈ xT := xT_3 73 rfl rfl
theorem tw3_74 : (Jvm.Cond.code ({ cls := "NobodyFirst$Evening", name := "pairFrom", desc := "(II)I" } : Jvm.MethodName) prog_2_method_12_code (7 : Nat) (Option.some Jvm.ClassFile.FieldType.int)) ∈ xT := xT_3 74 rfl rfl
theorem tw3_75 : (Jvm.Cond.methodLink "NobodyFirst$Evening" (133 : Nat) ({ cls := "NobodyFirst$Evening", name := "pressesFrom", desc := "(II)I" } : Jvm.MethodName)) ∈ xT := xT_3 75 rfl rfl
theorem tw3_76 : (Jvm.Cond.instanceMethod ({ cls := "NobodyFirst$Evening", name := "pressesFrom", desc := "(II)I" } : Jvm.MethodName)) ∈ xT := xT_3 76 rfl rfl
theorem tw3_77 : (Jvm.Cond.selects "NobodyFirst$Evening" ({ cls := "NobodyFirst$Evening", name := "pressesFrom", desc := "(II)I" } : Jvm.MethodName) ({ cls := "NobodyFirst$Evening", name := "pressesFrom", desc := "(II)I" } : Jvm.MethodName)) ∈ xT := xT_3 77 rfl rfl
theorem tw3_78 : (Jvm.Cond.code ({ cls := "NobodyFirst$Evening", name := "pressesFrom", desc := "(II)I" } : Jvm.MethodName) prog_2_method_14_code (3 : Nat) (Option.some Jvm.ClassFile.FieldType.int)) ∈ xT := xT_3 78 rfl rfl
theorem tw3_79 : (Jvm.Cond.methodLink "NobodyFirst$Evening" (136 : Nat) ({ cls := "NobodyFirst$Evening", name := "shameAt", desc := "(II)I" } : Jvm.MethodName)) ∈ xT := xT_3 79 rfl rfl
theorem tw3_80 : (Jvm.Cond.instanceMethod ({ cls := "NobodyFirst$Evening", name := "shameAt", desc := "(II)I" } : Jvm.MethodName)) ∈ xT := xT_3 80 rfl rfl
theorem tw3_81 : (Jvm.Cond.selects "NobodyFirst$Evening" ({ cls := "NobodyFirst$Evening", name := "shameAt", desc := "(II)I" } : Jvm.MethodName) ({ cls := "NobodyFirst$Evening", name := "shameAt", desc := "(II)I" } : Jvm.MethodName)) ∈ xT := xT_3 81 rfl rfl
theorem tw3_82 : (Jvm.Cond.code ({ cls := "NobodyFirst$Evening", name := "shameAt", desc := "(II)I" } : Jvm.MethodName) prog_2_method_15_code (5 : Nat) (Option.some Jvm.ClassFile.FieldType.int)) ∈ xT := xT_3 82 rfl rfl
theorem tw3_83 : (Jvm.Cond.methodLink "NobodyFirst$Evening" (120 : Nat) ({ cls := "java/lang/Math", name := "max", desc := "(II)I" } : Jvm.MethodName)) ∈ xT := xT_3 83 rfl rfl
theorem tw3_84 : (Jvm.Cond.methodLink "NobodyFirst$Evening" (123 : Nat) ({ cls := "NobodyFirst$Evening", name := "lookAt", desc := "(I)V" } : Jvm.MethodName)) ∈ xT := xT_3 84 rfl rfl
theorem tw3_85 : (Jvm.Cond.instanceMethod ({ cls := "NobodyFirst$Evening", name := "lookAt", desc := "(I)V" } : Jvm.MethodName)) ∈ xT := xT_3 85 rfl rfl
theorem tw3_86 : (Jvm.Cond.selects "NobodyFirst$Evening" ({ cls := "NobodyFirst$Evening", name := "lookAt", desc := "(I)V" } : Jvm.MethodName) ({ cls := "NobodyFirst$Evening", name := "lookAt", desc := "(I)V" } : Jvm.MethodName)) ∈ xT := xT_3 86 rfl rfl
theorem tw3_87 : (Jvm.Cond.code ({ cls := "NobodyFirst$Evening", name := "lookAt", desc := "(I)V" } : Jvm.MethodName) prog_2_method_13_code (4 : Nat) (Option.none : Option Jvm.ClassFile.FieldType)) ∈ xT := xT_3 87 rfl rfl
theorem tw3_88 : (Jvm.Cond.methodLink "NobodyFirst$Evening" (105 : Nat) ({ cls := "NobodyFirst$Evening", name := "goesAfter", desc := "(I)I" } : Jvm.MethodName)) ∈ xT := xT_3 88 rfl rfl
theorem tw3_90 : (Jvm.Cond.instanceMethod ({ cls := "NobodyFirst$Evening", name := "goesAfter", desc := "(I)I" } : Jvm.MethodName)) ∈ xT := xT_3 90 rfl rfl
theorem tw3_91 : (Jvm.Cond.code ({ cls := "NobodyFirst$Evening", name := "goesAfter", desc := "(I)I" } : Jvm.MethodName) prog_2_method_16_code (5 : Nat) (Option.some Jvm.ClassFile.FieldType.int)) ∈ xT := xT_3 91 rfl rfl
theorem tw3_92 : (Jvm.Cond.methodLink "NobodyFirst" (108 : Nat) ({ cls := "NobodyFirst$Evening", name := "lookAt", desc := "(I)V" } : Jvm.MethodName)) ∈ xT := xT_3 92 rfl rfl
theorem tw3_93 : (Jvm.Cond.methodLink "NobodyFirst" (112 : Nat) ({ cls := "NobodyFirst$Evening", name := "shameAt", desc := "(II)I" } : Jvm.MethodName)) ∈ xT := xT_3 93 rfl rfl
theorem tw3_94 : (Jvm.Cond.methodLink "NobodyFirstLaw" (42 : Nat) ({ cls := "NobodyFirst", name := "presses", desc := "(II)I" } : Jvm.MethodName)) ∈ xT := xT_3 94 rfl rfl
theorem tw3_95 : (Jvm.Cond.instanceMethod ({ cls := "NobodyFirst", name := "presses", desc := "(II)I" } : Jvm.MethodName)) ∈ xT := xT_3 95 rfl rfl
theorem tw3_96 : (Jvm.Cond.selects "NobodyFirst" ({ cls := "NobodyFirst", name := "presses", desc := "(II)I" } : Jvm.MethodName) ({ cls := "NobodyFirst", name := "presses", desc := "(II)I" } : Jvm.MethodName)) ∈ xT := xT_3 96 rfl rfl
theorem tw3_97 : (Jvm.Cond.code ({ cls := "NobodyFirst", name := "presses", desc := "(II)I" } : Jvm.MethodName) prog_1_method_8_code (3 : Nat) (Option.some Jvm.ClassFile.FieldType.int)) ∈ xT := xT_3 97 rfl rfl
theorem tw3_98 : (Jvm.Cond.methodLink "NobodyFirst" (116 : Nat) ({ cls := "NobodyFirst$Evening", name := "pressesFrom", desc := "(II)I" } : Jvm.MethodName)) ∈ xT := xT_3 98 rfl rfl
theorem tw3_99 : (Jvm.Cond.methodLink "NobodyFirstLaw" (46 : Nat) ({ cls := "NobodyFirst", name := "is", desc := "(II)I" } : Jvm.MethodName)) ∈ xT := xT_3 99 rfl rfl
theorem tw3_100 : (Jvm.Cond.instanceMethod ({ cls := "NobodyFirst", name := "is", desc := "(II)I" } : Jvm.MethodName)) ∈ xT := xT_3 100 rfl rfl
theorem tw3_101 : (Jvm.Cond.selects "NobodyFirst" ({ cls := "NobodyFirst", name := "is", desc := "(II)I" } : Jvm.MethodName) ({ cls := "NobodyFirst", name := "is", desc := "(II)I" } : Jvm.MethodName)) ∈ xT := xT_3 101 rfl rfl
theorem tw3_102 : (Jvm.Cond.code ({ cls := "NobodyFirst", name := "is", desc := "(II)I" } : Jvm.MethodName) prog_1_method_9_code (3 : Nat) (Option.some Jvm.ClassFile.FieldType.int)) ∈ xT := xT_3 102 rfl rfl
theorem tw3_103 : (Jvm.Cond.methodLink "NobodyFirst" (119 : Nat) ({ cls := "NobodyFirst$Evening", name := "standsIn", desc := "(I)I" } : Jvm.MethodName)) ∈ xT := xT_3 103 rfl rfl
theorem tw3_104 : (Jvm.Cond.instanceMethod ({ cls := "NobodyFirst$Evening", name := "standsIn", desc := "(I)I" } : Jvm.MethodName)) ∈ xT := xT_3 104 rfl rfl
theorem tw3_105 : (Jvm.Cond.selects "NobodyFirst$Evening" ({ cls := "NobodyFirst$Evening", name := "standsIn", desc := "(I)I" } : Jvm.MethodName) ({ cls := "NobodyFirst$Evening", name := "standsIn", desc := "(I)I" } : Jvm.MethodName)) ∈ xT := xT_3 105 rfl rfl
theorem tw3_106 : (Jvm.Cond.code ({ cls := "NobodyFirst$Evening", name := "standsIn", desc := "(I)I" } : Jvm.MethodName) prog_2_method_17_code (2 : Nat) (Option.some Jvm.ClassFile.FieldType.int)) ∈ xT := xT_3 106 rfl rfl
theorem tw3_107 : (Jvm.Cond.methodLink "NobodyFirst" (123 : Nat) ({ cls := "NobodyFirst$Evening", name := "goesIn", desc := "(I)I" } : Jvm.MethodName)) ∈ xT := xT_3 107 rfl rfl
theorem tw3_108 : (Jvm.Cond.instanceMethod ({ cls := "NobodyFirst$Evening", name := "goesIn", desc := "(I)I" } : Jvm.MethodName)) ∈ xT := xT_3 108 rfl rfl
theorem tw3_109 : (Jvm.Cond.selects "NobodyFirst$Evening" ({ cls := "NobodyFirst$Evening", name := "goesIn", desc := "(I)I" } : Jvm.MethodName) ({ cls := "NobodyFirst$Evening", name := "goesIn", desc := "(I)I" } : Jvm.MethodName)) ∈ xT := xT_3 109 rfl rfl
theorem tw3_110 : (Jvm.Cond.code ({ cls := "NobodyFirst$Evening", name := "goesIn", desc := "(I)I" } : Jvm.MethodName) prog_2_method_18_code (2 : Nat) (Option.some Jvm.ClassFile.FieldType.int)) ∈ xT := xT_3 110 rfl rfl
theorem tw3_111 : (Jvm.Cond.methodLink "NobodyFirstLaw" (50 : Nat) ({ cls := "NobodyFirst", name := "when", desc := "(II)I" } : Jvm.MethodName)) ∈ xT := xT_3 111 rfl rfl
theorem tw3_112 : (Jvm.Cond.instanceMethod ({ cls := "NobodyFirst", name := "when", desc := "(II)I" } : Jvm.MethodName)) ∈ xT := xT_3 112 rfl rfl
theorem tw3_113 : (Jvm.Cond.selects "NobodyFirst" ({ cls := "NobodyFirst", name := "when", desc := "(II)I" } : Jvm.MethodName) ({ cls := "NobodyFirst", name := "when", desc := "(II)I" } : Jvm.MethodName)) ∈ xT := xT_3 113 rfl rfl
theorem tw3_114 : (Jvm.Cond.code ({ cls := "NobodyFirst", name := "when", desc := "(II)I" } : Jvm.MethodName) prog_1_method_10_code (3 : Nat) (Option.some Jvm.ClassFile.FieldType.int)) ∈ xT := xT_3 114 rfl rfl
theorem tw3_115 : (Jvm.Cond.methodLink "NobodyFirstLaw" (54 : Nat) ({ cls := "NobodyFirst", name := "wasted", desc := "(I)I" } : Jvm.MethodName)) ∈ xT := xT_3 115 rfl rfl
theorem tw3_116 : (Jvm.Cond.instanceMethod ({ cls := "NobodyFirst", name := "wasted", desc := "(I)I" } : Jvm.MethodName)) ∈ xT := xT_3 116 rfl rfl
theorem tw3_117 : (Jvm.Cond.selects "NobodyFirst" ({ cls := "NobodyFirst", name := "wasted", desc := "(I)I" } : Jvm.MethodName) ({ cls := "NobodyFirst", name := "wasted", desc := "(I)I" } : Jvm.MethodName)) ∈ xT := xT_3 117 rfl rfl
theorem tw3_118 : (Jvm.Cond.code ({ cls := "NobodyFirst", name := "wasted", desc := "(I)I" } : Jvm.MethodName) prog_1_method_11_code (2 : Nat) (Option.some Jvm.ClassFile.FieldType.int)) ∈ xT := xT_3 118 rfl rfl
theorem tw3_119 : (Jvm.Cond.methodLink "NobodyFirst" (126 : Nat) ({ cls := "NobodyFirst$Evening", name := "wastedByAll", desc := "()I" } : Jvm.MethodName)) ∈ xT := xT_3 119 rfl rfl
theorem tw3_120 : (Jvm.Cond.instanceMethod ({ cls := "NobodyFirst$Evening", name := "wastedByAll", desc := "()I" } : Jvm.MethodName)) ∈ xT := xT_3 120 rfl rfl
theorem tw3_121 : (Jvm.Cond.selects "NobodyFirst$Evening" ({ cls := "NobodyFirst$Evening", name := "wastedByAll", desc := "()I" } : Jvm.MethodName) ({ cls := "NobodyFirst$Evening", name := "wastedByAll", desc := "()I" } : Jvm.MethodName)) ∈ xT := xT_3 121 rfl rfl
theorem tw3_122 : (Jvm.Cond.code ({ cls := "NobodyFirst$Evening", name := "wastedByAll", desc := "()I" } : Jvm.MethodName) prog_2_method_22_code (3 : Nat) (Option.some Jvm.ClassFile.FieldType.int)) ∈ xT := xT_3 122 rfl rfl
theorem tw3_123 : (Jvm.Cond.methodLink "NobodyFirst$Evening" (161 : Nat) ({ cls := "NobodyFirst$Evening", name := "wastedByHost", desc := "()I" } : Jvm.MethodName)) ∈ xT := xT_3 123 rfl rfl
theorem tw3_124 : (Jvm.Cond.instanceMethod ({ cls := "NobodyFirst$Evening", name := "wastedByHost", desc := "()I" } : Jvm.MethodName)) ∈ xT := xT_3 124 rfl rfl
theorem tw3_125 : (Jvm.Cond.selects "NobodyFirst$Evening" ({ cls := "NobodyFirst$Evening", name := "wastedByHost", desc := "()I" } : Jvm.MethodName) ({ cls := "NobodyFirst$Evening", name := "wastedByHost", desc := "()I" } : Jvm.MethodName)) ∈ xT := xT_3 125 rfl rfl
theorem tw3_126 : (Jvm.Cond.code ({ cls := "NobodyFirst$Evening", name := "wastedByHost", desc := "()I" } : Jvm.MethodName) prog_2_method_21_code (1 : Nat) (Option.some Jvm.ClassFile.FieldType.int)) ∈ xT := xT_3 126 rfl rfl
theorem tw3_127 : (Jvm.Cond.methodLink "NobodyFirst$Evening" (154 : Nat) ({ cls := "NobodyFirst$Evening", name := "lastGoes", desc := "()I" } : Jvm.MethodName)) ∈ xT := xT_3 127 rfl rfl
theorem tw3_128 : (Jvm.Cond.instanceMethod ({ cls := "NobodyFirst$Evening", name := "lastGoes", desc := "()I" } : Jvm.MethodName)) ∈ xT := xT_3 128 rfl rfl
theorem tw3_129 : (Jvm.Cond.selects "NobodyFirst$Evening" ({ cls := "NobodyFirst$Evening", name := "lastGoes", desc := "()I" } : Jvm.MethodName) ({ cls := "NobodyFirst$Evening", name := "lastGoes", desc := "()I" } : Jvm.MethodName)) ∈ xT := xT_3 129 rfl rfl
theorem tw3_130 : (Jvm.Cond.code ({ cls := "NobodyFirst$Evening", name := "lastGoes", desc := "()I" } : Jvm.MethodName) prog_2_method_19_code (3 : Nat) (Option.some Jvm.ClassFile.FieldType.int)) ∈ xT := xT_3 130 rfl rfl
theorem tw3_131 : (Jvm.Cond.methodLink "NobodyFirst$Evening" (148 : Nat) ({ cls := "NobodyFirst$Evening", name := "goesIn", desc := "(I)I" } : Jvm.MethodName)) ∈ xT := xT_3 131 rfl rfl
theorem tw3_132 : (Jvm.Cond.methodLink "NobodyFirst$Evening" (151 : Nat) ({ cls := "java/lang/Math", name := "abs", desc := "(I)I" } : Jvm.MethodName)) ∈ xT := xT_3 132 rfl rfl
theorem tw3_133 : (Jvm.Cond.static ({ cls := "java/lang/Math", name := "abs", desc := "(I)I" } : Jvm.MethodName)) ∈ xT := xT_3 133 rfl rfl
theorem tw3_134 : Cond.code Lib.Math.abs.name Lib.Math.abs.code 1 (some .int) ∈ xT := xT_3 134 rfl rfl
theorem tw3_135 : (Jvm.Cond.methodLink "NobodyFirst$Evening" (164 : Nat) ({ cls := "NobodyFirst$Evening", name := "wastedBy", desc := "(I)I" } : Jvm.MethodName)) ∈ xT := xT_3 135 rfl rfl
theorem tw3_136 : (Jvm.Cond.instanceMethod ({ cls := "NobodyFirst$Evening", name := "wastedBy", desc := "(I)I" } : Jvm.MethodName)) ∈ xT := xT_3 136 rfl rfl
theorem tw3_137 : (Jvm.Cond.selects "NobodyFirst$Evening" ({ cls := "NobodyFirst$Evening", name := "wastedBy", desc := "(I)I" } : Jvm.MethodName) ({ cls := "NobodyFirst$Evening", name := "wastedBy", desc := "(I)I" } : Jvm.MethodName)) ∈ xT := xT_3 137 rfl rfl
theorem tw3_138 : (Jvm.Cond.code ({ cls := "NobodyFirst$Evening", name := "wastedBy", desc := "(I)I" } : Jvm.MethodName) prog_2_method_20_code (2 : Nat) (Option.some Jvm.ClassFile.FieldType.int)) ∈ xT := xT_3 138 rfl rfl
theorem tw3_139 : (Jvm.Cond.methodLink "NobodyFirst" (130 : Nat) ({ cls := "NobodyFirst$Evening", name := "wastedByHost", desc := "()I" } : Jvm.MethodName)) ∈ xT := xT_3 139 rfl rfl
theorem tw3_140 : (Jvm.Cond.methodLink "NobodyFirst" (133 : Nat) ({ cls := "NobodyFirst$Evening", name := "wastedBy", desc := "(I)I" } : Jvm.MethodName)) ∈ xT := xT_3 140 rfl rfl
theorem tw3_141 : (Jvm.Cond.methodLink "NobodyFirstLaw" (59 : Nat) ({ cls := "NobodyFirst", name := "frees", desc := "(II)I" } : Jvm.MethodName)) ∈ xT := xT_3 141 rfl rfl
theorem tw3_142 : (Jvm.Cond.instanceMethod ({ cls := "NobodyFirst", name := "frees", desc := "(II)I" } : Jvm.MethodName)) ∈ xT := xT_3 142 rfl rfl
theorem tw3_143 : (Jvm.Cond.selects "NobodyFirst" ({ cls := "NobodyFirst", name := "frees", desc := "(II)I" } : Jvm.MethodName) ({ cls := "NobodyFirst", name := "frees", desc := "(II)I" } : Jvm.MethodName)) ∈ xT := xT_3 143 rfl rfl
theorem tw3_144 : (Jvm.Cond.code ({ cls := "NobodyFirst", name := "frees", desc := "(II)I" } : Jvm.MethodName) prog_1_method_12_code (3 : Nat) (Option.some Jvm.ClassFile.FieldType.int)) ∈ xT := xT_3 144 rfl rfl
theorem tw3_145 : (Jvm.Cond.constant "NobodyFirst" (136 : Nat) (100000 : Int32)) ∈ xT := xT_3 145 rfl rfl
theorem tw3_146 : (Jvm.Cond.methodLink "NobodyFirst" (137 : Nat) ({ cls := "NobodyFirst", name := "allWithBus", desc := "(II)I" } : Jvm.MethodName)) ∈ xT := xT_3 146 rfl rfl
theorem tw3_148 : (Jvm.Cond.instanceMethod ({ cls := "NobodyFirst", name := "allWithBus", desc := "(II)I" } : Jvm.MethodName)) ∈ xT := xT_3 148 rfl rfl
theorem tw3_149 : (Jvm.Cond.code ({ cls := "NobodyFirst", name := "allWithBus", desc := "(II)I" } : Jvm.MethodName) prog_1_method_33_code (3 : Nat) (Option.some Jvm.ClassFile.FieldType.int)) ∈ xT := xT_3 149 rfl rfl
theorem tw3_150 : (Jvm.Cond.methodLink "NobodyFirst" (256 : Nat) ({ cls := "NobodyFirst$Evening", name := "makeBus", desc := "(II)V" } : Jvm.MethodName)) ∈ xT := xT_3 150 rfl rfl
theorem tw3_151 : (Jvm.Cond.instanceMethod ({ cls := "NobodyFirst$Evening", name := "makeBus", desc := "(II)V" } : Jvm.MethodName)) ∈ xT := xT_3 151 rfl rfl
theorem tw3_152 : (Jvm.Cond.selects "NobodyFirst$Evening" ({ cls := "NobodyFirst$Evening", name := "makeBus", desc := "(II)V" } : Jvm.MethodName) ({ cls := "NobodyFirst$Evening", name := "makeBus", desc := "(II)V" } : Jvm.MethodName)) ∈ xT := xT_3 152 rfl rfl
theorem tw3_153 : (Jvm.Cond.code ({ cls := "NobodyFirst$Evening", name := "makeBus", desc := "(II)V" } : Jvm.MethodName) prog_2_method_5_code (3 : Nat) (Option.none : Option Jvm.ClassFile.FieldType)) ∈ xT := xT_3 153 rfl rfl
theorem tw3_154 : (Jvm.Cond.methodLink "NobodyFirstLaw" (63 : Nat) ({ cls := "NobodyFirst", name := "madeUp", desc := "(II)I" } : Jvm.MethodName)) ∈ xT := xT_3 154 rfl rfl
theorem tw3_155 : (Jvm.Cond.instanceMethod ({ cls := "NobodyFirst", name := "madeUp", desc := "(II)I" } : Jvm.MethodName)) ∈ xT := xT_3 155 rfl rfl
theorem tw3_156 : (Jvm.Cond.selects "NobodyFirst" ({ cls := "NobodyFirst", name := "madeUp", desc := "(II)I" } : Jvm.MethodName) ({ cls := "NobodyFirst", name := "madeUp", desc := "(II)I" } : Jvm.MethodName)) ∈ xT := xT_3 156 rfl rfl
theorem tw3_157 : (Jvm.Cond.code ({ cls := "NobodyFirst", name := "madeUp", desc := "(II)I" } : Jvm.MethodName) prog_1_method_13_code (8 : Nat) (Option.some Jvm.ClassFile.FieldType.int)) ∈ xT := xT_3 157 rfl rfl
theorem tw3_158 : (Jvm.Cond.methodLink "NobodyFirstLaw" (67 : Nat) ({ cls := "NobodyFirst", name := "bell", desc := "(I)I" } : Jvm.MethodName)) ∈ xT := xT_3 158 rfl rfl
theorem tw3_159 : (Jvm.Cond.instanceMethod ({ cls := "NobodyFirst", name := "bell", desc := "(I)I" } : Jvm.MethodName)) ∈ xT := xT_3 159 rfl rfl
theorem tw3_160 : (Jvm.Cond.selects "NobodyFirst" ({ cls := "NobodyFirst", name := "bell", desc := "(I)I" } : Jvm.MethodName) ({ cls := "NobodyFirst", name := "bell", desc := "(I)I" } : Jvm.MethodName)) ∈ xT := xT_3 160 rfl rfl
theorem tw3_161 : (Jvm.Cond.code ({ cls := "NobodyFirst", name := "bell", desc := "(I)I" } : Jvm.MethodName) prog_1_method_14_code (2 : Nat) (Option.some Jvm.ClassFile.FieldType.int)) ∈ xT := xT_3 161 rfl rfl
theorem tw3_162 : (Jvm.Cond.methodLink "NobodyFirst" (140 : Nat) ({ cls := "NobodyFirst", name := "allWithBell", desc := "(I)I" } : Jvm.MethodName)) ∈ xT := xT_3 162 rfl rfl
theorem tw3_164 : (Jvm.Cond.instanceMethod ({ cls := "NobodyFirst", name := "allWithBell", desc := "(I)I" } : Jvm.MethodName)) ∈ xT := xT_3 164 rfl rfl
theorem tw3_165 : (Jvm.Cond.code ({ cls := "NobodyFirst", name := "allWithBell", desc := "(I)I" } : Jvm.MethodName) prog_1_method_34_code (2 : Nat) (Option.some Jvm.ClassFile.FieldType.int)) ∈ xT := xT_3 165 rfl rfl
theorem tw3_166 : (Jvm.Cond.methodLink "NobodyFirst" (260 : Nat) ({ cls := "NobodyFirst$Evening", name := "ringAt", desc := "(I)V" } : Jvm.MethodName)) ∈ xT := xT_3 166 rfl rfl
theorem tw3_167 : (Jvm.Cond.instanceMethod ({ cls := "NobodyFirst$Evening", name := "ringAt", desc := "(I)V" } : Jvm.MethodName)) ∈ xT := xT_3 167 rfl rfl
theorem tw3_168 : (Jvm.Cond.selects "NobodyFirst$Evening" ({ cls := "NobodyFirst$Evening", name := "ringAt", desc := "(I)V" } : Jvm.MethodName) ({ cls := "NobodyFirst$Evening", name := "ringAt", desc := "(I)V" } : Jvm.MethodName)) ∈ xT := xT_3 168 rfl rfl
theorem tw3_169 : (Jvm.Cond.code ({ cls := "NobodyFirst$Evening", name := "ringAt", desc := "(I)V" } : Jvm.MethodName) prog_2_method_6_code (2 : Nat) (Option.none : Option Jvm.ClassFile.FieldType)) ∈ xT := xT_3 169 rfl rfl
theorem tw3_170 : (Jvm.Cond.methodLink "NobodyFirstLaw" (71 : Nat) ({ cls := "NobodyFirst", name := "best", desc := "(I)I" } : Jvm.MethodName)) ∈ xT := xT_3 170 rfl rfl
theorem tw3_171 : (Jvm.Cond.instanceMethod ({ cls := "NobodyFirst", name := "best", desc := "(I)I" } : Jvm.MethodName)) ∈ xT := xT_3 171 rfl rfl
theorem tw3_172 : (Jvm.Cond.selects "NobodyFirst" ({ cls := "NobodyFirst", name := "best", desc := "(I)I" } : Jvm.MethodName) ({ cls := "NobodyFirst", name := "best", desc := "(I)I" } : Jvm.MethodName)) ∈ xT := xT_3 172 rfl rfl
theorem tw3_173 : (Jvm.Cond.code ({ cls := "NobodyFirst", name := "best", desc := "(I)I" } : Jvm.MethodName) prog_1_method_15_code (6 : Nat) (Option.some Jvm.ClassFile.FieldType.int)) ∈ xT := xT_3 173 rfl rfl
theorem tw3_174 : (Jvm.Cond.methodLink "NobodyFirstLaw" (75 : Nat) ({ cls := "NobodyFirst", name := "given", desc := "(I)I" } : Jvm.MethodName)) ∈ xT := xT_3 174 rfl rfl
theorem tw3_175 : (Jvm.Cond.instanceMethod ({ cls := "NobodyFirst", name := "given", desc := "(I)I" } : Jvm.MethodName)) ∈ xT := xT_3 175 rfl rfl
theorem tw3_176 : (Jvm.Cond.selects "NobodyFirst" ({ cls := "NobodyFirst", name := "given", desc := "(I)I" } : Jvm.MethodName) ({ cls := "NobodyFirst", name := "given", desc := "(I)I" } : Jvm.MethodName)) ∈ xT := xT_3 176 rfl rfl
theorem tw3_177 : (Jvm.Cond.code ({ cls := "NobodyFirst", name := "given", desc := "(I)I" } : Jvm.MethodName) prog_1_method_16_code (2 : Nat) (Option.some Jvm.ClassFile.FieldType.int)) ∈ xT := xT_3 177 rfl rfl
theorem tw3_178 : (Jvm.Cond.methodLink "NobodyFirst" (146 : Nat) ({ cls := "NobodyFirst$Giving", name := "reckon", desc := "(LNobodyFirst$Party;LNobodyFirst$Evening;)V" } : Jvm.MethodName)) ∈ xT := xT_3 178 rfl rfl
theorem tw3_179 : (Jvm.Cond.instanceMethod ({ cls := "NobodyFirst$Giving", name := "reckon", desc := "(LNobodyFirst$Party;LNobodyFirst$Evening;)V" } : Jvm.MethodName)) ∈ xT := xT_3 179 rfl rfl
theorem tw3_180 : (Jvm.Cond.selects "NobodyFirst$Giving" ({ cls := "NobodyFirst$Giving", name := "reckon", desc := "(LNobodyFirst$Party;LNobodyFirst$Evening;)V" } : Jvm.MethodName) ({ cls := "NobodyFirst$Giving", name := "reckon", desc := "(LNobodyFirst$Party;LNobodyFirst$Evening;)V" } : Jvm.MethodName)) ∈ xT := xT_3 180 rfl rfl
theorem tw3_181 : (Jvm.Cond.code ({ cls := "NobodyFirst$Giving", name := "reckon", desc := "(LNobodyFirst$Party;LNobodyFirst$Evening;)V" } : Jvm.MethodName) prog_4_method_3_code (6 : Nat) (Option.none : Option Jvm.ClassFile.FieldType)) ∈ xT := xT_3 181 rfl rfl
theorem tw3_182 : (Jvm.Cond.constant "NobodyFirst$Giving" (31 : Nat) (100000 : Int32)) ∈ xT := xT_3 182 rfl rfl
theorem tw3_183 : (Jvm.Cond.methodLink "NobodyFirst$Giving" (32 : Nat) ({ cls := "NobodyFirst$Evening", name := "prepare", desc := "(LNobodyFirst$Party;)V" } : Jvm.MethodName)) ∈ xT := xT_3 183 rfl rfl
theorem tw3_184 : (Jvm.Cond.methodLink "NobodyFirst$Giving" (38 : Nat) ({ cls := "NobodyFirst$Giving", name := "choose", desc := "(II)V" } : Jvm.MethodName)) ∈ xT := xT_3 184 rfl rfl
theorem tw3_186 : (Jvm.Cond.instanceMethod ({ cls := "NobodyFirst$Giving", name := "choose", desc := "(II)V" } : Jvm.MethodName)) ∈ xT := xT_3 186 rfl rfl
theorem tw3_187 : (Jvm.Cond.code ({ cls := "NobodyFirst$Giving", name := "choose", desc := "(II)V" } : Jvm.MethodName) prog_4_method_4_code (5 : Nat) (Option.none : Option Jvm.ClassFile.FieldType)) ∈ xT := xT_3 187 rfl rfl
theorem tw3_188 : (Jvm.Cond.methodLink "NobodyFirst$Giving" (42 : Nat) ({ cls := "NobodyFirst$Giving", name := "giveChosen", desc := "(LNobodyFirst$Party;LNobodyFirst$Evening;)I" } : Jvm.MethodName)) ∈ xT := xT_3 188 rfl rfl
theorem tw3_190 : (Jvm.Cond.instanceMethod ({ cls := "NobodyFirst$Giving", name := "giveChosen", desc := "(LNobodyFirst$Party;LNobodyFirst$Evening;)I" } : Jvm.MethodName)) ∈ xT := xT_3 190 rfl rfl
theorem tw3_191 : (Jvm.Cond.code ({ cls := "NobodyFirst$Giving", name := "giveChosen", desc := "(LNobodyFirst$Party;LNobodyFirst$Evening;)I" } : Jvm.MethodName) prog_4_method_5_code (5 : Nat) (Option.some Jvm.ClassFile.FieldType.int)) ∈ xT := xT_3 191 rfl rfl
theorem tw3_192 : (Jvm.Cond.methodLink "NobodyFirst$Giving" (59 : Nat) ({ cls := "NobodyFirst$Evening", name := "dropAddedSigns", desc := "()V" } : Jvm.MethodName)) ∈ xT := xT_3 192 rfl rfl
theorem tw3_193 : (Jvm.Cond.instanceMethod ({ cls := "NobodyFirst$Evening", name := "dropAddedSigns", desc := "()V" } : Jvm.MethodName)) ∈ xT := xT_3 193 rfl rfl
theorem tw3_194 : (Jvm.Cond.selects "NobodyFirst$Evening" ({ cls := "NobodyFirst$Evening", name := "dropAddedSigns", desc := "()V" } : Jvm.MethodName) ({ cls := "NobodyFirst$Evening", name := "dropAddedSigns", desc := "()V" } : Jvm.MethodName)) ∈ xT := xT_3 194 rfl rfl
theorem tw3_195 : (Jvm.Cond.code ({ cls := "NobodyFirst$Evening", name := "dropAddedSigns", desc := "()V" } : Jvm.MethodName) prog_2_method_4_code (1 : Nat) (Option.none : Option Jvm.ClassFile.FieldType)) ∈ xT := xT_3 195 rfl rfl
theorem tw3_196 : (Jvm.Cond.methodLink "NobodyFirst$Giving" (65 : Nat) ({ cls := "NobodyFirst$Evening", name := "addSign", desc := "(II)V" } : Jvm.MethodName)) ∈ xT := xT_3 196 rfl rfl
theorem tw3_197 : (Jvm.Cond.methodLink "NobodyFirst$Giving" (46 : Nat) ({ cls := "NobodyFirst$Evening", name := "pass", desc := "()V" } : Jvm.MethodName)) ∈ xT := xT_3 197 rfl rfl
theorem tw3_198 : (Jvm.Cond.methodLink "NobodyFirst$Giving" (49 : Nat) ({ cls := "NobodyFirst$Evening", name := "wastedByAll", desc := "()I" } : Jvm.MethodName)) ∈ xT := xT_3 198 rfl rfl
theorem tw3_199 : (Jvm.Cond.methodLink "NobodyFirst$Giving" (53 : Nat) ({ cls := "java/lang/System", name := "arraycopy", desc := "(Ljava/lang/Object;ILjava/lang/Object;II)V" } : Jvm.MethodName)) ∈ xT := xT_3 199 rfl rfl
theorem tw3_200 : (Jvm.Cond.static ({ cls := "java/lang/System", name := "arraycopy", desc := "(Ljava/lang/Object;ILjava/lang/Object;II)V" } : Jvm.MethodName)) ∈ xT := xT_3 200 rfl rfl
theorem tw3_201 : (Jvm.Cond.native ({ cls := "java/lang/System", name := "arraycopy", desc := "(Ljava/lang/Object;ILjava/lang/Object;II)V" } : Jvm.MethodName)) ∈ xT := xT_3 201 rfl rfl
theorem tw3_202 : (Jvm.Cond.methodLink "NobodyFirst" (153 : Nat) ({ cls := "NobodyFirst$Giving", name := "minuteOf", desc := "(I)I" } : Jvm.MethodName)) ∈ xT := xT_3 202 rfl rfl
theorem tw3_203 : (Jvm.Cond.instanceMethod ({ cls := "NobodyFirst$Giving", name := "minuteOf", desc := "(I)I" } : Jvm.MethodName)) ∈ xT := xT_3 203 rfl rfl
theorem tw3_204 : (Jvm.Cond.selects "NobodyFirst$Giving" ({ cls := "NobodyFirst$Giving", name := "minuteOf", desc := "(I)I" } : Jvm.MethodName) ({ cls := "NobodyFirst$Giving", name := "minuteOf", desc := "(I)I" } : Jvm.MethodName)) ∈ xT := xT_3 204 rfl rfl
theorem tw3_205 : (Jvm.Cond.code ({ cls := "NobodyFirst$Giving", name := "minuteOf", desc := "(I)I" } : Jvm.MethodName) prog_4_method_2_code (2 : Nat) (Option.some Jvm.ClassFile.FieldType.int)) ∈ xT := xT_3 205 rfl rfl
theorem tw3_206 : (Jvm.Cond.methodLink "NobodyFirstLaw" (79 : Nat) ({ cls := "NobodyFirst", name := "cost", desc := "(II)I" } : Jvm.MethodName)) ∈ xT := xT_3 206 rfl rfl
theorem tw3_207 : (Jvm.Cond.instanceMethod ({ cls := "NobodyFirst", name := "cost", desc := "(II)I" } : Jvm.MethodName)) ∈ xT := xT_3 207 rfl rfl
theorem tw3_208 : (Jvm.Cond.selects "NobodyFirst" ({ cls := "NobodyFirst", name := "cost", desc := "(II)I" } : Jvm.MethodName) ({ cls := "NobodyFirst", name := "cost", desc := "(II)I" } : Jvm.MethodName)) ∈ xT := xT_3 208 rfl rfl
theorem tw3_209 : (Jvm.Cond.code ({ cls := "NobodyFirst", name := "cost", desc := "(II)I" } : Jvm.MethodName) prog_1_method_17_code (3 : Nat) (Option.some Jvm.ClassFile.FieldType.int)) ∈ xT := xT_3 209 rfl rfl
theorem tw3_210 : (Jvm.Cond.constant "NobodyFirst" (159 : Nat) (99999 : Int32)) ∈ xT := xT_3 210 rfl rfl
theorem tw3_211 : (Jvm.Cond.methodLink "NobodyFirst" (160 : Nat) ({ cls := "NobodyFirst$Game", name := "chooseByFigures", desc := "(I)Z" } : Jvm.MethodName)) ∈ xT := xT_3 211 rfl rfl
theorem tw3_212 : (Jvm.Cond.instanceMethod ({ cls := "NobodyFirst$Game", name := "chooseByFigures", desc := "(I)Z" } : Jvm.MethodName)) ∈ xT := xT_3 212 rfl rfl
theorem tw3_213 : (Jvm.Cond.selects "NobodyFirst$Game" ({ cls := "NobodyFirst$Game", name := "chooseByFigures", desc := "(I)Z" } : Jvm.MethodName) ({ cls := "NobodyFirst$Game", name := "chooseByFigures", desc := "(I)Z" } : Jvm.MethodName)) ∈ xT := xT_3 213 rfl rfl
theorem tw3_214 : (Jvm.Cond.code ({ cls := "NobodyFirst$Game", name := "chooseByFigures", desc := "(I)Z" } : Jvm.MethodName) prog_3_method_3_code (4 : Nat) (Option.some Jvm.ClassFile.FieldType.boolean)) ∈ xT := xT_3 214 rfl rfl
theorem tw3_215 : (Jvm.Cond.methodLink "NobodyFirst" (163 : Nat) ({ cls := "NobodyFirst$Game", name := "costOf", desc := "(I)I" } : Jvm.MethodName)) ∈ xT := xT_3 215 rfl rfl
theorem tw3_216 : (Jvm.Cond.instanceMethod ({ cls := "NobodyFirst$Game", name := "costOf", desc := "(I)I" } : Jvm.MethodName)) ∈ xT := xT_3 216 rfl rfl
theorem tw3_217 : (Jvm.Cond.selects "NobodyFirst$Game" ({ cls := "NobodyFirst$Game", name := "costOf", desc := "(I)I" } : Jvm.MethodName) ({ cls := "NobodyFirst$Game", name := "costOf", desc := "(I)I" } : Jvm.MethodName)) ∈ xT := xT_3 217 rfl rfl
theorem tw3_218 : (Jvm.Cond.code ({ cls := "NobodyFirst$Game", name := "costOf", desc := "(I)I" } : Jvm.MethodName) prog_3_method_4_code (3 : Nat) (Option.some Jvm.ClassFile.FieldType.int)) ∈ xT := xT_3 218 rfl rfl
theorem tw3_219 : (Jvm.Cond.methodLink "NobodyFirst$Game" (57 : Nat) ({ cls := "java/lang/Math", name := "abs", desc := "(I)I" } : Jvm.MethodName)) ∈ xT := xT_3 219 rfl rfl
theorem tw3_220 : (Jvm.Cond.methodLink "NobodyFirst$Game" (61 : Nat) ({ cls := "NobodyFirst$Game", name := "isFirstAlone", desc := "(I)Z" } : Jvm.MethodName)) ∈ xT := xT_3 220 rfl rfl
theorem tw3_222 : (Jvm.Cond.instanceMethod ({ cls := "NobodyFirst$Game", name := "isFirstAlone", desc := "(I)Z" } : Jvm.MethodName)) ∈ xT := xT_3 222 rfl rfl
theorem tw3_223 : (Jvm.Cond.code ({ cls := "NobodyFirst$Game", name := "isFirstAlone", desc := "(I)Z" } : Jvm.MethodName) prog_3_method_5_code (3 : Nat) (Option.some Jvm.ClassFile.FieldType.boolean)) ∈ xT := xT_3 223 rfl rfl
theorem tw3_224 : (Jvm.Cond.methodLink "NobodyFirstLaw" (83 : Nat) ({ cls := "NobodyFirst", name := "rests", desc := "(I)I" } : Jvm.MethodName)) ∈ xT := xT_3 224 rfl rfl
theorem tw3_225 : (Jvm.Cond.instanceMethod ({ cls := "NobodyFirst", name := "rests", desc := "(I)I" } : Jvm.MethodName)) ∈ xT := xT_3 225 rfl rfl
theorem tw3_226 : (Jvm.Cond.selects "NobodyFirst" ({ cls := "NobodyFirst", name := "rests", desc := "(I)I" } : Jvm.MethodName) ({ cls := "NobodyFirst", name := "rests", desc := "(I)I" } : Jvm.MethodName)) ∈ xT := xT_3 226 rfl rfl
theorem tw3_227 : (Jvm.Cond.code ({ cls := "NobodyFirst", name := "rests", desc := "(I)I" } : Jvm.MethodName) prog_1_method_18_code (2 : Nat) (Option.some Jvm.ClassFile.FieldType.int)) ∈ xT := xT_3 227 rfl rfl
theorem tw3_228 : (Jvm.Cond.methodLink "NobodyFirst" (166 : Nat) ({ cls := "NobodyFirst$Game", name := "reckon", desc := "()V" } : Jvm.MethodName)) ∈ xT := xT_3 228 rfl rfl
theorem tw3_229 : (Jvm.Cond.instanceMethod ({ cls := "NobodyFirst$Game", name := "reckon", desc := "()V" } : Jvm.MethodName)) ∈ xT := xT_3 229 rfl rfl
theorem tw3_230 : (Jvm.Cond.selects "NobodyFirst$Game" ({ cls := "NobodyFirst$Game", name := "reckon", desc := "()V" } : Jvm.MethodName) ({ cls := "NobodyFirst$Game", name := "reckon", desc := "()V" } : Jvm.MethodName)) ∈ xT := xT_3 230 rfl rfl
theorem tw3_231 : (Jvm.Cond.code ({ cls := "NobodyFirst$Game", name := "reckon", desc := "()V" } : Jvm.MethodName) prog_3_method_6_code (3 : Nat) (Option.none : Option Jvm.ClassFile.FieldType)) ∈ xT := xT_3 231 rfl rfl
theorem tw3_232 : (Jvm.Cond.constant "NobodyFirst$Game" (65 : Nat) (100000 : Int32)) ∈ xT := xT_3 232 rfl rfl
theorem tw3_233 : (Jvm.Cond.methodLink "NobodyFirst$Game" (66 : Nat) ({ cls := "NobodyFirst$Game", name := "choose", desc := "(I)V" } : Jvm.MethodName)) ∈ xT := xT_3 233 rfl rfl
theorem tw3_235 : (Jvm.Cond.instanceMethod ({ cls := "NobodyFirst$Game", name := "choose", desc := "(I)V" } : Jvm.MethodName)) ∈ xT := xT_3 235 rfl rfl
theorem tw3_236 : (Jvm.Cond.code ({ cls := "NobodyFirst$Game", name := "choose", desc := "(I)V" } : Jvm.MethodName) prog_3_method_7_code (4 : Nat) (Option.none : Option Jvm.ClassFile.FieldType)) ∈ xT := xT_3 236 rfl rfl
theorem tw3_237 : (Jvm.Cond.methodLink "NobodyFirst$Game" (70 : Nat) ({ cls := "NobodyFirst$Game", name := "weighChoice", desc := "()V" } : Jvm.MethodName)) ∈ xT := xT_3 237 rfl rfl
theorem tw3_239 : (Jvm.Cond.instanceMethod ({ cls := "NobodyFirst$Game", name := "weighChoice", desc := "()V" } : Jvm.MethodName)) ∈ xT := xT_3 239 rfl rfl
theorem tw4_0 : (Jvm.Cond.code ({ cls := "NobodyFirst$Game", name := "weighChoice", desc := "()V" } : Jvm.MethodName) prog_3_method_8_code (3 : Nat) (Option.none : Option Jvm.ClassFile.FieldType)) ∈ xT := xT_4 0 rfl rfl
theorem tw4_1 : (Jvm.Cond.methodLink "NobodyFirst$Game" (73 : Nat) ({ cls := "NobodyFirst$Game", name := "costOf", desc := "(I)I" } : Jvm.MethodName)) ∈ xT := xT_4 1 rfl rfl
theorem tw4_2 : (Jvm.Cond.methodLink "NobodyFirst$Game" (76 : Nat) ({ cls := "java/lang/Math", name := "min", desc := "(II)I" } : Jvm.MethodName)) ∈ xT := xT_4 2 rfl rfl
theorem tw4_3 : (Jvm.Cond.methodLink "NobodyFirst$Game" (79 : Nat) ({ cls := "NobodyFirst$Game", name := "isRest", desc := "()Z" } : Jvm.MethodName)) ∈ xT := xT_4 3 rfl rfl
theorem tw4_5 : (Jvm.Cond.instanceMethod ({ cls := "NobodyFirst$Game", name := "isRest", desc := "()Z" } : Jvm.MethodName)) ∈ xT := xT_4 5 rfl rfl
theorem tw4_6 : (Jvm.Cond.code ({ cls := "NobodyFirst$Game", name := "isRest", desc := "()Z" } : Jvm.MethodName) prog_3_method_9_code (2 : Nat) (Option.some Jvm.ClassFile.FieldType.boolean)) ∈ xT := xT_4 6 rfl rfl
theorem tw4_7 : (Jvm.Cond.methodLink "NobodyFirst$Game" (89 : Nat) ({ cls := "NobodyFirst$Game", name := "wouldRatherMove", desc := "(I)Z" } : Jvm.MethodName)) ∈ xT := xT_4 7 rfl rfl
theorem tw4_9 : (Jvm.Cond.instanceMethod ({ cls := "NobodyFirst$Game", name := "wouldRatherMove", desc := "(I)Z" } : Jvm.MethodName)) ∈ xT := xT_4 9 rfl rfl
theorem tw4_10 : (Jvm.Cond.code ({ cls := "NobodyFirst$Game", name := "wouldRatherMove", desc := "(I)Z" } : Jvm.MethodName) prog_3_method_10_code (6 : Nat) (Option.some Jvm.ClassFile.FieldType.boolean)) ∈ xT := xT_4 10 rfl rfl
theorem tw4_11 : (Jvm.Cond.methodLink "NobodyFirst$Game" (83 : Nat) ({ cls := "java/lang/System", name := "arraycopy", desc := "(Ljava/lang/Object;ILjava/lang/Object;II)V" } : Jvm.MethodName)) ∈ xT := xT_4 11 rfl rfl
theorem tw4_12 : (Jvm.Cond.methodLink "NobodyFirstLaw" (87 : Nat) ({ cls := "NobodyFirst", name := "price", desc := "()I" } : Jvm.MethodName)) ∈ xT := xT_4 12 rfl rfl
theorem tw4_13 : (Jvm.Cond.instanceMethod ({ cls := "NobodyFirst", name := "price", desc := "()I" } : Jvm.MethodName)) ∈ xT := xT_4 13 rfl rfl
theorem tw4_14 : (Jvm.Cond.selects "NobodyFirst" ({ cls := "NobodyFirst", name := "price", desc := "()I" } : Jvm.MethodName) ({ cls := "NobodyFirst", name := "price", desc := "()I" } : Jvm.MethodName)) ∈ xT := xT_4 14 rfl rfl
theorem tw4_15 : (Jvm.Cond.code ({ cls := "NobodyFirst", name := "price", desc := "()I" } : Jvm.MethodName) prog_1_method_19_code (1 : Nat) (Option.some Jvm.ClassFile.FieldType.int)) ∈ xT := xT_4 15 rfl rfl
theorem tw4_16 : (Jvm.Cond.methodLink "NobodyFirstLaw" (91 : Nat) ({ cls := "NobodyFirst", name := "meant", desc := "(II)I" } : Jvm.MethodName)) ∈ xT := xT_4 16 rfl rfl
theorem tw4_17 : (Jvm.Cond.instanceMethod ({ cls := "NobodyFirst", name := "meant", desc := "(II)I" } : Jvm.MethodName)) ∈ xT := xT_4 17 rfl rfl
theorem tw4_18 : (Jvm.Cond.selects "NobodyFirst" ({ cls := "NobodyFirst", name := "meant", desc := "(II)I" } : Jvm.MethodName) ({ cls := "NobodyFirst", name := "meant", desc := "(II)I" } : Jvm.MethodName)) ∈ xT := xT_4 18 rfl rfl
theorem tw4_19 : (Jvm.Cond.code ({ cls := "NobodyFirst", name := "meant", desc := "(II)I" } : Jvm.MethodName) prog_1_method_20_code (3 : Nat) (Option.some Jvm.ClassFile.FieldType.int)) ∈ xT := xT_4 19 rfl rfl
theorem tw4_20 : (Jvm.Cond.methodLink "NobodyFirst" (186 : Nat) ({ cls := "NobodyFirst", name := "inLowestTerms", desc := "(III)I" } : Jvm.MethodName)) ∈ xT := xT_4 20 rfl rfl
theorem tw4_21 : (Jvm.Cond.static ({ cls := "NobodyFirst", name := "inLowestTerms", desc := "(III)I" } : Jvm.MethodName)) ∈ xT := xT_4 21 rfl rfl
theorem tw4_22 : (Jvm.Cond.code ({ cls := "NobodyFirst", name := "inLowestTerms", desc := "(III)I" } : Jvm.MethodName) prog_1_method_36_code (4 : Nat) (Option.some Jvm.ClassFile.FieldType.int)) ∈ xT := xT_4 22 rfl rfl
theorem tw4_23 : (Jvm.Cond.methodLink "NobodyFirst" (263 : Nat) ({ cls := "NobodyFirst", name := "greatestDivisor", desc := "(II)I" } : Jvm.MethodName)) ∈ xT := xT_4 23 rfl rfl
theorem tw4_24 : (Jvm.Cond.static ({ cls := "NobodyFirst", name := "greatestDivisor", desc := "(II)I" } : Jvm.MethodName)) ∈ xT := xT_4 24 rfl rfl
theorem tw4_25 : (Jvm.Cond.code ({ cls := "NobodyFirst", name := "greatestDivisor", desc := "(II)I" } : Jvm.MethodName) prog_1_method_37_code (6 : Nat) (Option.some Jvm.ClassFile.FieldType.int)) ∈ xT := xT_4 25 rfl rfl
theorem tw4_26 : (Jvm.Cond.methodLink "NobodyFirst" (266 : Nat) ({ cls := "java/lang/Math", name := "max", desc := "(II)I" } : Jvm.MethodName)) ∈ xT := xT_4 26 rfl rfl
theorem tw4_27 : (Jvm.Cond.methodLink "NobodyFirstLaw" (95 : Nat) ({ cls := "NobodyFirst", name := "since", desc := "(III)I" } : Jvm.MethodName)) ∈ xT := xT_4 27 rfl rfl
theorem tw4_28 : (Jvm.Cond.instanceMethod ({ cls := "NobodyFirst", name := "since", desc := "(III)I" } : Jvm.MethodName)) ∈ xT := xT_4 28 rfl rfl
theorem tw4_29 : (Jvm.Cond.selects "NobodyFirst" ({ cls := "NobodyFirst", name := "since", desc := "(III)I" } : Jvm.MethodName) ({ cls := "NobodyFirst", name := "since", desc := "(III)I" } : Jvm.MethodName)) ∈ xT := xT_4 29 rfl rfl
theorem tw4_30 : (Jvm.Cond.code ({ cls := "NobodyFirst", name := "since", desc := "(III)I" } : Jvm.MethodName) prog_1_method_21_code (6 : Nat) (Option.some Jvm.ClassFile.FieldType.int)) ∈ xT := xT_4 30 rfl rfl
theorem tw4_31 : (Jvm.Cond.methodLink "NobodyFirst" (190 : Nat) ({ cls := "NobodyFirst$Party", name := "weightOfLooks", desc := "(II)I" } : Jvm.MethodName)) ∈ xT := xT_4 31 rfl rfl
theorem tw4_32 : (Jvm.Cond.instanceMethod ({ cls := "NobodyFirst$Party", name := "weightOfLooks", desc := "(II)I" } : Jvm.MethodName)) ∈ xT := xT_4 32 rfl rfl
theorem tw4_33 : (Jvm.Cond.selects "NobodyFirst$Party" ({ cls := "NobodyFirst$Party", name := "weightOfLooks", desc := "(II)I" } : Jvm.MethodName) ({ cls := "NobodyFirst$Party", name := "weightOfLooks", desc := "(II)I" } : Jvm.MethodName)) ∈ xT := xT_4 33 rfl rfl
theorem tw4_34 : (Jvm.Cond.code ({ cls := "NobodyFirst$Party", name := "weightOfLooks", desc := "(II)I" } : Jvm.MethodName) prog_6_method_9_code (5 : Nat) (Option.some Jvm.ClassFile.FieldType.int)) ∈ xT := xT_4 34 rfl rfl
theorem tw4_35 : (Jvm.Cond.methodLink "NobodyFirst$Party" (84 : Nat) ({ cls := "NobodyFirst$Party", name := "weightOfLook", desc := "(ZZ)I" } : Jvm.MethodName)) ∈ xT := xT_4 35 rfl rfl
theorem tw4_36 : (Jvm.Cond.static ({ cls := "NobodyFirst$Party", name := "weightOfLook", desc := "(ZZ)I" } : Jvm.MethodName)) ∈ xT := xT_4 36 rfl rfl
theorem tw4_37 : (Jvm.Cond.code ({ cls := "NobodyFirst$Party", name := "weightOfLook", desc := "(ZZ)I" } : Jvm.MethodName) prog_6_method_10_code (2 : Nat) (Option.some Jvm.ClassFile.FieldType.int)) ∈ xT := xT_4 37 rfl rfl
theorem tw4_38 : (Jvm.Cond.methodLink "NobodyFirstLaw" (100 : Nat) ({ cls := "NobodyFirst", name := "leave", desc := "(III)I" } : Jvm.MethodName)) ∈ xT := xT_4 38 rfl rfl
theorem tw4_39 : (Jvm.Cond.instanceMethod ({ cls := "NobodyFirst", name := "leave", desc := "(III)I" } : Jvm.MethodName)) ∈ xT := xT_4 39 rfl rfl
theorem tw4_40 : (Jvm.Cond.selects "NobodyFirst" ({ cls := "NobodyFirst", name := "leave", desc := "(III)I" } : Jvm.MethodName) ({ cls := "NobodyFirst", name := "leave", desc := "(III)I" } : Jvm.MethodName)) ∈ xT := xT_4 40 rfl rfl
theorem tw4_41 : (Jvm.Cond.code ({ cls := "NobodyFirst", name := "leave", desc := "(III)I" } : Jvm.MethodName) prog_1_method_22_code (6 : Nat) (Option.some Jvm.ClassFile.FieldType.int)) ∈ xT := xT_4 41 rfl rfl
theorem tw4_42 : (Jvm.Cond.methodLink "NobodyFirst" (193 : Nat) ({ cls := "NobodyFirst", name := "leftAlone", desc := "(II)I" } : Jvm.MethodName)) ∈ xT := xT_4 42 rfl rfl
theorem tw4_43 : (Jvm.Cond.static ({ cls := "NobodyFirst", name := "leftAlone", desc := "(II)I" } : Jvm.MethodName)) ∈ xT := xT_4 43 rfl rfl
theorem tw4_44 : (Jvm.Cond.code ({ cls := "NobodyFirst", name := "leftAlone", desc := "(II)I" } : Jvm.MethodName) prog_1_method_35_code (3 : Nat) (Option.some Jvm.ClassFile.FieldType.int)) ∈ xT := xT_4 44 rfl rfl
theorem tw4_45 : (Jvm.Cond.methodLink "NobodyFirst" (196 : Nat) ({ cls := "java/lang/Math", name := "floorMod", desc := "(II)I" } : Jvm.MethodName)) ∈ xT := xT_4 45 rfl rfl
theorem tw4_46 : (Jvm.Cond.static ({ cls := "java/lang/Math", name := "floorMod", desc := "(II)I" } : Jvm.MethodName)) ∈ xT := xT_4 46 rfl rfl
theorem tw4_47 : (Jvm.Cond.code ({ cls := "java/lang/Math", name := "floorMod", desc := "(II)I" } : Jvm.MethodName) prog_12_method_50_code (3 : Nat) (Option.some Jvm.ClassFile.FieldType.int)) ∈ xT := xT_4 47 rfl rfl
theorem tw4_48 : (Jvm.Cond.methodLink "NobodyFirstLaw" (104 : Nat) ({ cls := "NobodyFirst", name := "drawn", desc := "(II)I" } : Jvm.MethodName)) ∈ xT := xT_4 48 rfl rfl
theorem tw4_49 : (Jvm.Cond.instanceMethod ({ cls := "NobodyFirst", name := "drawn", desc := "(II)I" } : Jvm.MethodName)) ∈ xT := xT_4 49 rfl rfl
theorem tw4_50 : (Jvm.Cond.selects "NobodyFirst" ({ cls := "NobodyFirst", name := "drawn", desc := "(II)I" } : Jvm.MethodName) ({ cls := "NobodyFirst", name := "drawn", desc := "(II)I" } : Jvm.MethodName)) ∈ xT := xT_4 50 rfl rfl
theorem tw4_51 : (Jvm.Cond.code ({ cls := "NobodyFirst", name := "drawn", desc := "(II)I" } : Jvm.MethodName) prog_1_method_23_code (3 : Nat) (Option.some Jvm.ClassFile.FieldType.int)) ∈ xT := xT_4 51 rfl rfl
theorem tw4_52 : (Jvm.Cond.methodLink "NobodyFirst" (204 : Nat) ({ cls := "NobodyFirst$Evening", name := "drawWhoHears", desc := "(I)V" } : Jvm.MethodName)) ∈ xT := xT_4 52 rfl rfl
theorem tw4_53 : (Jvm.Cond.instanceMethod ({ cls := "NobodyFirst$Evening", name := "drawWhoHears", desc := "(I)V" } : Jvm.MethodName)) ∈ xT := xT_4 53 rfl rfl
theorem tw4_54 : (Jvm.Cond.selects "NobodyFirst$Evening" ({ cls := "NobodyFirst$Evening", name := "drawWhoHears", desc := "(I)V" } : Jvm.MethodName) ({ cls := "NobodyFirst$Evening", name := "drawWhoHears", desc := "(I)V" } : Jvm.MethodName)) ∈ xT := xT_4 54 rfl rfl
theorem tw4_55 : (Jvm.Cond.code ({ cls := "NobodyFirst$Evening", name := "drawWhoHears", desc := "(I)V" } : Jvm.MethodName) prog_2_method_7_code (6 : Nat) (Option.none : Option Jvm.ClassFile.FieldType)) ∈ xT := xT_4 55 rfl rfl
theorem tw4_56 : (Jvm.Cond.constantLong "NobodyFirst$Evening" (82 : Nat) (7919 : Int64)) ∈ xT := xT_4 56 rfl rfl
theorem tw4_57 : (Jvm.Cond.constantLong "NobodyFirst$Evening" (84 : Nat) (65521 : Int64)) ∈ xT := xT_4 57 rfl rfl
theorem tw4_58 : (Jvm.Cond.constantLong "NobodyFirst$Evening" (86 : Nat) (10 : Int64)) ∈ xT := xT_4 58 rfl rfl
theorem tw4_59 : (Jvm.Cond.constantLong "NobodyFirst$Evening" (88 : Nat) (6 : Int64)) ∈ xT := xT_4 59 rfl rfl
theorem tw4_60 : (Jvm.Cond.methodLink "NobodyFirst" (210 : Nat) ({ cls := "NobodyFirst$Evening", name := "lastGoes", desc := "()I" } : Jvm.MethodName)) ∈ xT := xT_4 60 rfl rfl
theorem tw4_61 : (Jvm.Cond.methodLink "NobodyFirstLaw" (108 : Nat) ({ cls := "NobodyFirst", name := "sign", desc := "(II)I" } : Jvm.MethodName)) ∈ xT := xT_4 61 rfl rfl
theorem tw4_62 : (Jvm.Cond.instanceMethod ({ cls := "NobodyFirst", name := "sign", desc := "(II)I" } : Jvm.MethodName)) ∈ xT := xT_4 62 rfl rfl
theorem tw4_63 : (Jvm.Cond.selects "NobodyFirst" ({ cls := "NobodyFirst", name := "sign", desc := "(II)I" } : Jvm.MethodName) ({ cls := "NobodyFirst", name := "sign", desc := "(II)I" } : Jvm.MethodName)) ∈ xT := xT_4 63 rfl rfl
theorem tw4_64 : (Jvm.Cond.code ({ cls := "NobodyFirst", name := "sign", desc := "(II)I" } : Jvm.MethodName) prog_1_method_24_code (3 : Nat) (Option.some Jvm.ClassFile.FieldType.int)) ∈ xT := xT_4 64 rfl rfl
theorem tw4_65 : (Jvm.Cond.methodLink "NobodyFirst" (217 : Nat) ({ cls := "NobodyFirst$Told", name := "addSign", desc := "(II)Z" } : Jvm.MethodName)) ∈ xT := xT_4 65 rfl rfl
theorem tw4_66 : (Jvm.Cond.methodLink "NobodyFirst" (223 : Nat) ({ cls := "NobodyFirst$History", name := "note", desc := "(Z)V" } : Jvm.MethodName)) ∈ xT := xT_4 66 rfl rfl
theorem tw4_67 : (Jvm.Cond.instanceMethod ({ cls := "NobodyFirst$History", name := "note", desc := "(Z)V" } : Jvm.MethodName)) ∈ xT := xT_4 67 rfl rfl
theorem tw4_68 : (Jvm.Cond.selects "NobodyFirst$History" ({ cls := "NobodyFirst$History", name := "note", desc := "(Z)V" } : Jvm.MethodName) ({ cls := "NobodyFirst$History", name := "note", desc := "(Z)V" } : Jvm.MethodName)) ∈ xT := xT_4 68 rfl rfl
theorem tw4_69 : (Jvm.Cond.code ({ cls := "NobodyFirst$History", name := "note", desc := "(Z)V" } : Jvm.MethodName) prog_5_method_3_code (3 : Nat) (Option.none : Option Jvm.ClassFile.FieldType)) ∈ xT := xT_4 69 rfl rfl
theorem tw4_70 : (Jvm.Cond.methodLink "NobodyFirstLaw" (112 : Nat) ({ cls := "NobodyFirst", name := "say", desc := "(I)I" } : Jvm.MethodName)) ∈ xT := xT_4 70 rfl rfl
theorem tw4_71 : (Jvm.Cond.instanceMethod ({ cls := "NobodyFirst", name := "say", desc := "(I)I" } : Jvm.MethodName)) ∈ xT := xT_4 71 rfl rfl
theorem tw4_72 : (Jvm.Cond.selects "NobodyFirst" ({ cls := "NobodyFirst", name := "say", desc := "(I)I" } : Jvm.MethodName) ({ cls := "NobodyFirst", name := "say", desc := "(I)I" } : Jvm.MethodName)) ∈ xT := xT_4 72 rfl rfl
theorem tw4_73 : (Jvm.Cond.code ({ cls := "NobodyFirst", name := "say", desc := "(I)I" } : Jvm.MethodName) prog_1_method_25_code (2 : Nat) (Option.some Jvm.ClassFile.FieldType.int)) ∈ xT := xT_4 73 rfl rfl
theorem tw4_74 : (Jvm.Cond.methodLink "NobodyFirst" (230 : Nat) ({ cls := "NobodyFirst$Told", name := "addWord", desc := "(I)Z" } : Jvm.MethodName)) ∈ xT := xT_4 74 rfl rfl
theorem tw4_75 : (Jvm.Cond.methodLink "NobodyFirstLaw" (116 : Nat) ({ cls := "NobodyFirst", name := "takeBack", desc := "()I" } : Jvm.MethodName)) ∈ xT := xT_4 75 rfl rfl
theorem tw4_76 : (Jvm.Cond.instanceMethod ({ cls := "NobodyFirst", name := "takeBack", desc := "()I" } : Jvm.MethodName)) ∈ xT := xT_4 76 rfl rfl
theorem tw4_77 : (Jvm.Cond.selects "NobodyFirst" ({ cls := "NobodyFirst", name := "takeBack", desc := "()I" } : Jvm.MethodName) ({ cls := "NobodyFirst", name := "takeBack", desc := "()I" } : Jvm.MethodName)) ∈ xT := xT_4 77 rfl rfl
theorem tw4_78 : (Jvm.Cond.code ({ cls := "NobodyFirst", name := "takeBack", desc := "()I" } : Jvm.MethodName) prog_1_method_26_code (1 : Nat) (Option.some Jvm.ClassFile.FieldType.int)) ∈ xT := xT_4 78 rfl rfl
theorem tw4_79 : (Jvm.Cond.methodLink "NobodyFirst" (239 : Nat) ({ cls := "NobodyFirst$History", name := "undo", desc := "(LNobodyFirst$Told;)V" } : Jvm.MethodName)) ∈ xT := xT_4 79 rfl rfl
theorem tw4_80 : (Jvm.Cond.instanceMethod ({ cls := "NobodyFirst$History", name := "undo", desc := "(LNobodyFirst$Told;)V" } : Jvm.MethodName)) ∈ xT := xT_4 80 rfl rfl
theorem tw4_81 : (Jvm.Cond.selects "NobodyFirst$History" ({ cls := "NobodyFirst$History", name := "undo", desc := "(LNobodyFirst$Told;)V" } : Jvm.MethodName) ({ cls := "NobodyFirst$History", name := "undo", desc := "(LNobodyFirst$Told;)V" } : Jvm.MethodName)) ∈ xT := xT_4 81 rfl rfl
theorem tw4_82 : (Jvm.Cond.code ({ cls := "NobodyFirst$History", name := "undo", desc := "(LNobodyFirst$Told;)V" } : Jvm.MethodName) prog_5_method_4_code (2 : Nat) (Option.none : Option Jvm.ClassFile.FieldType)) ∈ xT := xT_4 82 rfl rfl
theorem tw4_83 : (Jvm.Cond.methodLink "NobodyFirst$History" (35 : Nat) ({ cls := "java/lang/Math", name := "max", desc := "(II)I" } : Jvm.MethodName)) ∈ xT := xT_4 83 rfl rfl
theorem tw4_84 : (Jvm.Cond.methodLink "NobodyFirstLaw" (120 : Nat) ({ cls := "NobodyFirst", name := "keep", desc := "()I" } : Jvm.MethodName)) ∈ xT := xT_4 84 rfl rfl
theorem tw4_85 : (Jvm.Cond.instanceMethod ({ cls := "NobodyFirst", name := "keep", desc := "()I" } : Jvm.MethodName)) ∈ xT := xT_4 85 rfl rfl
theorem tw4_86 : (Jvm.Cond.selects "NobodyFirst" ({ cls := "NobodyFirst", name := "keep", desc := "()I" } : Jvm.MethodName) ({ cls := "NobodyFirst", name := "keep", desc := "()I" } : Jvm.MethodName)) ∈ xT := xT_4 86 rfl rfl
theorem tw4_87 : (Jvm.Cond.code ({ cls := "NobodyFirst", name := "keep", desc := "()I" } : Jvm.MethodName) prog_1_method_27_code (1 : Nat) (Option.some Jvm.ClassFile.FieldType.int)) ∈ xT := xT_4 87 rfl rfl
theorem tw4_88 : (Jvm.Cond.methodLink "NobodyFirst" (243 : Nat) ({ cls := "NobodyFirst$History", name := "store", desc := "(LNobodyFirst$Told;)Z" } : Jvm.MethodName)) ∈ xT := xT_4 88 rfl rfl
theorem tw4_89 : (Jvm.Cond.instanceMethod ({ cls := "NobodyFirst$History", name := "store", desc := "(LNobodyFirst$Told;)Z" } : Jvm.MethodName)) ∈ xT := xT_4 89 rfl rfl
theorem tw4_90 : (Jvm.Cond.selects "NobodyFirst$History" ({ cls := "NobodyFirst$History", name := "store", desc := "(LNobodyFirst$Told;)Z" } : Jvm.MethodName) ({ cls := "NobodyFirst$History", name := "store", desc := "(LNobodyFirst$Told;)Z" } : Jvm.MethodName)) ∈ xT := xT_4 90 rfl rfl
theorem tw4_91 : (Jvm.Cond.code ({ cls := "NobodyFirst$History", name := "store", desc := "(LNobodyFirst$Told;)Z" } : Jvm.MethodName) prog_5_method_5_code (2 : Nat) (Option.some Jvm.ClassFile.FieldType.boolean)) ∈ xT := xT_4 91 rfl rfl
theorem tw4_92 : (Jvm.Cond.methodLink "NobodyFirst$History" (44 : Nat) ({ cls := "NobodyFirst$History", name := "placeOf", desc := "(I)LNobodyFirst$Told;" } : Jvm.MethodName)) ∈ xT := xT_4 92 rfl rfl
theorem tw4_94 : (Jvm.Cond.instanceMethod ({ cls := "NobodyFirst$History", name := "placeOf", desc := "(I)LNobodyFirst$Told;" } : Jvm.MethodName)) ∈ xT := xT_4 94 rfl rfl
theorem tw4_95 : (Jvm.Cond.code ({ cls := "NobodyFirst$History", name := "placeOf", desc := "(I)LNobodyFirst$Told;" } : Jvm.MethodName) prog_5_method_7_code (2 : Nat) (Option.some (Jvm.ClassFile.FieldType.object "NobodyFirst$Told"))) ∈ xT := xT_4 95 rfl rfl
theorem tw4_96 : (Jvm.Cond.methodLink "NobodyFirst$History" (48 : Nat) ({ cls := "NobodyFirst$Told", name := "copyFrom", desc := "(LNobodyFirst$Told;)V" } : Jvm.MethodName)) ∈ xT := xT_4 96 rfl rfl
theorem tw4_97 : (Jvm.Cond.instanceMethod ({ cls := "NobodyFirst$Told", name := "copyFrom", desc := "(LNobodyFirst$Told;)V" } : Jvm.MethodName)) ∈ xT := xT_4 97 rfl rfl
theorem tw4_98 : (Jvm.Cond.selects "NobodyFirst$Told" ({ cls := "NobodyFirst$Told", name := "copyFrom", desc := "(LNobodyFirst$Told;)V" } : Jvm.MethodName) ({ cls := "NobodyFirst$Told", name := "copyFrom", desc := "(LNobodyFirst$Told;)V" } : Jvm.MethodName)) ∈ xT := xT_4 98 rfl rfl
theorem tw4_99 : (Jvm.Cond.code ({ cls := "NobodyFirst$Told", name := "copyFrom", desc := "(LNobodyFirst$Told;)V" } : Jvm.MethodName) prog_8_method_5_code (2 : Nat) (Option.none : Option Jvm.ClassFile.FieldType)) ∈ xT := xT_4 99 rfl rfl
theorem tw4_100 : (Jvm.Cond.methodLink "NobodyFirst$Told" (28 : Nat) ({ cls := "java/lang/System", name := "arraycopy", desc := "(Ljava/lang/Object;ILjava/lang/Object;II)V" } : Jvm.MethodName)) ∈ xT := xT_4 100 rfl rfl
theorem tw4_101 : (Jvm.Cond.methodLink "NobodyFirstLaw" (124 : Nat) ({ cls := "NobodyFirst", name := "back", desc := "()I" } : Jvm.MethodName)) ∈ xT := xT_4 101 rfl rfl
theorem tw4_102 : (Jvm.Cond.instanceMethod ({ cls := "NobodyFirst", name := "back", desc := "()I" } : Jvm.MethodName)) ∈ xT := xT_4 102 rfl rfl
theorem tw4_103 : (Jvm.Cond.selects "NobodyFirst" ({ cls := "NobodyFirst", name := "back", desc := "()I" } : Jvm.MethodName) ({ cls := "NobodyFirst", name := "back", desc := "()I" } : Jvm.MethodName)) ∈ xT := xT_4 103 rfl rfl
theorem tw4_104 : (Jvm.Cond.code ({ cls := "NobodyFirst", name := "back", desc := "()I" } : Jvm.MethodName) prog_1_method_28_code (1 : Nat) (Option.some Jvm.ClassFile.FieldType.int)) ∈ xT := xT_4 104 rfl rfl
theorem tw4_105 : (Jvm.Cond.methodLink "NobodyFirst" (250 : Nat) ({ cls := "NobodyFirst$History", name := "restore", desc := "(LNobodyFirst$Told;)Z" } : Jvm.MethodName)) ∈ xT := xT_4 105 rfl rfl
theorem tw4_106 : (Jvm.Cond.instanceMethod ({ cls := "NobodyFirst$History", name := "restore", desc := "(LNobodyFirst$Told;)Z" } : Jvm.MethodName)) ∈ xT := xT_4 106 rfl rfl
theorem tw4_107 : (Jvm.Cond.selects "NobodyFirst$History" ({ cls := "NobodyFirst$History", name := "restore", desc := "(LNobodyFirst$Told;)Z" } : Jvm.MethodName) ({ cls := "NobodyFirst$History", name := "restore", desc := "(LNobodyFirst$Told;)Z" } : Jvm.MethodName)) ∈ xT := xT_4 107 rfl rfl
theorem tw4_108 : (Jvm.Cond.code ({ cls := "NobodyFirst$History", name := "restore", desc := "(LNobodyFirst$Told;)Z" } : Jvm.MethodName) prog_5_method_6_code (2 : Nat) (Option.some Jvm.ClassFile.FieldType.boolean)) ∈ xT := xT_4 108 rfl rfl
theorem tw4_109 : (Jvm.Cond.methodLink "NobodyFirstLaw" (128 : Nat) ({ cls := "NobodyFirst", name := "count", desc := "(I)I" } : Jvm.MethodName)) ∈ xT := xT_4 109 rfl rfl
theorem tw4_110 : (Jvm.Cond.instanceMethod ({ cls := "NobodyFirst", name := "count", desc := "(I)I" } : Jvm.MethodName)) ∈ xT := xT_4 110 rfl rfl
theorem tw4_111 : (Jvm.Cond.selects "NobodyFirst" ({ cls := "NobodyFirst", name := "count", desc := "(I)I" } : Jvm.MethodName) ({ cls := "NobodyFirst", name := "count", desc := "(I)I" } : Jvm.MethodName)) ∈ xT := xT_4 111 rfl rfl
theorem tw4_112 : (Jvm.Cond.code ({ cls := "NobodyFirst", name := "count", desc := "(I)I" } : Jvm.MethodName) prog_1_method_29_code (2 : Nat) (Option.some Jvm.ClassFile.FieldType.int)) ∈ xT := xT_4 112 rfl rfl
theorem tw4_113 : (Jvm.Cond.classLink "NobodyFirstLaw" (10 : Nat) "NobodyFirstModel") ∈ xT := xT_4 113 rfl rfl
theorem tw4_114 : (Jvm.Cond.instantiable "NobodyFirstModel" (40 : Nat)) ∈ xT := xT_4 114 rfl rfl
theorem tw4_115 : (Jvm.Cond.methodLink "NobodyFirstLaw" (12 : Nat) ({ cls := "NobodyFirstModel", name := "<init>", desc := "()V" } : Jvm.MethodName)) ∈ xT := xT_4 115 rfl rfl
theorem tw4_116 : (Jvm.Cond.instanceMethod ({ cls := "NobodyFirstModel", name := "<init>", desc := "()V" } : Jvm.MethodName)) ∈ xT := xT_4 116 rfl rfl
theorem tw4_117 : (Jvm.Cond.code ({ cls := "NobodyFirstModel", name := "<init>", desc := "()V" } : Jvm.MethodName) prog_10_method_1_code (1 : Nat) (Option.none : Option Jvm.ClassFile.FieldType)) ∈ xT := xT_4 117 rfl rfl
theorem tw4_118 : (Jvm.Cond.methodLink "NobodyFirstModel" (1 : Nat) ({ cls := "java/lang/Object", name := "<init>", desc := "()V" } : Jvm.MethodName)) ∈ xT := xT_4 118 rfl rfl
theorem tw4_119 : (Jvm.Cond.methodLink "NobodyFirstModel" (103 : Nat) ({ cls := "NobodyFirstModel", name := "noEvening", desc := "(I)V" } : Jvm.MethodName)) ∈ xT := xT_4 119 rfl rfl
theorem tw4_121 : (Jvm.Cond.instanceMethod ({ cls := "NobodyFirstModel", name := "noEvening", desc := "(I)V" } : Jvm.MethodName)) ∈ xT := xT_4 121 rfl rfl
theorem tw4_122 : (Jvm.Cond.code ({ cls := "NobodyFirstModel", name := "noEvening", desc := "(I)V" } : Jvm.MethodName) prog_10_method_4_code (3 : Nat) (Option.none : Option Jvm.ClassFile.FieldType)) ∈ xT := xT_4 122 rfl rfl
theorem tw4_123 : (Jvm.Cond.fieldLink "NobodyFirstModel" (113 : Nat) "NobodyFirstModel" "length" "I") ∈ xT := xT_4 123 rfl rfl
theorem tw4_124 : (Jvm.Cond.fieldLink "NobodyFirstModel" (7 : Nat) "NobodyFirstModel" "text" "[I") ∈ xT := xT_4 124 rfl rfl
theorem tw4_125 : (Jvm.Cond.fieldLink "NobodyFirstModel" (13 : Nat) "NobodyFirstModel" "many" "[I") ∈ xT := xT_4 125 rfl rfl
theorem tw4_126 : (Jvm.Cond.fieldLink "NobodyFirstModel" (16 : Nat) "NobodyFirstModel" "pairs" "[I") ∈ xT := xT_4 126 rfl rfl
theorem tw4_127 : (Jvm.Cond.fieldLink "NobodyFirstModel" (19 : Nat) "NobodyFirstModel" "wants" "[I") ∈ xT := xT_4 127 rfl rfl
theorem tw4_128 : (Jvm.Cond.fieldLink "NobodyFirstModel" (22 : Nat) "NobodyFirstModel" "shames" "[I") ∈ xT := xT_4 128 rfl rfl
theorem tw4_129 : (Jvm.Cond.fieldLink "NobodyFirstModel" (25 : Nat) "NobodyFirstModel" "kinds" "[I") ∈ xT := xT_4 129 rfl rfl
theorem tw4_130 : (Jvm.Cond.fieldLink "NobodyFirstModel" (28 : Nat) "NobodyFirstModel" "giveMany" "[I") ∈ xT := xT_4 130 rfl rfl
theorem tw4_131 : (Jvm.Cond.fieldLink "NobodyFirstModel" (31 : Nat) "NobodyFirstModel" "giveWorth" "[I") ∈ xT := xT_4 131 rfl rfl
theorem tw4_132 : (Jvm.Cond.fieldLink "NobodyFirstModel" (34 : Nat) "NobodyFirstModel" "giveCost" "[I") ∈ xT := xT_4 132 rfl rfl
theorem tw4_133 : (Jvm.Cond.fieldLink "NobodyFirstModel" (37 : Nat) "NobodyFirstModel" "draws" "[I") ∈ xT := xT_4 133 rfl rfl
theorem tw4_134 : (Jvm.Cond.fieldLink "NobodyFirstModel" (40 : Nat) "NobodyFirstModel" "halls" "[I") ∈ xT := xT_4 134 rfl rfl
theorem tw4_135 : (Jvm.Cond.fieldLink "NobodyFirstModel" (43 : Nat) "NobodyFirstModel" "ends" "[I") ∈ xT := xT_4 135 rfl rfl
theorem tw4_136 : (Jvm.Cond.fieldLink "NobodyFirstModel" (46 : Nat) "NobodyFirstModel" "meantBy" "[I") ∈ xT := xT_4 136 rfl rfl
theorem tw4_137 : (Jvm.Cond.fieldLink "NobodyFirstModel" (49 : Nat) "NobodyFirstModel" "notMeantBy" "[I") ∈ xT := xT_4 137 rfl rfl
theorem tw4_138 : (Jvm.Cond.fieldLink "NobodyFirstModel" (52 : Nat) "NobodyFirstModel" "lookMany" "[I") ∈ xT := xT_4 138 rfl rfl
theorem tw4_139 : (Jvm.Cond.fieldLink "NobodyFirstModel" (55 : Nat) "NobodyFirstModel" "lookOf" "[I") ∈ xT := xT_4 139 rfl rfl
theorem tw4_140 : (Jvm.Cond.fieldLink "NobodyFirstModel" (58 : Nat) "NobodyFirstModel" "lookAt" "[I") ∈ xT := xT_4 140 rfl rfl
theorem tw4_141 : (Jvm.Cond.fieldLink "NobodyFirstModel" (61 : Nat) "NobodyFirstModel" "yawns" "[I") ∈ xT := xT_4 141 rfl rfl
theorem tw4_142 : (Jvm.Cond.fieldLink "NobodyFirstModel" (64 : Nat) "NobodyFirstModel" "signMany" "[I") ∈ xT := xT_4 142 rfl rfl
theorem tw4_143 : (Jvm.Cond.fieldLink "NobodyFirstModel" (67 : Nat) "NobodyFirstModel" "signAt" "[I") ∈ xT := xT_4 143 rfl rfl
theorem tw4_144 : (Jvm.Cond.fieldLink "NobodyFirstModel" (70 : Nat) "NobodyFirstModel" "signWorth" "[I") ∈ xT := xT_4 144 rfl rfl
theorem tw4_145 : (Jvm.Cond.fieldLink "NobodyFirstModel" (73 : Nat) "NobodyFirstModel" "wordMany" "[I") ∈ xT := xT_4 145 rfl rfl
theorem tw4_146 : (Jvm.Cond.fieldLink "NobodyFirstModel" (76 : Nat) "NobodyFirstModel" "wordAt" "[I") ∈ xT := xT_4 146 rfl rfl
theorem tw4_147 : (Jvm.Cond.fieldLink "NobodyFirstModel" (161 : Nat) "NobodyFirstModel" "keptMany" "I") ∈ xT := xT_4 147 rfl rfl
theorem tw4_148 : (Jvm.Cond.fieldLink "NobodyFirstModel" (164 : Nat) "NobodyFirstModel" "doneMany" "I") ∈ xT := xT_4 148 rfl rfl
theorem tw4_149 : (Jvm.Cond.fieldLink "NobodyFirstModel" (79 : Nat) "NobodyFirstModel" "done" "[I") ∈ xT := xT_4 149 rfl rfl
theorem tw4_150 : (Jvm.Cond.fieldLink "NobodyFirstModel" (119 : Nat) "NobodyFirstModel" "place" "I") ∈ xT := xT_4 150 rfl rfl
theorem tw4_151 : (Jvm.Cond.fieldLink "NobodyFirstModel" (82 : Nat) "NobodyFirstModel" "told" "[I") ∈ xT := xT_4 151 rfl rfl
theorem tw4_152 : (Jvm.Cond.fieldLink "NobodyFirstModel" (170 : Nat) "NobodyFirstModel" "busOf" "I") ∈ xT := xT_4 152 rfl rfl
theorem tw4_153 : (Jvm.Cond.fieldLink "NobodyFirstModel" (173 : Nat) "NobodyFirstModel" "busFrom" "I") ∈ xT := xT_4 153 rfl rfl
theorem tw4_154 : (Jvm.Cond.fieldLink "NobodyFirstModel" (176 : Nat) "NobodyFirstModel" "bellAt" "I") ∈ xT := xT_4 154 rfl rfl
theorem tw4_155 : (Jvm.Cond.fieldLink "NobodyFirstModel" (179 : Nat) "NobodyFirstModel" "drawBy" "I") ∈ xT := xT_4 155 rfl rfl
theorem tw4_156 : (Jvm.Cond.fieldLink "NobodyFirstModel" (85 : Nat) "NobodyFirstModel" "givenAt" "[I") ∈ xT := xT_4 156 rfl rfl
theorem tw4_157 : (Jvm.Cond.fieldLink "NobodyFirstModel" (88 : Nat) "NobodyFirstModel" "stands" "[I") ∈ xT := xT_4 157 rfl rfl
theorem tw4_158 : (Jvm.Cond.fieldLink "NobodyFirstModel" (91 : Nat) "NobodyFirstModel" "goes" "[I") ∈ xT := xT_4 158 rfl rfl
theorem tw4_159 : (Jvm.Cond.fieldLink "NobodyFirstModel" (255 : Nat) "NobodyFirstModel" "playMany" "I") ∈ xT := xT_4 159 rfl rfl
theorem tw4_160 : (Jvm.Cond.fieldLink "NobodyFirstModel" (94 : Nat) "NobodyFirstModel" "playWants" "[I") ∈ xT := xT_4 160 rfl rfl
theorem tw4_161 : (Jvm.Cond.fieldLink "NobodyFirstModel" (97 : Nat) "NobodyFirstModel" "playShames" "[I") ∈ xT := xT_4 161 rfl rfl
theorem tw4_162 : (Jvm.Cond.fieldLink "NobodyFirstModel" (100 : Nat) "NobodyFirstModel" "slots" "[I") ∈ xT := xT_4 162 rfl rfl
theorem tw4_163 : (Jvm.Cond.lays "NobodyFirstModel" "NobodyFirstModel" "length" "I") ∈ xT := xT_4 163 rfl rfl
theorem tw4_165 : (Jvm.Cond.laysFinal "NobodyFirstModel" "NobodyFirstModel" "text" "[I") ∈ xT := xT_4 165 rfl rfl
theorem tw4_167 : (Jvm.Cond.laysFinal "NobodyFirstModel" "NobodyFirstModel" "many" "[I") ∈ xT := xT_4 167 rfl rfl
theorem tw4_169 : (Jvm.Cond.laysFinal "NobodyFirstModel" "NobodyFirstModel" "pairs" "[I") ∈ xT := xT_4 169 rfl rfl
theorem tw4_171 : (Jvm.Cond.laysFinal "NobodyFirstModel" "NobodyFirstModel" "wants" "[I") ∈ xT := xT_4 171 rfl rfl
theorem tw4_173 : (Jvm.Cond.laysFinal "NobodyFirstModel" "NobodyFirstModel" "shames" "[I") ∈ xT := xT_4 173 rfl rfl
theorem tw4_175 : (Jvm.Cond.laysFinal "NobodyFirstModel" "NobodyFirstModel" "kinds" "[I") ∈ xT := xT_4 175 rfl rfl
theorem tw4_177 : (Jvm.Cond.laysFinal "NobodyFirstModel" "NobodyFirstModel" "giveMany" "[I") ∈ xT := xT_4 177 rfl rfl
theorem tw4_179 : (Jvm.Cond.laysFinal "NobodyFirstModel" "NobodyFirstModel" "giveWorth" "[I") ∈ xT := xT_4 179 rfl rfl
theorem tw4_181 : (Jvm.Cond.laysFinal "NobodyFirstModel" "NobodyFirstModel" "giveCost" "[I") ∈ xT := xT_4 181 rfl rfl
theorem tw4_183 : (Jvm.Cond.laysFinal "NobodyFirstModel" "NobodyFirstModel" "draws" "[I") ∈ xT := xT_4 183 rfl rfl
theorem tw4_185 : (Jvm.Cond.laysFinal "NobodyFirstModel" "NobodyFirstModel" "halls" "[I") ∈ xT := xT_4 185 rfl rfl
theorem tw4_187 : (Jvm.Cond.laysFinal "NobodyFirstModel" "NobodyFirstModel" "ends" "[I") ∈ xT := xT_4 187 rfl rfl
theorem tw4_189 : (Jvm.Cond.laysFinal "NobodyFirstModel" "NobodyFirstModel" "meantBy" "[I") ∈ xT := xT_4 189 rfl rfl
theorem tw4_191 : (Jvm.Cond.laysFinal "NobodyFirstModel" "NobodyFirstModel" "notMeantBy" "[I") ∈ xT := xT_4 191 rfl rfl
theorem tw4_193 : (Jvm.Cond.laysFinal "NobodyFirstModel" "NobodyFirstModel" "lookMany" "[I") ∈ xT := xT_4 193 rfl rfl
theorem tw4_195 : (Jvm.Cond.laysFinal "NobodyFirstModel" "NobodyFirstModel" "lookOf" "[I") ∈ xT := xT_4 195 rfl rfl
theorem tw4_197 : (Jvm.Cond.laysFinal "NobodyFirstModel" "NobodyFirstModel" "lookAt" "[I") ∈ xT := xT_4 197 rfl rfl
theorem tw4_199 : (Jvm.Cond.laysFinal "NobodyFirstModel" "NobodyFirstModel" "yawns" "[I") ∈ xT := xT_4 199 rfl rfl
theorem tw4_201 : (Jvm.Cond.laysFinal "NobodyFirstModel" "NobodyFirstModel" "signMany" "[I") ∈ xT := xT_4 201 rfl rfl
theorem tw4_203 : (Jvm.Cond.laysFinal "NobodyFirstModel" "NobodyFirstModel" "signAt" "[I") ∈ xT := xT_4 203 rfl rfl
theorem tw4_205 : (Jvm.Cond.laysFinal "NobodyFirstModel" "NobodyFirstModel" "signWorth" "[I") ∈ xT := xT_4 205 rfl rfl
theorem tw4_207 : (Jvm.Cond.laysFinal "NobodyFirstModel" "NobodyFirstModel" "wordMany" "[I") ∈ xT := xT_4 207 rfl rfl
theorem tw4_209 : (Jvm.Cond.laysFinal "NobodyFirstModel" "NobodyFirstModel" "wordAt" "[I") ∈ xT := xT_4 209 rfl rfl
theorem tw4_211 : (Jvm.Cond.lays "NobodyFirstModel" "NobodyFirstModel" "keptMany" "I") ∈ xT := xT_4 211 rfl rfl
theorem tw4_213 : (Jvm.Cond.lays "NobodyFirstModel" "NobodyFirstModel" "doneMany" "I") ∈ xT := xT_4 213 rfl rfl
theorem tw4_215 : (Jvm.Cond.laysFinal "NobodyFirstModel" "NobodyFirstModel" "done" "[I") ∈ xT := xT_4 215 rfl rfl
theorem tw4_217 : (Jvm.Cond.lays "NobodyFirstModel" "NobodyFirstModel" "place" "I") ∈ xT := xT_4 217 rfl rfl
theorem tw4_219 : (Jvm.Cond.laysFinal "NobodyFirstModel" "NobodyFirstModel" "told" "[I") ∈ xT := xT_4 219 rfl rfl
theorem tw4_221 : (Jvm.Cond.lays "NobodyFirstModel" "NobodyFirstModel" "busOf" "I") ∈ xT := xT_4 221 rfl rfl
theorem tw4_223 : (Jvm.Cond.lays "NobodyFirstModel" "NobodyFirstModel" "busFrom" "I") ∈ xT := xT_4 223 rfl rfl
theorem tw4_225 : (Jvm.Cond.lays "NobodyFirstModel" "NobodyFirstModel" "bellAt" "I") ∈ xT := xT_4 225 rfl rfl
theorem tw4_227 : (Jvm.Cond.lays "NobodyFirstModel" "NobodyFirstModel" "drawBy" "I") ∈ xT := xT_4 227 rfl rfl
theorem tw4_229 : (Jvm.Cond.laysFinal "NobodyFirstModel" "NobodyFirstModel" "givenAt" "[I") ∈ xT := xT_4 229 rfl rfl
theorem tw4_231 : (Jvm.Cond.laysFinal "NobodyFirstModel" "NobodyFirstModel" "stands" "[I") ∈ xT := xT_4 231 rfl rfl
theorem tw4_233 : (Jvm.Cond.laysFinal "NobodyFirstModel" "NobodyFirstModel" "goes" "[I") ∈ xT := xT_4 233 rfl rfl
theorem tw4_235 : (Jvm.Cond.lays "NobodyFirstModel" "NobodyFirstModel" "playMany" "I") ∈ xT := xT_4 235 rfl rfl
theorem tw4_237 : (Jvm.Cond.laysFinal "NobodyFirstModel" "NobodyFirstModel" "playWants" "[I") ∈ xT := xT_4 237 rfl rfl
theorem tw4_239 : (Jvm.Cond.laysFinal "NobodyFirstModel" "NobodyFirstModel" "playShames" "[I") ∈ xT := xT_4 239 rfl rfl
theorem tw5_1 : (Jvm.Cond.laysFinal "NobodyFirstModel" "NobodyFirstModel" "slots" "[I") ∈ xT := xT_5 1 rfl rfl
theorem tw5_4 : (Jvm.Cond.methodLink "NobodyFirstLaw" (19 : Nat) ({ cls := "NobodyFirstModel", name := "write", desc := "(IJ)I" } : Jvm.MethodName)) ∈ xT := xT_5 4 rfl rfl
theorem tw5_5 : (Jvm.Cond.instanceMethod ({ cls := "NobodyFirstModel", name := "write", desc := "(IJ)I" } : Jvm.MethodName)) ∈ xT := xT_5 5 rfl rfl
theorem tw5_6 : (Jvm.Cond.selects "NobodyFirstModel" ({ cls := "NobodyFirstModel", name := "write", desc := "(IJ)I" } : Jvm.MethodName) ({ cls := "NobodyFirstModel", name := "write", desc := "(IJ)I" } : Jvm.MethodName)) ∈ xT := xT_5 6 rfl rfl
theorem tw5_7 : (Jvm.Cond.code ({ cls := "NobodyFirstModel", name := "write", desc := "(IJ)I" } : Jvm.MethodName) prog_10_method_5_code (5 : Nat) (Option.some Jvm.ClassFile.FieldType.int)) ∈ xT := xT_5 7 rfl rfl
theorem tw5_8 : (Jvm.Cond.constantLong "NobodyFirstModel" (107 : Nat) (8 : Int64)) ∈ xT := xT_5 8 rfl rfl
theorem tw5_9 : (Jvm.Cond.methodLink "NobodyFirstModel" (109 : Nat) ({ cls := "NobodyFirstModel", name := "in", desc := "(JJJ)Z" } : Jvm.MethodName)) ∈ xT := xT_5 9 rfl rfl
theorem tw5_10 : (Jvm.Cond.static ({ cls := "NobodyFirstModel", name := "in", desc := "(JJJ)Z" } : Jvm.MethodName)) ∈ xT := xT_5 10 rfl rfl
theorem tw5_11 : (Jvm.Cond.code ({ cls := "NobodyFirstModel", name := "in", desc := "(JJJ)Z" } : Jvm.MethodName) prog_10_method_2_code (6 : Nat) (Option.some Jvm.ClassFile.FieldType.boolean)) ∈ xT := xT_5 11 rfl rfl
theorem tw5_12 : (Jvm.Cond.constantLong "NobodyFirstModel" (117 : Nat) (255 : Int64)) ∈ xT := xT_5 12 rfl rfl
theorem tw5_13 : (Jvm.Cond.methodLink "NobodyFirstLaw" (24 : Nat) ({ cls := "NobodyFirstModel", name := "wipe", desc := "()I" } : Jvm.MethodName)) ∈ xT := xT_5 13 rfl rfl
theorem tw5_14 : (Jvm.Cond.instanceMethod ({ cls := "NobodyFirstModel", name := "wipe", desc := "()I" } : Jvm.MethodName)) ∈ xT := xT_5 14 rfl rfl
theorem tw5_15 : (Jvm.Cond.selects "NobodyFirstModel" ({ cls := "NobodyFirstModel", name := "wipe", desc := "()I" } : Jvm.MethodName) ({ cls := "NobodyFirstModel", name := "wipe", desc := "()I" } : Jvm.MethodName)) ∈ xT := xT_5 15 rfl rfl
theorem tw5_16 : (Jvm.Cond.code ({ cls := "NobodyFirstModel", name := "wipe", desc := "()I" } : Jvm.MethodName) prog_10_method_6_code (2 : Nat) (Option.some Jvm.ClassFile.FieldType.int)) ∈ xT := xT_5 16 rfl rfl
theorem tw5_17 : (Jvm.Cond.methodLink "NobodyFirstLaw" (28 : Nat) ({ cls := "NobodyFirstModel", name := "fault", desc := "()I" } : Jvm.MethodName)) ∈ xT := xT_5 17 rfl rfl
theorem tw5_18 : (Jvm.Cond.instanceMethod ({ cls := "NobodyFirstModel", name := "fault", desc := "()I" } : Jvm.MethodName)) ∈ xT := xT_5 18 rfl rfl
theorem tw5_19 : (Jvm.Cond.selects "NobodyFirstModel" ({ cls := "NobodyFirstModel", name := "fault", desc := "()I" } : Jvm.MethodName) ({ cls := "NobodyFirstModel", name := "fault", desc := "()I" } : Jvm.MethodName)) ∈ xT := xT_5 19 rfl rfl
theorem tw5_20 : (Jvm.Cond.code ({ cls := "NobodyFirstModel", name := "fault", desc := "()I" } : Jvm.MethodName) prog_10_method_14_code (1 : Nat) (Option.some Jvm.ClassFile.FieldType.int)) ∈ xT := xT_5 20 rfl rfl
theorem tw5_21 : (Jvm.Cond.methodLink "NobodyFirstModel" (153 : Nat) ({ cls := "NobodyFirstModel", name := "readAll", desc := "()I" } : Jvm.MethodName)) ∈ xT := xT_5 21 rfl rfl
theorem tw5_23 : (Jvm.Cond.instanceMethod ({ cls := "NobodyFirstModel", name := "readAll", desc := "()I" } : Jvm.MethodName)) ∈ xT := xT_5 23 rfl rfl
theorem tw5_24 : (Jvm.Cond.code ({ cls := "NobodyFirstModel", name := "readAll", desc := "()I" } : Jvm.MethodName) prog_10_method_13_code (2 : Nat) (Option.some Jvm.ClassFile.FieldType.int)) ∈ xT := xT_5 24 rfl rfl
theorem tw5_25 : (Jvm.Cond.methodLink "NobodyFirstModel" (150 : Nat) ({ cls := "NobodyFirstModel", name := "item", desc := "()Z" } : Jvm.MethodName)) ∈ xT := xT_5 25 rfl rfl
theorem tw5_27 : (Jvm.Cond.instanceMethod ({ cls := "NobodyFirstModel", name := "item", desc := "()Z" } : Jvm.MethodName)) ∈ xT := xT_5 27 rfl rfl
theorem tw5_28 : (Jvm.Cond.code ({ cls := "NobodyFirstModel", name := "item", desc := "()Z" } : Jvm.MethodName) prog_10_method_12_code (2 : Nat) (Option.some Jvm.ClassFile.FieldType.boolean)) ∈ xT := xT_5 28 rfl rfl
theorem tw5_29 : (Jvm.Cond.methodLink "NobodyFirstModel" (122 : Nat) ({ cls := "NobodyFirstModel", name := "byteAt", desc := "(I)I" } : Jvm.MethodName)) ∈ xT := xT_5 29 rfl rfl
theorem tw5_31 : (Jvm.Cond.instanceMethod ({ cls := "NobodyFirstModel", name := "byteAt", desc := "(I)I" } : Jvm.MethodName)) ∈ xT := xT_5 31 rfl rfl
theorem tw5_32 : (Jvm.Cond.code ({ cls := "NobodyFirstModel", name := "byteAt", desc := "(I)I" } : Jvm.MethodName) prog_10_method_7_code (2 : Nat) (Option.some Jvm.ClassFile.FieldType.int)) ∈ xT := xT_5 32 rfl rfl
theorem tw5_33 : (Jvm.Cond.methodLink "NobodyFirstModel" (141 : Nat) ({ cls := "NobodyFirstModel", name := "guestItem", desc := "()Z" } : Jvm.MethodName)) ∈ xT := xT_5 33 rfl rfl
theorem tw5_35 : (Jvm.Cond.instanceMethod ({ cls := "NobodyFirstModel", name := "guestItem", desc := "()Z" } : Jvm.MethodName)) ∈ xT := xT_5 35 rfl rfl
theorem tw5_36 : (Jvm.Cond.code ({ cls := "NobodyFirstModel", name := "guestItem", desc := "()Z" } : Jvm.MethodName) prog_10_method_10_code (2 : Nat) (Option.some Jvm.ClassFile.FieldType.boolean)) ∈ xT := xT_5 36 rfl rfl
theorem tw5_37 : (Jvm.Cond.methodLink "NobodyFirstModel" (134 : Nat) ({ cls := "NobodyFirstModel", name := "figures", desc := "(I)Z" } : Jvm.MethodName)) ∈ xT := xT_5 37 rfl rfl
theorem tw5_39 : (Jvm.Cond.instanceMethod ({ cls := "NobodyFirstModel", name := "figures", desc := "(I)Z" } : Jvm.MethodName)) ∈ xT := xT_5 39 rfl rfl
theorem tw5_40 : (Jvm.Cond.code ({ cls := "NobodyFirstModel", name := "figures", desc := "(I)Z" } : Jvm.MethodName) prog_10_method_8_code (5 : Nat) (Option.some Jvm.ClassFile.FieldType.boolean)) ∈ xT := xT_5 40 rfl rfl
theorem tw5_41 : (Jvm.Cond.constantLong "NobodyFirstModel" (126 : Nat) (48 : Int64)) ∈ xT := xT_5 41 rfl rfl
theorem tw5_42 : (Jvm.Cond.constantLong "NobodyFirstModel" (128 : Nat) (57 : Int64)) ∈ xT := xT_5 42 rfl rfl
theorem tw5_43 : (Jvm.Cond.constantLong "NobodyFirstModel" (130 : Nat) (3 : Int64)) ∈ xT := xT_5 43 rfl rfl
theorem tw5_44 : (Jvm.Cond.methodLink "NobodyFirstModel" (138 : Nat) ({ cls := "NobodyFirstModel", name := "isMinute", desc := "(I)Z" } : Jvm.MethodName)) ∈ xT := xT_5 44 rfl rfl
theorem tw5_45 : (Jvm.Cond.static ({ cls := "NobodyFirstModel", name := "isMinute", desc := "(I)Z" } : Jvm.MethodName)) ∈ xT := xT_5 45 rfl rfl
theorem tw5_46 : (Jvm.Cond.code ({ cls := "NobodyFirstModel", name := "isMinute", desc := "(I)Z" } : Jvm.MethodName) prog_10_method_9_code (1 : Nat) (Option.some Jvm.ClassFile.FieldType.boolean)) ∈ xT := xT_5 46 rfl rfl
theorem tw5_47 : (Jvm.Cond.constantLong "NobodyFirstModel" (132 : Nat) (359 : Int64)) ∈ xT := xT_5 47 rfl rfl
theorem tw5_48 : (Jvm.Cond.methodLink "NobodyFirstModel" (145 : Nat) ({ cls := "NobodyFirstModel", name := "lookItem", desc := "()Z" } : Jvm.MethodName)) ∈ xT := xT_5 48 rfl rfl
theorem tw5_50 : (Jvm.Cond.instanceMethod ({ cls := "NobodyFirstModel", name := "lookItem", desc := "()Z" } : Jvm.MethodName)) ∈ xT := xT_5 50 rfl rfl
theorem tw5_51 : (Jvm.Cond.code ({ cls := "NobodyFirstModel", name := "lookItem", desc := "()Z" } : Jvm.MethodName) prog_10_method_11_code (2 : Nat) (Option.some Jvm.ClassFile.FieldType.boolean)) ∈ xT := xT_5 51 rfl rfl
theorem tw5_52 : (Jvm.Cond.constantLong "NobodyFirstModel" (148 : Nat) (99 : Int64)) ∈ xT := xT_5 52 rfl rfl
theorem tw5_53 : (Jvm.Cond.methodLink "NobodyFirstLaw" (32 : Nat) ({ cls := "NobodyFirstModel", name := "lay", desc := "()I" } : Jvm.MethodName)) ∈ xT := xT_5 53 rfl rfl
theorem tw5_54 : (Jvm.Cond.instanceMethod ({ cls := "NobodyFirstModel", name := "lay", desc := "()I" } : Jvm.MethodName)) ∈ xT := xT_5 54 rfl rfl
theorem tw5_55 : (Jvm.Cond.selects "NobodyFirstModel" ({ cls := "NobodyFirstModel", name := "lay", desc := "()I" } : Jvm.MethodName) ({ cls := "NobodyFirstModel", name := "lay", desc := "()I" } : Jvm.MethodName)) ∈ xT := xT_5 55 rfl rfl
theorem tw5_56 : (Jvm.Cond.code ({ cls := "NobodyFirstModel", name := "lay", desc := "()I" } : Jvm.MethodName) prog_10_method_16_code (2 : Nat) (Option.some Jvm.ClassFile.FieldType.int)) ∈ xT := xT_5 56 rfl rfl
theorem tw5_57 : (Jvm.Cond.methodLink "NobodyFirstModel" (157 : Nat) ({ cls := "NobodyFirstModel", name := "copyTold", desc := "(II)V" } : Jvm.MethodName)) ∈ xT := xT_5 57 rfl rfl
theorem tw5_59 : (Jvm.Cond.instanceMethod ({ cls := "NobodyFirstModel", name := "copyTold", desc := "(II)V" } : Jvm.MethodName)) ∈ xT := xT_5 59 rfl rfl
theorem tw5_60 : (Jvm.Cond.code ({ cls := "NobodyFirstModel", name := "copyTold", desc := "(II)V" } : Jvm.MethodName) prog_10_method_15_code (4 : Nat) (Option.none : Option Jvm.ClassFile.FieldType)) ∈ xT := xT_5 60 rfl rfl
theorem tw5_61 : (Jvm.Cond.methodLink "NobodyFirstLaw" (37 : Nat) ({ cls := "NobodyFirstModel", name := "guest", desc := "(II)I" } : Jvm.MethodName)) ∈ xT := xT_5 61 rfl rfl
theorem tw5_62 : (Jvm.Cond.instanceMethod ({ cls := "NobodyFirstModel", name := "guest", desc := "(II)I" } : Jvm.MethodName)) ∈ xT := xT_5 62 rfl rfl
theorem tw5_63 : (Jvm.Cond.selects "NobodyFirstModel" ({ cls := "NobodyFirstModel", name := "guest", desc := "(II)I" } : Jvm.MethodName) ({ cls := "NobodyFirstModel", name := "guest", desc := "(II)I" } : Jvm.MethodName)) ∈ xT := xT_5 63 rfl rfl
theorem tw5_64 : (Jvm.Cond.code ({ cls := "NobodyFirstModel", name := "guest", desc := "(II)I" } : Jvm.MethodName) prog_10_method_18_code (3 : Nat) (Option.some Jvm.ClassFile.FieldType.int)) ∈ xT := xT_5 64 rfl rfl
theorem tw5_65 : (Jvm.Cond.methodLink "NobodyFirstModel" (167 : Nat) ({ cls := "NobodyFirstModel", name := "isGuest", desc := "(I)Z" } : Jvm.MethodName)) ∈ xT := xT_5 65 rfl rfl
theorem tw5_67 : (Jvm.Cond.instanceMethod ({ cls := "NobodyFirstModel", name := "isGuest", desc := "(I)Z" } : Jvm.MethodName)) ∈ xT := xT_5 67 rfl rfl
theorem tw5_68 : (Jvm.Cond.code ({ cls := "NobodyFirstModel", name := "isGuest", desc := "(I)Z" } : Jvm.MethodName) prog_10_method_17_code (2 : Nat) (Option.some Jvm.ClassFile.FieldType.boolean)) ∈ xT := xT_5 68 rfl rfl
theorem tw5_69 : (Jvm.Cond.methodLink "NobodyFirstLaw" (41 : Nat) ({ cls := "NobodyFirstModel", name := "shame", desc := "(II)I" } : Jvm.MethodName)) ∈ xT := xT_5 69 rfl rfl
theorem tw5_70 : (Jvm.Cond.instanceMethod ({ cls := "NobodyFirstModel", name := "shame", desc := "(II)I" } : Jvm.MethodName)) ∈ xT := xT_5 70 rfl rfl
theorem tw5_71 : (Jvm.Cond.selects "NobodyFirstModel" ({ cls := "NobodyFirstModel", name := "shame", desc := "(II)I" } : Jvm.MethodName) ({ cls := "NobodyFirstModel", name := "shame", desc := "(II)I" } : Jvm.MethodName)) ∈ xT := xT_5 71 rfl rfl
theorem tw5_72 : (Jvm.Cond.code ({ cls := "NobodyFirstModel", name := "shame", desc := "(II)I" } : Jvm.MethodName) prog_10_method_32_code (3 : Nat) (Option.some Jvm.ClassFile.FieldType.int)) ∈ xT := xT_5 72 rfl rfl
theorem tw5_73 : (Jvm.Cond.methodLink "NobodyFirstModel" (232 : Nat) ({ cls := "NobodyFirstModel", name := "isTime", desc := "(I)Z" } : Jvm.MethodName)) ∈ xT := xT_5 73 rfl rfl
theorem tw5_74 : (Jvm.Cond.static ({ cls := "NobodyFirstModel", name := "isTime", desc := "(I)Z" } : Jvm.MethodName)) ∈ xT := xT_5 74 rfl rfl
theorem tw5_75 : (Jvm.Cond.code ({ cls := "NobodyFirstModel", name := "isTime", desc := "(I)Z" } : Jvm.MethodName) prog_10_method_31_code (1 : Nat) (Option.some Jvm.ClassFile.FieldType.boolean)) ∈ xT := xT_5 75 rfl rfl
theorem tw5_76 : (Jvm.Cond.constantLong "NobodyFirstModel" (230 : Nat) (719 : Int64)) ∈ xT := xT_5 76 rfl rfl
theorem tw5_77 : (Jvm.Cond.methodLink "NobodyFirstModel" (235 : Nat) ({ cls := "NobodyFirstModel", name := "goAsItIs", desc := "()V" } : Jvm.MethodName)) ∈ xT := xT_5 77 rfl rfl
theorem tw5_79 : (Jvm.Cond.instanceMethod ({ cls := "NobodyFirstModel", name := "goAsItIs", desc := "()V" } : Jvm.MethodName)) ∈ xT := xT_5 79 rfl rfl
theorem tw5_80 : (Jvm.Cond.code ({ cls := "NobodyFirstModel", name := "goAsItIs", desc := "()V" } : Jvm.MethodName) prog_10_method_30_code (1 : Nat) (Option.none : Option Jvm.ClassFile.FieldType)) ∈ xT := xT_5 80 rfl rfl
theorem tw5_81 : (Jvm.Cond.methodLink "NobodyFirstModel" (224 : Nat) ({ cls := "NobodyFirstModel", name := "asItIs", desc := "()V" } : Jvm.MethodName)) ∈ xT := xT_5 81 rfl rfl
theorem tw5_83 : (Jvm.Cond.instanceMethod ({ cls := "NobodyFirstModel", name := "asItIs", desc := "()V" } : Jvm.MethodName)) ∈ xT := xT_5 83 rfl rfl
theorem tw5_84 : (Jvm.Cond.code ({ cls := "NobodyFirstModel", name := "asItIs", desc := "()V" } : Jvm.MethodName) prog_10_method_19_code (2 : Nat) (Option.none : Option Jvm.ClassFile.FieldType)) ∈ xT := xT_5 84 rfl rfl
theorem tw5_85 : (Jvm.Cond.methodLink "NobodyFirstModel" (227 : Nat) ({ cls := "NobodyFirstModel", name := "goEvening", desc := "()V" } : Jvm.MethodName)) ∈ xT := xT_5 85 rfl rfl
theorem tw5_87 : (Jvm.Cond.instanceMethod ({ cls := "NobodyFirstModel", name := "goEvening", desc := "()V" } : Jvm.MethodName)) ∈ xT := xT_5 87 rfl rfl
theorem tw5_88 : (Jvm.Cond.code ({ cls := "NobodyFirstModel", name := "goEvening", desc := "()V" } : Jvm.MethodName) prog_10_method_26_code (6 : Nat) (Option.none : Option Jvm.ClassFile.FieldType)) ∈ xT := xT_5 88 rfl rfl
theorem tw5_89 : (Jvm.Cond.constant "NobodyFirstModel" (211 : Nat) (1000000 : Int32)) ∈ xT := xT_5 89 rfl rfl
theorem tw5_90 : (Jvm.Cond.methodLink "NobodyFirstModel" (212 : Nat) ({ cls := "NobodyFirstModel", name := "standsAt", desc := "(II)Z" } : Jvm.MethodName)) ∈ xT := xT_5 90 rfl rfl
theorem tw5_92 : (Jvm.Cond.instanceMethod ({ cls := "NobodyFirstModel", name := "standsAt", desc := "(II)Z" } : Jvm.MethodName)) ∈ xT := xT_5 92 rfl rfl
theorem tw5_93 : (Jvm.Cond.code ({ cls := "NobodyFirstModel", name := "standsAt", desc := "(II)Z" } : Jvm.MethodName) prog_10_method_25_code (8 : Nat) (Option.some Jvm.ClassFile.FieldType.boolean)) ∈ xT := xT_5 93 rfl rfl
theorem tw5_94 : (Jvm.Cond.methodLink "NobodyFirstModel" (208 : Nat) ({ cls := "NobodyFirstModel", name := "doesPress", desc := "(II)Z" } : Jvm.MethodName)) ∈ xT := xT_5 94 rfl rfl
theorem tw5_96 : (Jvm.Cond.instanceMethod ({ cls := "NobodyFirstModel", name := "doesPress", desc := "(II)Z" } : Jvm.MethodName)) ∈ xT := xT_5 96 rfl rfl
theorem tw5_97 : (Jvm.Cond.code ({ cls := "NobodyFirstModel", name := "doesPress", desc := "(II)Z" } : Jvm.MethodName) prog_10_method_24_code (6 : Nat) (Option.some Jvm.ClassFile.FieldType.boolean)) ∈ xT := xT_5 97 rfl rfl
theorem tw5_98 : (Jvm.Cond.methodLink "NobodyFirstModel" (201 : Nat) ({ cls := "NobodyFirstModel", name := "isBus", desc := "(I)Z" } : Jvm.MethodName)) ∈ xT := xT_5 98 rfl rfl
theorem tw5_100 : (Jvm.Cond.instanceMethod ({ cls := "NobodyFirstModel", name := "isBus", desc := "(I)Z" } : Jvm.MethodName)) ∈ xT := xT_5 100 rfl rfl
theorem tw5_101 : (Jvm.Cond.code ({ cls := "NobodyFirstModel", name := "isBus", desc := "(I)Z" } : Jvm.MethodName) prog_10_method_23_code (2 : Nat) (Option.some Jvm.ClassFile.FieldType.boolean)) ∈ xT := xT_5 101 rfl rfl
theorem tw5_102 : (Jvm.Cond.methodLink "NobodyFirstModel" (204 : Nat) ({ cls := "NobodyFirstModel", name := "shameOf", desc := "(II)I" } : Jvm.MethodName)) ∈ xT := xT_5 102 rfl rfl
theorem tw5_104 : (Jvm.Cond.instanceMethod ({ cls := "NobodyFirstModel", name := "shameOf", desc := "(II)I" } : Jvm.MethodName)) ∈ xT := xT_5 104 rfl rfl
theorem tw5_105 : (Jvm.Cond.code ({ cls := "NobodyFirstModel", name := "shameOf", desc := "(II)I" } : Jvm.MethodName) prog_10_method_22_code (5 : Nat) (Option.some Jvm.ClassFile.FieldType.int)) ∈ xT := xT_5 105 rfl rfl
theorem tw5_106 : (Jvm.Cond.methodLink "NobodyFirstModel" (194 : Nat) ({ cls := "NobodyFirstModel", name := "counts", desc := "(II)Z" } : Jvm.MethodName)) ∈ xT := xT_5 106 rfl rfl
theorem tw5_108 : (Jvm.Cond.instanceMethod ({ cls := "NobodyFirstModel", name := "counts", desc := "(II)Z" } : Jvm.MethodName)) ∈ xT := xT_5 108 rfl rfl
theorem tw5_109 : (Jvm.Cond.code ({ cls := "NobodyFirstModel", name := "counts", desc := "(II)Z" } : Jvm.MethodName) prog_10_method_20_code (5 : Nat) (Option.some Jvm.ClassFile.FieldType.boolean)) ∈ xT := xT_5 109 rfl rfl
theorem tw5_110 : (Jvm.Cond.constantLong "NobodyFirstModel" (182 : Nat) (7919 : Int64)) ∈ xT := xT_5 110 rfl rfl
theorem tw5_111 : (Jvm.Cond.constantLong "NobodyFirstModel" (184 : Nat) (6151 : Int64)) ∈ xT := xT_5 111 rfl rfl
theorem tw5_112 : (Jvm.Cond.constantLong "NobodyFirstModel" (186 : Nat) (3571 : Int64)) ∈ xT := xT_5 112 rfl rfl
theorem tw5_113 : (Jvm.Cond.constantLong "NobodyFirstModel" (188 : Nat) (65521 : Int64)) ∈ xT := xT_5 113 rfl rfl
theorem tw5_114 : (Jvm.Cond.constantLong "NobodyFirstModel" (190 : Nat) (10 : Int64)) ∈ xT := xT_5 114 rfl rfl
theorem tw5_115 : (Jvm.Cond.constantLong "NobodyFirstModel" (192 : Nat) (6 : Int64)) ∈ xT := xT_5 115 rfl rfl
theorem tw5_116 : (Jvm.Cond.methodLink "NobodyFirstModel" (198 : Nat) ({ cls := "NobodyFirstModel", name := "stoodAhead", desc := "(I)I" } : Jvm.MethodName)) ∈ xT := xT_5 116 rfl rfl
theorem tw5_118 : (Jvm.Cond.instanceMethod ({ cls := "NobodyFirstModel", name := "stoodAhead", desc := "(I)I" } : Jvm.MethodName)) ∈ xT := xT_5 118 rfl rfl
theorem tw5_119 : (Jvm.Cond.code ({ cls := "NobodyFirstModel", name := "stoodAhead", desc := "(I)I" } : Jvm.MethodName) prog_10_method_21_code (4 : Nat) (Option.some Jvm.ClassFile.FieldType.int)) ∈ xT := xT_5 119 rfl rfl
theorem tw5_120 : (Jvm.Cond.methodLink "NobodyFirstModel" (215 : Nat) ({ cls := "NobodyFirstModel", name := "has", desc := "(II)Z" } : Jvm.MethodName)) ∈ xT := xT_5 120 rfl rfl
theorem tw5_121 : (Jvm.Cond.static ({ cls := "NobodyFirstModel", name := "has", desc := "(II)Z" } : Jvm.MethodName)) ∈ xT := xT_5 121 rfl rfl
theorem tw5_122 : (Jvm.Cond.code ({ cls := "NobodyFirstModel", name := "has", desc := "(II)Z" } : Jvm.MethodName) prog_10_method_3_code (2 : Nat) (Option.some Jvm.ClassFile.FieldType.boolean)) ∈ xT := xT_5 122 rfl rfl
theorem tw5_123 : (Jvm.Cond.methodLink "NobodyFirstLaw" (45 : Nat) ({ cls := "NobodyFirstModel", name := "presses", desc := "(II)I" } : Jvm.MethodName)) ∈ xT := xT_5 123 rfl rfl
theorem tw5_124 : (Jvm.Cond.instanceMethod ({ cls := "NobodyFirstModel", name := "presses", desc := "(II)I" } : Jvm.MethodName)) ∈ xT := xT_5 124 rfl rfl
theorem tw5_125 : (Jvm.Cond.selects "NobodyFirstModel" ({ cls := "NobodyFirstModel", name := "presses", desc := "(II)I" } : Jvm.MethodName) ({ cls := "NobodyFirstModel", name := "presses", desc := "(II)I" } : Jvm.MethodName)) ∈ xT := xT_5 125 rfl rfl
theorem tw5_126 : (Jvm.Cond.code ({ cls := "NobodyFirstModel", name := "presses", desc := "(II)I" } : Jvm.MethodName) prog_10_method_33_code (3 : Nat) (Option.some Jvm.ClassFile.FieldType.int)) ∈ xT := xT_5 126 rfl rfl
theorem tw5_127 : (Jvm.Cond.methodLink "NobodyFirstLaw" (49 : Nat) ({ cls := "NobodyFirstModel", name := "is", desc := "(II)I" } : Jvm.MethodName)) ∈ xT := xT_5 127 rfl rfl
theorem tw5_128 : (Jvm.Cond.instanceMethod ({ cls := "NobodyFirstModel", name := "is", desc := "(II)I" } : Jvm.MethodName)) ∈ xT := xT_5 128 rfl rfl
theorem tw5_129 : (Jvm.Cond.selects "NobodyFirstModel" ({ cls := "NobodyFirstModel", name := "is", desc := "(II)I" } : Jvm.MethodName) ({ cls := "NobodyFirstModel", name := "is", desc := "(II)I" } : Jvm.MethodName)) ∈ xT := xT_5 129 rfl rfl
theorem tw5_130 : (Jvm.Cond.code ({ cls := "NobodyFirstModel", name := "is", desc := "(II)I" } : Jvm.MethodName) prog_10_method_34_code (3 : Nat) (Option.some Jvm.ClassFile.FieldType.int)) ∈ xT := xT_5 130 rfl rfl
theorem tw5_131 : (Jvm.Cond.constantLong "NobodyFirstModel" (238 : Nat) (999 : Int64)) ∈ xT := xT_5 131 rfl rfl
theorem tw5_132 : (Jvm.Cond.methodLink "NobodyFirstLaw" (53 : Nat) ({ cls := "NobodyFirstModel", name := "when", desc := "(II)I" } : Jvm.MethodName)) ∈ xT := xT_5 132 rfl rfl
theorem tw5_133 : (Jvm.Cond.instanceMethod ({ cls := "NobodyFirstModel", name := "when", desc := "(II)I" } : Jvm.MethodName)) ∈ xT := xT_5 133 rfl rfl
theorem tw5_134 : (Jvm.Cond.selects "NobodyFirstModel" ({ cls := "NobodyFirstModel", name := "when", desc := "(II)I" } : Jvm.MethodName) ({ cls := "NobodyFirstModel", name := "when", desc := "(II)I" } : Jvm.MethodName)) ∈ xT := xT_5 134 rfl rfl
theorem tw5_135 : (Jvm.Cond.code ({ cls := "NobodyFirstModel", name := "when", desc := "(II)I" } : Jvm.MethodName) prog_10_method_35_code (3 : Nat) (Option.some Jvm.ClassFile.FieldType.int)) ∈ xT := xT_5 135 rfl rfl
theorem tw5_136 : (Jvm.Cond.methodLink "NobodyFirstLaw" (58 : Nat) ({ cls := "NobodyFirstModel", name := "wasted", desc := "(I)I" } : Jvm.MethodName)) ∈ xT := xT_5 136 rfl rfl
theorem tw5_137 : (Jvm.Cond.instanceMethod ({ cls := "NobodyFirstModel", name := "wasted", desc := "(I)I" } : Jvm.MethodName)) ∈ xT := xT_5 137 rfl rfl
theorem tw5_138 : (Jvm.Cond.selects "NobodyFirstModel" ({ cls := "NobodyFirstModel", name := "wasted", desc := "(I)I" } : Jvm.MethodName) ({ cls := "NobodyFirstModel", name := "wasted", desc := "(I)I" } : Jvm.MethodName)) ∈ xT := xT_5 138 rfl rfl
theorem tw5_139 : (Jvm.Cond.code ({ cls := "NobodyFirstModel", name := "wasted", desc := "(I)I" } : Jvm.MethodName) prog_10_method_36_code (2 : Nat) (Option.some Jvm.ClassFile.FieldType.int)) ∈ xT := xT_5 139 rfl rfl
theorem tw5_140 : (Jvm.Cond.methodLink "NobodyFirstModel" (240 : Nat) ({ cls := "NobodyFirstModel", name := "allWasted", desc := "()I" } : Jvm.MethodName)) ∈ xT := xT_5 140 rfl rfl
theorem tw5_142 : (Jvm.Cond.instanceMethod ({ cls := "NobodyFirstModel", name := "allWasted", desc := "()I" } : Jvm.MethodName)) ∈ xT := xT_5 142 rfl rfl
theorem tw5_143 : (Jvm.Cond.code ({ cls := "NobodyFirstModel", name := "allWasted", desc := "()I" } : Jvm.MethodName) prog_10_method_29_code (3 : Nat) (Option.some Jvm.ClassFile.FieldType.int)) ∈ xT := xT_5 143 rfl rfl
theorem tw5_144 : (Jvm.Cond.methodLink "NobodyFirstModel" (218 : Nat) ({ cls := "NobodyFirstModel", name := "lastOf", desc := "()I" } : Jvm.MethodName)) ∈ xT := xT_5 144 rfl rfl
theorem tw5_146 : (Jvm.Cond.instanceMethod ({ cls := "NobodyFirstModel", name := "lastOf", desc := "()I" } : Jvm.MethodName)) ∈ xT := xT_5 146 rfl rfl
theorem tw5_147 : (Jvm.Cond.code ({ cls := "NobodyFirstModel", name := "lastOf", desc := "()I" } : Jvm.MethodName) prog_10_method_27_code (3 : Nat) (Option.some Jvm.ClassFile.FieldType.int)) ∈ xT := xT_5 147 rfl rfl
theorem tw5_148 : (Jvm.Cond.methodLink "NobodyFirstModel" (221 : Nat) ({ cls := "NobodyFirstModel", name := "away", desc := "(II)I" } : Jvm.MethodName)) ∈ xT := xT_5 148 rfl rfl
theorem tw5_149 : (Jvm.Cond.static ({ cls := "NobodyFirstModel", name := "away", desc := "(II)I" } : Jvm.MethodName)) ∈ xT := xT_5 149 rfl rfl
theorem tw5_150 : (Jvm.Cond.code ({ cls := "NobodyFirstModel", name := "away", desc := "(II)I" } : Jvm.MethodName) prog_10_method_28_code (2 : Nat) (Option.some Jvm.ClassFile.FieldType.int)) ∈ xT := xT_5 150 rfl rfl
theorem tw5_151 : (Jvm.Cond.methodLink "NobodyFirstLaw" (62 : Nat) ({ cls := "NobodyFirstModel", name := "frees", desc := "(II)I" } : Jvm.MethodName)) ∈ xT := xT_5 151 rfl rfl
theorem tw5_152 : (Jvm.Cond.instanceMethod ({ cls := "NobodyFirstModel", name := "frees", desc := "(II)I" } : Jvm.MethodName)) ∈ xT := xT_5 152 rfl rfl
theorem tw5_153 : (Jvm.Cond.selects "NobodyFirstModel" ({ cls := "NobodyFirstModel", name := "frees", desc := "(II)I" } : Jvm.MethodName) ({ cls := "NobodyFirstModel", name := "frees", desc := "(II)I" } : Jvm.MethodName)) ∈ xT := xT_5 153 rfl rfl
theorem tw5_154 : (Jvm.Cond.code ({ cls := "NobodyFirstModel", name := "frees", desc := "(II)I" } : Jvm.MethodName) prog_10_method_38_code (3 : Nat) (Option.some Jvm.ClassFile.FieldType.int)) ∈ xT := xT_5 154 rfl rfl
theorem tw5_155 : (Jvm.Cond.constant "NobodyFirstModel" (243 : Nat) (100000 : Int32)) ∈ xT := xT_5 155 rfl rfl
theorem tw5_156 : (Jvm.Cond.methodLink "NobodyFirstModel" (244 : Nat) ({ cls := "NobodyFirstModel", name := "freesOf", desc := "(II)I" } : Jvm.MethodName)) ∈ xT := xT_5 156 rfl rfl
theorem tw5_158 : (Jvm.Cond.instanceMethod ({ cls := "NobodyFirstModel", name := "freesOf", desc := "(II)I" } : Jvm.MethodName)) ∈ xT := xT_5 158 rfl rfl
theorem tw5_159 : (Jvm.Cond.code ({ cls := "NobodyFirstModel", name := "freesOf", desc := "(II)I" } : Jvm.MethodName) prog_10_method_37_code (4 : Nat) (Option.some Jvm.ClassFile.FieldType.int)) ∈ xT := xT_5 159 rfl rfl
theorem tw5_160 : (Jvm.Cond.methodLink "NobodyFirstLaw" (66 : Nat) ({ cls := "NobodyFirstModel", name := "madeUp", desc := "(II)I" } : Jvm.MethodName)) ∈ xT := xT_5 160 rfl rfl
theorem tw5_161 : (Jvm.Cond.instanceMethod ({ cls := "NobodyFirstModel", name := "madeUp", desc := "(II)I" } : Jvm.MethodName)) ∈ xT := xT_5 161 rfl rfl
theorem tw5_162 : (Jvm.Cond.selects "NobodyFirstModel" ({ cls := "NobodyFirstModel", name := "madeUp", desc := "(II)I" } : Jvm.MethodName) ({ cls := "NobodyFirstModel", name := "madeUp", desc := "(II)I" } : Jvm.MethodName)) ∈ xT := xT_5 162 rfl rfl
theorem tw5_163 : (Jvm.Cond.code ({ cls := "NobodyFirstModel", name := "madeUp", desc := "(II)I" } : Jvm.MethodName) prog_10_method_39_code (7 : Nat) (Option.some Jvm.ClassFile.FieldType.int)) ∈ xT := xT_5 163 rfl rfl
theorem tw5_164 : (Jvm.Cond.methodLink "NobodyFirstLaw" (70 : Nat) ({ cls := "NobodyFirstModel", name := "bell", desc := "(I)I" } : Jvm.MethodName)) ∈ xT := xT_5 164 rfl rfl
theorem tw5_165 : (Jvm.Cond.instanceMethod ({ cls := "NobodyFirstModel", name := "bell", desc := "(I)I" } : Jvm.MethodName)) ∈ xT := xT_5 165 rfl rfl
theorem tw5_166 : (Jvm.Cond.selects "NobodyFirstModel" ({ cls := "NobodyFirstModel", name := "bell", desc := "(I)I" } : Jvm.MethodName) ({ cls := "NobodyFirstModel", name := "bell", desc := "(I)I" } : Jvm.MethodName)) ∈ xT := xT_5 166 rfl rfl
theorem tw5_167 : (Jvm.Cond.code ({ cls := "NobodyFirstModel", name := "bell", desc := "(I)I" } : Jvm.MethodName) prog_10_method_41_code (2 : Nat) (Option.some Jvm.ClassFile.FieldType.int)) ∈ xT := xT_5 167 rfl rfl
theorem tw5_168 : (Jvm.Cond.methodLink "NobodyFirstModel" (247 : Nat) ({ cls := "NobodyFirstModel", name := "bellOf", desc := "(I)I" } : Jvm.MethodName)) ∈ xT := xT_5 168 rfl rfl
theorem tw5_170 : (Jvm.Cond.instanceMethod ({ cls := "NobodyFirstModel", name := "bellOf", desc := "(I)I" } : Jvm.MethodName)) ∈ xT := xT_5 170 rfl rfl
theorem tw5_171 : (Jvm.Cond.code ({ cls := "NobodyFirstModel", name := "bellOf", desc := "(I)I" } : Jvm.MethodName) prog_10_method_40_code (2 : Nat) (Option.some Jvm.ClassFile.FieldType.int)) ∈ xT := xT_5 171 rfl rfl
theorem tw5_172 : (Jvm.Cond.methodLink "NobodyFirstLaw" (74 : Nat) ({ cls := "NobodyFirstModel", name := "best", desc := "(I)I" } : Jvm.MethodName)) ∈ xT := xT_5 172 rfl rfl
theorem tw5_173 : (Jvm.Cond.instanceMethod ({ cls := "NobodyFirstModel", name := "best", desc := "(I)I" } : Jvm.MethodName)) ∈ xT := xT_5 173 rfl rfl
theorem tw5_174 : (Jvm.Cond.selects "NobodyFirstModel" ({ cls := "NobodyFirstModel", name := "best", desc := "(I)I" } : Jvm.MethodName) ({ cls := "NobodyFirstModel", name := "best", desc := "(I)I" } : Jvm.MethodName)) ∈ xT := xT_5 174 rfl rfl
theorem tw5_175 : (Jvm.Cond.code ({ cls := "NobodyFirstModel", name := "best", desc := "(I)I" } : Jvm.MethodName) prog_10_method_42_code (6 : Nat) (Option.some Jvm.ClassFile.FieldType.int)) ∈ xT := xT_5 175 rfl rfl
theorem tw5_176 : (Jvm.Cond.methodLink "NobodyFirstLaw" (78 : Nat) ({ cls := "NobodyFirstModel", name := "given", desc := "(I)I" } : Jvm.MethodName)) ∈ xT := xT_5 176 rfl rfl
theorem tw5_177 : (Jvm.Cond.instanceMethod ({ cls := "NobodyFirstModel", name := "given", desc := "(I)I" } : Jvm.MethodName)) ∈ xT := xT_5 177 rfl rfl
theorem tw5_178 : (Jvm.Cond.selects "NobodyFirstModel" ({ cls := "NobodyFirstModel", name := "given", desc := "(I)I" } : Jvm.MethodName) ({ cls := "NobodyFirstModel", name := "given", desc := "(I)I" } : Jvm.MethodName)) ∈ xT := xT_5 178 rfl rfl
theorem tw5_179 : (Jvm.Cond.code ({ cls := "NobodyFirstModel", name := "given", desc := "(I)I" } : Jvm.MethodName) prog_10_method_44_code (7 : Nat) (Option.some Jvm.ClassFile.FieldType.int)) ∈ xT := xT_5 179 rfl rfl
theorem tw5_180 : (Jvm.Cond.constantLong "NobodyFirstModel" (250 : Nat) (-1 : Int64)) ∈ xT := xT_5 180 rfl rfl
theorem tw5_181 : (Jvm.Cond.methodLink "NobodyFirstModel" (252 : Nat) ({ cls := "NobodyFirstModel", name := "givenBy", desc := "(I)I" } : Jvm.MethodName)) ∈ xT := xT_5 181 rfl rfl
theorem tw5_183 : (Jvm.Cond.instanceMethod ({ cls := "NobodyFirstModel", name := "givenBy", desc := "(I)I" } : Jvm.MethodName)) ∈ xT := xT_5 183 rfl rfl
theorem tw5_184 : (Jvm.Cond.code ({ cls := "NobodyFirstModel", name := "givenBy", desc := "(I)I" } : Jvm.MethodName) prog_10_method_43_code (5 : Nat) (Option.some Jvm.ClassFile.FieldType.int)) ∈ xT := xT_5 184 rfl rfl
theorem tw5_185 : (Jvm.Cond.methodLink "NobodyFirstLaw" (82 : Nat) ({ cls := "NobodyFirstModel", name := "cost", desc := "(II)I" } : Jvm.MethodName)) ∈ xT := xT_5 185 rfl rfl
theorem tw5_186 : (Jvm.Cond.instanceMethod ({ cls := "NobodyFirstModel", name := "cost", desc := "(II)I" } : Jvm.MethodName)) ∈ xT := xT_5 186 rfl rfl
theorem tw5_187 : (Jvm.Cond.selects "NobodyFirstModel" ({ cls := "NobodyFirstModel", name := "cost", desc := "(II)I" } : Jvm.MethodName) ({ cls := "NobodyFirstModel", name := "cost", desc := "(II)I" } : Jvm.MethodName)) ∈ xT := xT_5 187 rfl rfl
theorem tw5_188 : (Jvm.Cond.code ({ cls := "NobodyFirstModel", name := "cost", desc := "(II)I" } : Jvm.MethodName) prog_10_method_47_code (6 : Nat) (Option.some Jvm.ClassFile.FieldType.int)) ∈ xT := xT_5 188 rfl rfl
theorem tw5_189 : (Jvm.Cond.methodLink "NobodyFirstModel" (258 : Nat) ({ cls := "NobodyFirstModel", name := "layGame", desc := "()V" } : Jvm.MethodName)) ∈ xT := xT_5 189 rfl rfl
theorem tw5_191 : (Jvm.Cond.instanceMethod ({ cls := "NobodyFirstModel", name := "layGame", desc := "()V" } : Jvm.MethodName)) ∈ xT := xT_5 191 rfl rfl
theorem tw5_192 : (Jvm.Cond.code ({ cls := "NobodyFirstModel", name := "layGame", desc := "()V" } : Jvm.MethodName) prog_10_method_45_code (5 : Nat) (Option.none : Option Jvm.ClassFile.FieldType)) ∈ xT := xT_5 192 rfl rfl
theorem tw5_193 : (Jvm.Cond.constantLong "NobodyFirstModel" (261 : Nat) (99999 : Int64)) ∈ xT := xT_5 193 rfl rfl
theorem tw5_194 : (Jvm.Cond.methodLink "NobodyFirstModel" (263 : Nat) ({ cls := "NobodyFirstModel", name := "costOf", desc := "(I)I" } : Jvm.MethodName)) ∈ xT := xT_5 194 rfl rfl
theorem tw5_196 : (Jvm.Cond.instanceMethod ({ cls := "NobodyFirstModel", name := "costOf", desc := "(I)I" } : Jvm.MethodName)) ∈ xT := xT_5 196 rfl rfl
theorem tw5_197 : (Jvm.Cond.code ({ cls := "NobodyFirstModel", name := "costOf", desc := "(I)I" } : Jvm.MethodName) prog_10_method_46_code (4 : Nat) (Option.some Jvm.ClassFile.FieldType.int)) ∈ xT := xT_5 197 rfl rfl
theorem tw5_198 : (Jvm.Cond.methodLink "NobodyFirstLaw" (86 : Nat) ({ cls := "NobodyFirstModel", name := "rests", desc := "(I)I" } : Jvm.MethodName)) ∈ xT := xT_5 198 rfl rfl
theorem tw5_199 : (Jvm.Cond.instanceMethod ({ cls := "NobodyFirstModel", name := "rests", desc := "(I)I" } : Jvm.MethodName)) ∈ xT := xT_5 199 rfl rfl
theorem tw5_200 : (Jvm.Cond.selects "NobodyFirstModel" ({ cls := "NobodyFirstModel", name := "rests", desc := "(I)I" } : Jvm.MethodName) ({ cls := "NobodyFirstModel", name := "rests", desc := "(I)I" } : Jvm.MethodName)) ∈ xT := xT_5 200 rfl rfl
theorem tw5_201 : (Jvm.Cond.code ({ cls := "NobodyFirstModel", name := "rests", desc := "(I)I" } : Jvm.MethodName) prog_10_method_52_code (4 : Nat) (Option.some Jvm.ClassFile.FieldType.int)) ∈ xT := xT_5 201 rfl rfl
theorem tw5_202 : (Jvm.Cond.methodLink "NobodyFirstModel" (266 : Nat) ({ cls := "NobodyFirstModel", name := "codesOf", desc := "()I" } : Jvm.MethodName)) ∈ xT := xT_5 202 rfl rfl
theorem tw5_204 : (Jvm.Cond.instanceMethod ({ cls := "NobodyFirstModel", name := "codesOf", desc := "()I" } : Jvm.MethodName)) ∈ xT := xT_5 204 rfl rfl
theorem tw5_205 : (Jvm.Cond.code ({ cls := "NobodyFirstModel", name := "codesOf", desc := "()I" } : Jvm.MethodName) prog_10_method_51_code (3 : Nat) (Option.some Jvm.ClassFile.FieldType.int)) ∈ xT := xT_5 205 rfl rfl
theorem tw5_206 : (Jvm.Cond.methodLink "NobodyFirstModel" (269 : Nat) ({ cls := "NobodyFirstModel", name := "takeSlots", desc := "(I)V" } : Jvm.MethodName)) ∈ xT := xT_5 206 rfl rfl
theorem tw5_208 : (Jvm.Cond.instanceMethod ({ cls := "NobodyFirstModel", name := "takeSlots", desc := "(I)V" } : Jvm.MethodName)) ∈ xT := xT_5 208 rfl rfl
theorem tw5_209 : (Jvm.Cond.code ({ cls := "NobodyFirstModel", name := "takeSlots", desc := "(I)V" } : Jvm.MethodName) prog_10_method_48_code (4 : Nat) (Option.none : Option Jvm.ClassFile.FieldType)) ∈ xT := xT_5 209 rfl rfl
theorem tw5_210 : (Jvm.Cond.methodLink "NobodyFirstModel" (272 : Nat) ({ cls := "NobodyFirstModel", name := "isRest", desc := "()Z" } : Jvm.MethodName)) ∈ xT := xT_5 210 rfl rfl
theorem tw5_212 : (Jvm.Cond.instanceMethod ({ cls := "NobodyFirstModel", name := "isRest", desc := "()Z" } : Jvm.MethodName)) ∈ xT := xT_5 212 rfl rfl
theorem tw5_213 : (Jvm.Cond.code ({ cls := "NobodyFirstModel", name := "isRest", desc := "()Z" } : Jvm.MethodName) prog_10_method_49_code (6 : Nat) (Option.some Jvm.ClassFile.FieldType.boolean)) ∈ xT := xT_5 213 rfl rfl
theorem tw5_214 : (Jvm.Cond.methodLink "NobodyFirstLaw" (90 : Nat) ({ cls := "NobodyFirstModel", name := "price", desc := "()I" } : Jvm.MethodName)) ∈ xT := xT_5 214 rfl rfl
theorem tw5_215 : (Jvm.Cond.instanceMethod ({ cls := "NobodyFirstModel", name := "price", desc := "()I" } : Jvm.MethodName)) ∈ xT := xT_5 215 rfl rfl
theorem tw5_216 : (Jvm.Cond.selects "NobodyFirstModel" ({ cls := "NobodyFirstModel", name := "price", desc := "()I" } : Jvm.MethodName) ({ cls := "NobodyFirstModel", name := "price", desc := "()I" } : Jvm.MethodName)) ∈ xT := xT_5 216 rfl rfl
theorem tw5_217 : (Jvm.Cond.code ({ cls := "NobodyFirstModel", name := "price", desc := "()I" } : Jvm.MethodName) prog_10_method_53_code (5 : Nat) (Option.some Jvm.ClassFile.FieldType.int)) ∈ xT := xT_5 217 rfl rfl
theorem tw5_218 : (Jvm.Cond.methodLink "NobodyFirstModel" (275 : Nat) ({ cls := "NobodyFirstModel", name := "sumOfCosts", desc := "()I" } : Jvm.MethodName)) ∈ xT := xT_5 218 rfl rfl
theorem tw5_220 : (Jvm.Cond.instanceMethod ({ cls := "NobodyFirstModel", name := "sumOfCosts", desc := "()I" } : Jvm.MethodName)) ∈ xT := xT_5 220 rfl rfl
theorem tw5_221 : (Jvm.Cond.code ({ cls := "NobodyFirstModel", name := "sumOfCosts", desc := "()I" } : Jvm.MethodName) prog_10_method_50_code (3 : Nat) (Option.some Jvm.ClassFile.FieldType.int)) ∈ xT := xT_5 221 rfl rfl
theorem tw5_222 : (Jvm.Cond.methodLink "NobodyFirstLaw" (94 : Nat) ({ cls := "NobodyFirstModel", name := "meant", desc := "(II)I" } : Jvm.MethodName)) ∈ xT := xT_5 222 rfl rfl
theorem tw5_223 : (Jvm.Cond.instanceMethod ({ cls := "NobodyFirstModel", name := "meant", desc := "(II)I" } : Jvm.MethodName)) ∈ xT := xT_5 223 rfl rfl
theorem tw5_224 : (Jvm.Cond.selects "NobodyFirstModel" ({ cls := "NobodyFirstModel", name := "meant", desc := "(II)I" } : Jvm.MethodName) ({ cls := "NobodyFirstModel", name := "meant", desc := "(II)I" } : Jvm.MethodName)) ∈ xT := xT_5 224 rfl rfl
theorem tw5_225 : (Jvm.Cond.code ({ cls := "NobodyFirstModel", name := "meant", desc := "(II)I" } : Jvm.MethodName) prog_10_method_55_code (4 : Nat) (Option.some Jvm.ClassFile.FieldType.int)) ∈ xT := xT_5 225 rfl rfl
theorem tw5_226 : (Jvm.Cond.methodLink "NobodyFirstModel" (278 : Nat) ({ cls := "NobodyFirstModel", name := "lowest", desc := "(JJI)J" } : Jvm.MethodName)) ∈ xT := xT_5 226 rfl rfl
theorem tw5_227 : (Jvm.Cond.static ({ cls := "NobodyFirstModel", name := "lowest", desc := "(JJI)J" } : Jvm.MethodName)) ∈ xT := xT_5 227 rfl rfl
theorem tw5_228 : (Jvm.Cond.code ({ cls := "NobodyFirstModel", name := "lowest", desc := "(JJI)J" } : Jvm.MethodName) prog_10_method_54_code (11 : Nat) (Option.some Jvm.ClassFile.FieldType.long)) ∈ xT := xT_5 228 rfl rfl
theorem tw5_229 : (Jvm.Cond.methodLink "NobodyFirstLaw" (99 : Nat) ({ cls := "NobodyFirstModel", name := "since", desc := "(III)I" } : Jvm.MethodName)) ∈ xT := xT_5 229 rfl rfl
theorem tw5_230 : (Jvm.Cond.instanceMethod ({ cls := "NobodyFirstModel", name := "since", desc := "(III)I" } : Jvm.MethodName)) ∈ xT := xT_5 230 rfl rfl
theorem tw5_231 : (Jvm.Cond.selects "NobodyFirstModel" ({ cls := "NobodyFirstModel", name := "since", desc := "(III)I" } : Jvm.MethodName) ({ cls := "NobodyFirstModel", name := "since", desc := "(III)I" } : Jvm.MethodName)) ∈ xT := xT_5 231 rfl rfl
theorem tw5_232 : (Jvm.Cond.code ({ cls := "NobodyFirstModel", name := "since", desc := "(III)I" } : Jvm.MethodName) prog_10_method_57_code (7 : Nat) (Option.some Jvm.ClassFile.FieldType.int)) ∈ xT := xT_5 232 rfl rfl
theorem tw5_233 : (Jvm.Cond.constantLong "NobodyFirstModel" (284 : Nat) (11 : Int64)) ∈ xT := xT_5 233 rfl rfl
theorem tw5_234 : (Jvm.Cond.methodLink "NobodyFirstModel" (286 : Nat) ({ cls := "NobodyFirstModel", name := "sinceOf", desc := "(II)J" } : Jvm.MethodName)) ∈ xT := xT_5 234 rfl rfl
theorem tw5_236 : (Jvm.Cond.instanceMethod ({ cls := "NobodyFirstModel", name := "sinceOf", desc := "(II)J" } : Jvm.MethodName)) ∈ xT := xT_5 236 rfl rfl
theorem tw5_237 : (Jvm.Cond.code ({ cls := "NobodyFirstModel", name := "sinceOf", desc := "(II)J" } : Jvm.MethodName) prog_10_method_56_code (7 : Nat) (Option.some Jvm.ClassFile.FieldType.long)) ∈ xT := xT_5 237 rfl rfl
theorem tw5_238 : (Jvm.Cond.constantLong "NobodyFirstModel" (282 : Nat) (7 : Int64)) ∈ xT := xT_5 238 rfl rfl
theorem tw5_239 : (Jvm.Cond.methodLink "NobodyFirstLaw" (103 : Nat) ({ cls := "NobodyFirstModel", name := "leave", desc := "(III)I" } : Jvm.MethodName)) ∈ xT := xT_5 239 rfl rfl
theorem tw6_0 : (Jvm.Cond.instanceMethod ({ cls := "NobodyFirstModel", name := "leave", desc := "(III)I" } : Jvm.MethodName)) ∈ xT := xT_6 0 rfl rfl
theorem tw6_1 : (Jvm.Cond.selects "NobodyFirstModel" ({ cls := "NobodyFirstModel", name := "leave", desc := "(III)I" } : Jvm.MethodName) ({ cls := "NobodyFirstModel", name := "leave", desc := "(III)I" } : Jvm.MethodName)) ∈ xT := xT_6 1 rfl rfl
theorem tw6_2 : (Jvm.Cond.code ({ cls := "NobodyFirstModel", name := "leave", desc := "(III)I" } : Jvm.MethodName) prog_10_method_59_code (5 : Nat) (Option.some Jvm.ClassFile.FieldType.int)) ∈ xT := xT_6 2 rfl rfl
theorem tw6_3 : (Jvm.Cond.constantLong "NobodyFirstModel" (290 : Nat) (2 : Int64)) ∈ xT := xT_6 3 rfl rfl
theorem tw6_4 : (Jvm.Cond.constantLong "NobodyFirstModel" (292 : Nat) (20 : Int64)) ∈ xT := xT_6 4 rfl rfl
theorem tw6_5 : (Jvm.Cond.methodLink "NobodyFirstModel" (294 : Nat) ({ cls := "NobodyFirstModel", name := "around", desc := "(II)I" } : Jvm.MethodName)) ∈ xT := xT_6 5 rfl rfl
theorem tw6_6 : (Jvm.Cond.static ({ cls := "NobodyFirstModel", name := "around", desc := "(II)I" } : Jvm.MethodName)) ∈ xT := xT_6 6 rfl rfl
theorem tw6_7 : (Jvm.Cond.code ({ cls := "NobodyFirstModel", name := "around", desc := "(II)I" } : Jvm.MethodName) prog_10_method_58_code (2 : Nat) (Option.some Jvm.ClassFile.FieldType.int)) ∈ xT := xT_6 7 rfl rfl
theorem tw6_8 : (Jvm.Cond.methodLink "NobodyFirstLaw" (107 : Nat) ({ cls := "NobodyFirstModel", name := "drawn", desc := "(II)I" } : Jvm.MethodName)) ∈ xT := xT_6 8 rfl rfl
theorem tw6_9 : (Jvm.Cond.instanceMethod ({ cls := "NobodyFirstModel", name := "drawn", desc := "(II)I" } : Jvm.MethodName)) ∈ xT := xT_6 9 rfl rfl
theorem tw6_10 : (Jvm.Cond.selects "NobodyFirstModel" ({ cls := "NobodyFirstModel", name := "drawn", desc := "(II)I" } : Jvm.MethodName) ({ cls := "NobodyFirstModel", name := "drawn", desc := "(II)I" } : Jvm.MethodName)) ∈ xT := xT_6 10 rfl rfl
theorem tw6_11 : (Jvm.Cond.code ({ cls := "NobodyFirstModel", name := "drawn", desc := "(II)I" } : Jvm.MethodName) prog_10_method_60_code (3 : Nat) (Option.some Jvm.ClassFile.FieldType.int)) ∈ xT := xT_6 11 rfl rfl
theorem tw6_12 : (Jvm.Cond.constantLong "NobodyFirstModel" (297 : Nat) (9999 : Int64)) ∈ xT := xT_6 12 rfl rfl
theorem tw6_13 : (Jvm.Cond.methodLink "NobodyFirstLaw" (111 : Nat) ({ cls := "NobodyFirstModel", name := "sign", desc := "(II)I" } : Jvm.MethodName)) ∈ xT := xT_6 13 rfl rfl
theorem tw6_14 : (Jvm.Cond.instanceMethod ({ cls := "NobodyFirstModel", name := "sign", desc := "(II)I" } : Jvm.MethodName)) ∈ xT := xT_6 14 rfl rfl
theorem tw6_15 : (Jvm.Cond.selects "NobodyFirstModel" ({ cls := "NobodyFirstModel", name := "sign", desc := "(II)I" } : Jvm.MethodName) ({ cls := "NobodyFirstModel", name := "sign", desc := "(II)I" } : Jvm.MethodName)) ∈ xT := xT_6 15 rfl rfl
theorem tw6_16 : (Jvm.Cond.code ({ cls := "NobodyFirstModel", name := "sign", desc := "(II)I" } : Jvm.MethodName) prog_10_method_62_code (3 : Nat) (Option.some Jvm.ClassFile.FieldType.int)) ∈ xT := xT_6 16 rfl rfl
theorem tw6_17 : (Jvm.Cond.methodLink "NobodyFirstModel" (299 : Nat) ({ cls := "NobodyFirstModel", name := "note", desc := "(I)V" } : Jvm.MethodName)) ∈ xT := xT_6 17 rfl rfl
theorem tw6_19 : (Jvm.Cond.instanceMethod ({ cls := "NobodyFirstModel", name := "note", desc := "(I)V" } : Jvm.MethodName)) ∈ xT := xT_6 19 rfl rfl
theorem tw6_20 : (Jvm.Cond.code ({ cls := "NobodyFirstModel", name := "note", desc := "(I)V" } : Jvm.MethodName) prog_10_method_61_code (3 : Nat) (Option.none : Option Jvm.ClassFile.FieldType)) ∈ xT := xT_6 20 rfl rfl
theorem tw6_21 : (Jvm.Cond.methodLink "NobodyFirstLaw" (115 : Nat) ({ cls := "NobodyFirstModel", name := "say", desc := "(I)I" } : Jvm.MethodName)) ∈ xT := xT_6 21 rfl rfl
theorem tw6_22 : (Jvm.Cond.instanceMethod ({ cls := "NobodyFirstModel", name := "say", desc := "(I)I" } : Jvm.MethodName)) ∈ xT := xT_6 22 rfl rfl
theorem tw6_23 : (Jvm.Cond.selects "NobodyFirstModel" ({ cls := "NobodyFirstModel", name := "say", desc := "(I)I" } : Jvm.MethodName) ({ cls := "NobodyFirstModel", name := "say", desc := "(I)I" } : Jvm.MethodName)) ∈ xT := xT_6 23 rfl rfl
theorem tw6_24 : (Jvm.Cond.code ({ cls := "NobodyFirstModel", name := "say", desc := "(I)I" } : Jvm.MethodName) prog_10_method_63_code (2 : Nat) (Option.some Jvm.ClassFile.FieldType.int)) ∈ xT := xT_6 24 rfl rfl
theorem tw6_25 : (Jvm.Cond.methodLink "NobodyFirstLaw" (119 : Nat) ({ cls := "NobodyFirstModel", name := "takeBack", desc := "()I" } : Jvm.MethodName)) ∈ xT := xT_6 25 rfl rfl
theorem tw6_26 : (Jvm.Cond.instanceMethod ({ cls := "NobodyFirstModel", name := "takeBack", desc := "()I" } : Jvm.MethodName)) ∈ xT := xT_6 26 rfl rfl
theorem tw6_27 : (Jvm.Cond.selects "NobodyFirstModel" ({ cls := "NobodyFirstModel", name := "takeBack", desc := "()I" } : Jvm.MethodName) ({ cls := "NobodyFirstModel", name := "takeBack", desc := "()I" } : Jvm.MethodName)) ∈ xT := xT_6 27 rfl rfl
theorem tw6_28 : (Jvm.Cond.code ({ cls := "NobodyFirstModel", name := "takeBack", desc := "()I" } : Jvm.MethodName) prog_10_method_64_code (1 : Nat) (Option.some Jvm.ClassFile.FieldType.int)) ∈ xT := xT_6 28 rfl rfl
theorem tw6_29 : (Jvm.Cond.methodLink "NobodyFirstLaw" (123 : Nat) ({ cls := "NobodyFirstModel", name := "keep", desc := "()I" } : Jvm.MethodName)) ∈ xT := xT_6 29 rfl rfl
theorem tw6_30 : (Jvm.Cond.instanceMethod ({ cls := "NobodyFirstModel", name := "keep", desc := "()I" } : Jvm.MethodName)) ∈ xT := xT_6 30 rfl rfl
theorem tw6_31 : (Jvm.Cond.selects "NobodyFirstModel" ({ cls := "NobodyFirstModel", name := "keep", desc := "()I" } : Jvm.MethodName) ({ cls := "NobodyFirstModel", name := "keep", desc := "()I" } : Jvm.MethodName)) ∈ xT := xT_6 31 rfl rfl
theorem tw6_32 : (Jvm.Cond.code ({ cls := "NobodyFirstModel", name := "keep", desc := "()I" } : Jvm.MethodName) prog_10_method_65_code (1 : Nat) (Option.some Jvm.ClassFile.FieldType.int)) ∈ xT := xT_6 32 rfl rfl
theorem tw6_33 : (Jvm.Cond.methodLink "NobodyFirstLaw" (127 : Nat) ({ cls := "NobodyFirstModel", name := "back", desc := "()I" } : Jvm.MethodName)) ∈ xT := xT_6 33 rfl rfl
theorem tw6_34 : (Jvm.Cond.instanceMethod ({ cls := "NobodyFirstModel", name := "back", desc := "()I" } : Jvm.MethodName)) ∈ xT := xT_6 34 rfl rfl
theorem tw6_35 : (Jvm.Cond.selects "NobodyFirstModel" ({ cls := "NobodyFirstModel", name := "back", desc := "()I" } : Jvm.MethodName) ({ cls := "NobodyFirstModel", name := "back", desc := "()I" } : Jvm.MethodName)) ∈ xT := xT_6 35 rfl rfl
theorem tw6_36 : (Jvm.Cond.code ({ cls := "NobodyFirstModel", name := "back", desc := "()I" } : Jvm.MethodName) prog_10_method_66_code (1 : Nat) (Option.some Jvm.ClassFile.FieldType.int)) ∈ xT := xT_6 36 rfl rfl
theorem tw6_37 : (Jvm.Cond.methodLink "NobodyFirstLaw" (131 : Nat) ({ cls := "NobodyFirstModel", name := "count", desc := "(I)I" } : Jvm.MethodName)) ∈ xT := xT_6 37 rfl rfl
theorem tw6_38 : (Jvm.Cond.instanceMethod ({ cls := "NobodyFirstModel", name := "count", desc := "(I)I" } : Jvm.MethodName)) ∈ xT := xT_6 38 rfl rfl
theorem tw6_39 : (Jvm.Cond.selects "NobodyFirstModel" ({ cls := "NobodyFirstModel", name := "count", desc := "(I)I" } : Jvm.MethodName) ({ cls := "NobodyFirstModel", name := "count", desc := "(I)I" } : Jvm.MethodName)) ∈ xT := xT_6 39 rfl rfl
theorem tw6_40 : (Jvm.Cond.code ({ cls := "NobodyFirstModel", name := "count", desc := "(I)I" } : Jvm.MethodName) prog_10_method_68_code (2 : Nat) (Option.some Jvm.ClassFile.FieldType.int)) ∈ xT := xT_6 40 rfl rfl
theorem tw6_41 : (Jvm.Cond.methodLink "NobodyFirstModel" (302 : Nat) ({ cls := "NobodyFirstModel", name := "pairMany", desc := "()I" } : Jvm.MethodName)) ∈ xT := xT_6 41 rfl rfl
theorem tw6_43 : (Jvm.Cond.instanceMethod ({ cls := "NobodyFirstModel", name := "pairMany", desc := "()I" } : Jvm.MethodName)) ∈ xT := xT_6 43 rfl rfl
theorem tw6_44 : (Jvm.Cond.code ({ cls := "NobodyFirstModel", name := "pairMany", desc := "()I" } : Jvm.MethodName) prog_10_method_67_code (4 : Nat) (Option.some Jvm.ClassFile.FieldType.int)) ∈ xT := xT_6 44 rfl rfl
theorem tw6_45 : (Jvm.Cond.constantLong "NobodyFirstLaw" (13 : Nat) (4294967295 : Int64)) ∈ xT := xT_6 45 rfl rfl
theorem tw6_46 : (Jvm.Cond.fieldLink "java/lang/String" (15 : Nat) "java/lang/String" "coder" "B") ∈ xT := xT_6 46 rfl rfl
theorem tw6_47 : (Jvm.Cond.fieldLink "java/lang/String" (9 : Nat) "java/lang/String" "value" "[B") ∈ xT := xT_6 47 rfl rfl
theorem tp1_0 : Cond.selects "NobodyFirst$Reader" ⟨"NobodyFirst$Reader", "readNumbers", "([BII)Z"⟩ ⟨"NobodyFirst$Reader", "readNumbers", "([BII)Z"⟩ ∈ xT := xT_p (List.mem_append_left _ (List.mem_of_getElem? (i := 0) rfl))
theorem tp1_1 : Cond.selects "NobodyFirst$Reader" ⟨"NobodyFirst$Reader", "readNumber", "([BI)I"⟩ ⟨"NobodyFirst$Reader", "readNumber", "([BI)I"⟩ ∈ xT := xT_p (List.mem_append_left _ (List.mem_of_getElem? (i := 1) rfl))
theorem tp1_2 : Cond.selects "NobodyFirst$Reader" ⟨"NobodyFirst$Reader", "enter", "(ILNobodyFirst$Party;)Z"⟩ ⟨"NobodyFirst$Reader", "enter", "(ILNobodyFirst$Party;)Z"⟩ ∈ xT := xT_p (List.mem_append_left _ (List.mem_of_getElem? (i := 2) rfl))
theorem tp1_3 : Cond.selects "NobodyFirst" ⟨"NobodyFirst", "isGuest", "(I)Z"⟩ ⟨"NobodyFirst", "isGuest", "(I)Z"⟩ ∈ xT := xT_p (List.mem_append_left _ (List.mem_of_getElem? (i := 3) rfl))
theorem tp1_4 : Cond.selects "NobodyFirst" ⟨"NobodyFirst", "passAsItIs", "()V"⟩ ⟨"NobodyFirst", "passAsItIs", "()V"⟩ ∈ xT := xT_p (List.mem_append_left _ (List.mem_of_getElem? (i := 4) rfl))
theorem tp1_5 : Cond.selects "NobodyFirst$Evening" ⟨"NobodyFirst$Evening", "goOnFrom", "(I)I"⟩ ⟨"NobodyFirst$Evening", "goOnFrom", "(I)I"⟩ ∈ xT := xT_p (List.mem_append_left _ (List.mem_of_getElem? (i := 5) rfl))
theorem tp1_6 : Cond.selects "NobodyFirst$Evening" ⟨"NobodyFirst$Evening", "nextChange", "(I)I"⟩ ⟨"NobodyFirst$Evening", "nextChange", "(I)I"⟩ ∈ xT := xT_p (List.mem_append_left _ (List.mem_of_getElem? (i := 6) rfl))
theorem tp1_7 : Cond.selects "NobodyFirst$Evening" ⟨"NobodyFirst$Evening", "sits", "(I)Z"⟩ ⟨"NobodyFirst$Evening", "sits", "(I)Z"⟩ ∈ xT := xT_p (List.mem_append_left _ (List.mem_of_getElem? (i := 7) rfl))
theorem tp1_8 : Cond.selects "NobodyFirst$Evening" ⟨"NobodyFirst$Evening", "pairFrom", "(II)I"⟩ ⟨"NobodyFirst$Evening", "pairFrom", "(II)I"⟩ ∈ xT := xT_p (List.mem_append_left _ (List.mem_of_getElem? (i := 8) rfl))
theorem tp1_9 : Cond.selects "NobodyFirst$Evening" ⟨"NobodyFirst$Evening", "goesAfter", "(I)I"⟩ ⟨"NobodyFirst$Evening", "goesAfter", "(I)I"⟩ ∈ xT := xT_p (List.mem_append_left _ (List.mem_of_getElem? (i := 9) rfl))
theorem tp1_10 : Cond.selects "NobodyFirst" ⟨"NobodyFirst", "allWithBus", "(II)I"⟩ ⟨"NobodyFirst", "allWithBus", "(II)I"⟩ ∈ xT := xT_p (List.mem_append_left _ (List.mem_of_getElem? (i := 10) rfl))
theorem tp1_11 : Cond.selects "NobodyFirst" ⟨"NobodyFirst", "allWithBell", "(I)I"⟩ ⟨"NobodyFirst", "allWithBell", "(I)I"⟩ ∈ xT := xT_p (List.mem_append_left _ (List.mem_of_getElem? (i := 11) rfl))
theorem tp1_12 : Cond.selects "NobodyFirst$Giving" ⟨"NobodyFirst$Giving", "choose", "(II)V"⟩ ⟨"NobodyFirst$Giving", "choose", "(II)V"⟩ ∈ xT := xT_p (List.mem_append_left _ (List.mem_of_getElem? (i := 12) rfl))
theorem tp1_13 : Cond.selects "NobodyFirst$Giving" ⟨"NobodyFirst$Giving", "giveChosen", "(LNobodyFirst$Party;LNobodyFirst$Evening;)I"⟩ ⟨"NobodyFirst$Giving", "giveChosen", "(LNobodyFirst$Party;LNobodyFirst$Evening;)I"⟩ ∈ xT := xT_p (List.mem_append_left _ (List.mem_of_getElem? (i := 13) rfl))
theorem tp1_14 : Cond.selects "NobodyFirst$Game" ⟨"NobodyFirst$Game", "isFirstAlone", "(I)Z"⟩ ⟨"NobodyFirst$Game", "isFirstAlone", "(I)Z"⟩ ∈ xT := xT_p (List.mem_append_left _ (List.mem_of_getElem? (i := 14) rfl))
theorem tp1_15 : Cond.selects "NobodyFirst$Game" ⟨"NobodyFirst$Game", "choose", "(I)V"⟩ ⟨"NobodyFirst$Game", "choose", "(I)V"⟩ ∈ xT := xT_p (List.mem_append_left _ (List.mem_of_getElem? (i := 15) rfl))
theorem tp2_0 : Cond.selects "NobodyFirst$Game" ⟨"NobodyFirst$Game", "weighChoice", "()V"⟩ ⟨"NobodyFirst$Game", "weighChoice", "()V"⟩ ∈ xT := xT_p (List.mem_append_right _ (List.mem_append_left _ (List.mem_of_getElem? (i := 0) rfl)))
theorem tp2_1 : Cond.selects "NobodyFirst$Game" ⟨"NobodyFirst$Game", "isRest", "()Z"⟩ ⟨"NobodyFirst$Game", "isRest", "()Z"⟩ ∈ xT := xT_p (List.mem_append_right _ (List.mem_append_left _ (List.mem_of_getElem? (i := 1) rfl)))
theorem tp2_2 : Cond.selects "NobodyFirst$Game" ⟨"NobodyFirst$Game", "wouldRatherMove", "(I)Z"⟩ ⟨"NobodyFirst$Game", "wouldRatherMove", "(I)Z"⟩ ∈ xT := xT_p (List.mem_append_right _ (List.mem_append_left _ (List.mem_of_getElem? (i := 2) rfl)))
theorem tp2_3 : Cond.selects "NobodyFirst$History" ⟨"NobodyFirst$History", "placeOf", "(I)LNobodyFirst$Told;"⟩ ⟨"NobodyFirst$History", "placeOf", "(I)LNobodyFirst$Told;"⟩ ∈ xT := xT_p (List.mem_append_right _ (List.mem_append_left _ (List.mem_of_getElem? (i := 3) rfl)))
theorem tp2_4 : Cond.selects "NobodyFirstModel" ⟨"NobodyFirstModel", "noEvening", "(I)V"⟩ ⟨"NobodyFirstModel", "noEvening", "(I)V"⟩ ∈ xT := xT_p (List.mem_append_right _ (List.mem_append_left _ (List.mem_of_getElem? (i := 4) rfl)))
theorem tp2_5 : Cond.selects "NobodyFirstModel" ⟨"NobodyFirstModel", "readAll", "()I"⟩ ⟨"NobodyFirstModel", "readAll", "()I"⟩ ∈ xT := xT_p (List.mem_append_right _ (List.mem_append_left _ (List.mem_of_getElem? (i := 5) rfl)))
theorem tp2_6 : Cond.selects "NobodyFirstModel" ⟨"NobodyFirstModel", "item", "()Z"⟩ ⟨"NobodyFirstModel", "item", "()Z"⟩ ∈ xT := xT_p (List.mem_append_right _ (List.mem_append_left _ (List.mem_of_getElem? (i := 6) rfl)))
theorem tp2_7 : Cond.selects "NobodyFirstModel" ⟨"NobodyFirstModel", "byteAt", "(I)I"⟩ ⟨"NobodyFirstModel", "byteAt", "(I)I"⟩ ∈ xT := xT_p (List.mem_append_right _ (List.mem_append_left _ (List.mem_of_getElem? (i := 7) rfl)))
theorem tp2_8 : Cond.selects "NobodyFirstModel" ⟨"NobodyFirstModel", "guestItem", "()Z"⟩ ⟨"NobodyFirstModel", "guestItem", "()Z"⟩ ∈ xT := xT_p (List.mem_append_right _ (List.mem_append_left _ (List.mem_of_getElem? (i := 8) rfl)))
theorem tp2_9 : Cond.selects "NobodyFirstModel" ⟨"NobodyFirstModel", "figures", "(I)Z"⟩ ⟨"NobodyFirstModel", "figures", "(I)Z"⟩ ∈ xT := xT_p (List.mem_append_right _ (List.mem_append_left _ (List.mem_of_getElem? (i := 9) rfl)))
theorem tp2_10 : Cond.selects "NobodyFirstModel" ⟨"NobodyFirstModel", "lookItem", "()Z"⟩ ⟨"NobodyFirstModel", "lookItem", "()Z"⟩ ∈ xT := xT_p (List.mem_append_right _ (List.mem_append_left _ (List.mem_of_getElem? (i := 10) rfl)))
theorem tp2_11 : Cond.selects "NobodyFirstModel" ⟨"NobodyFirstModel", "copyTold", "(II)V"⟩ ⟨"NobodyFirstModel", "copyTold", "(II)V"⟩ ∈ xT := xT_p (List.mem_append_right _ (List.mem_append_left _ (List.mem_of_getElem? (i := 11) rfl)))
theorem tp2_12 : Cond.selects "NobodyFirstModel" ⟨"NobodyFirstModel", "isGuest", "(I)Z"⟩ ⟨"NobodyFirstModel", "isGuest", "(I)Z"⟩ ∈ xT := xT_p (List.mem_append_right _ (List.mem_append_left _ (List.mem_of_getElem? (i := 12) rfl)))
theorem tp2_13 : Cond.selects "NobodyFirstModel" ⟨"NobodyFirstModel", "goAsItIs", "()V"⟩ ⟨"NobodyFirstModel", "goAsItIs", "()V"⟩ ∈ xT := xT_p (List.mem_append_right _ (List.mem_append_left _ (List.mem_of_getElem? (i := 13) rfl)))
theorem tp2_14 : Cond.selects "NobodyFirstModel" ⟨"NobodyFirstModel", "asItIs", "()V"⟩ ⟨"NobodyFirstModel", "asItIs", "()V"⟩ ∈ xT := xT_p (List.mem_append_right _ (List.mem_append_left _ (List.mem_of_getElem? (i := 14) rfl)))
theorem tp2_15 : Cond.selects "NobodyFirstModel" ⟨"NobodyFirstModel", "goEvening", "()V"⟩ ⟨"NobodyFirstModel", "goEvening", "()V"⟩ ∈ xT := xT_p (List.mem_append_right _ (List.mem_append_left _ (List.mem_of_getElem? (i := 15) rfl)))
theorem tp3_0 : Cond.selects "NobodyFirstModel" ⟨"NobodyFirstModel", "standsAt", "(II)Z"⟩ ⟨"NobodyFirstModel", "standsAt", "(II)Z"⟩ ∈ xT := xT_p (List.mem_append_right _ (List.mem_append_right _ (List.mem_append_left _ (List.mem_of_getElem? (i := 0) rfl))))
theorem tp3_1 : Cond.selects "NobodyFirstModel" ⟨"NobodyFirstModel", "doesPress", "(II)Z"⟩ ⟨"NobodyFirstModel", "doesPress", "(II)Z"⟩ ∈ xT := xT_p (List.mem_append_right _ (List.mem_append_right _ (List.mem_append_left _ (List.mem_of_getElem? (i := 1) rfl))))
theorem tp3_2 : Cond.selects "NobodyFirstModel" ⟨"NobodyFirstModel", "isBus", "(I)Z"⟩ ⟨"NobodyFirstModel", "isBus", "(I)Z"⟩ ∈ xT := xT_p (List.mem_append_right _ (List.mem_append_right _ (List.mem_append_left _ (List.mem_of_getElem? (i := 2) rfl))))
theorem tp3_3 : Cond.selects "NobodyFirstModel" ⟨"NobodyFirstModel", "shameOf", "(II)I"⟩ ⟨"NobodyFirstModel", "shameOf", "(II)I"⟩ ∈ xT := xT_p (List.mem_append_right _ (List.mem_append_right _ (List.mem_append_left _ (List.mem_of_getElem? (i := 3) rfl))))
theorem tp3_4 : Cond.selects "NobodyFirstModel" ⟨"NobodyFirstModel", "counts", "(II)Z"⟩ ⟨"NobodyFirstModel", "counts", "(II)Z"⟩ ∈ xT := xT_p (List.mem_append_right _ (List.mem_append_right _ (List.mem_append_left _ (List.mem_of_getElem? (i := 4) rfl))))
theorem tp3_5 : Cond.selects "NobodyFirstModel" ⟨"NobodyFirstModel", "stoodAhead", "(I)I"⟩ ⟨"NobodyFirstModel", "stoodAhead", "(I)I"⟩ ∈ xT := xT_p (List.mem_append_right _ (List.mem_append_right _ (List.mem_append_left _ (List.mem_of_getElem? (i := 5) rfl))))
theorem tp3_6 : Cond.selects "NobodyFirstModel" ⟨"NobodyFirstModel", "allWasted", "()I"⟩ ⟨"NobodyFirstModel", "allWasted", "()I"⟩ ∈ xT := xT_p (List.mem_append_right _ (List.mem_append_right _ (List.mem_append_left _ (List.mem_of_getElem? (i := 6) rfl))))
theorem tp3_7 : Cond.selects "NobodyFirstModel" ⟨"NobodyFirstModel", "lastOf", "()I"⟩ ⟨"NobodyFirstModel", "lastOf", "()I"⟩ ∈ xT := xT_p (List.mem_append_right _ (List.mem_append_right _ (List.mem_append_left _ (List.mem_of_getElem? (i := 7) rfl))))
theorem tp3_8 : Cond.selects "NobodyFirstModel" ⟨"NobodyFirstModel", "freesOf", "(II)I"⟩ ⟨"NobodyFirstModel", "freesOf", "(II)I"⟩ ∈ xT := xT_p (List.mem_append_right _ (List.mem_append_right _ (List.mem_append_left _ (List.mem_of_getElem? (i := 8) rfl))))
theorem tp3_9 : Cond.selects "NobodyFirstModel" ⟨"NobodyFirstModel", "bellOf", "(I)I"⟩ ⟨"NobodyFirstModel", "bellOf", "(I)I"⟩ ∈ xT := xT_p (List.mem_append_right _ (List.mem_append_right _ (List.mem_append_left _ (List.mem_of_getElem? (i := 9) rfl))))
theorem tp3_10 : Cond.selects "NobodyFirstModel" ⟨"NobodyFirstModel", "givenBy", "(I)I"⟩ ⟨"NobodyFirstModel", "givenBy", "(I)I"⟩ ∈ xT := xT_p (List.mem_append_right _ (List.mem_append_right _ (List.mem_append_left _ (List.mem_of_getElem? (i := 10) rfl))))
theorem tp3_11 : Cond.selects "NobodyFirstModel" ⟨"NobodyFirstModel", "layGame", "()V"⟩ ⟨"NobodyFirstModel", "layGame", "()V"⟩ ∈ xT := xT_p (List.mem_append_right _ (List.mem_append_right _ (List.mem_append_left _ (List.mem_of_getElem? (i := 11) rfl))))
theorem tp3_12 : Cond.selects "NobodyFirstModel" ⟨"NobodyFirstModel", "costOf", "(I)I"⟩ ⟨"NobodyFirstModel", "costOf", "(I)I"⟩ ∈ xT := xT_p (List.mem_append_right _ (List.mem_append_right _ (List.mem_append_left _ (List.mem_of_getElem? (i := 12) rfl))))
theorem tp3_13 : Cond.selects "NobodyFirstModel" ⟨"NobodyFirstModel", "codesOf", "()I"⟩ ⟨"NobodyFirstModel", "codesOf", "()I"⟩ ∈ xT := xT_p (List.mem_append_right _ (List.mem_append_right _ (List.mem_append_left _ (List.mem_of_getElem? (i := 13) rfl))))
theorem tp3_14 : Cond.selects "NobodyFirstModel" ⟨"NobodyFirstModel", "takeSlots", "(I)V"⟩ ⟨"NobodyFirstModel", "takeSlots", "(I)V"⟩ ∈ xT := xT_p (List.mem_append_right _ (List.mem_append_right _ (List.mem_append_left _ (List.mem_of_getElem? (i := 14) rfl))))
theorem tp3_15 : Cond.selects "NobodyFirstModel" ⟨"NobodyFirstModel", "isRest", "()Z"⟩ ⟨"NobodyFirstModel", "isRest", "()Z"⟩ ∈ xT := xT_p (List.mem_append_right _ (List.mem_append_right _ (List.mem_append_left _ (List.mem_of_getElem? (i := 15) rfl))))
theorem tp4_0 : Cond.selects "NobodyFirstModel" ⟨"NobodyFirstModel", "sumOfCosts", "()I"⟩ ⟨"NobodyFirstModel", "sumOfCosts", "()I"⟩ ∈ xT := xT_p (List.mem_append_right _ (List.mem_append_right _ (List.mem_append_right _ (List.mem_of_getElem? (i := 0) rfl))))
theorem tp4_1 : Cond.selects "NobodyFirstModel" ⟨"NobodyFirstModel", "sinceOf", "(II)J"⟩ ⟨"NobodyFirstModel", "sinceOf", "(II)J"⟩ ∈ xT := xT_p (List.mem_append_right _ (List.mem_append_right _ (List.mem_append_right _ (List.mem_of_getElem? (i := 1) rfl))))
theorem tp4_2 : Cond.selects "NobodyFirstModel" ⟨"NobodyFirstModel", "note", "(I)V"⟩ ⟨"NobodyFirstModel", "note", "(I)V"⟩ ∈ xT := xT_p (List.mem_append_right _ (List.mem_append_right _ (List.mem_append_right _ (List.mem_of_getElem? (i := 2) rfl))))
theorem tp4_3 : Cond.selects "NobodyFirstModel" ⟨"NobodyFirstModel", "pairMany", "()I"⟩ ⟨"NobodyFirstModel", "pairMany", "()I"⟩ ∈ xT := xT_p (List.mem_append_right _ (List.mem_append_right _ (List.mem_append_right _ (List.mem_of_getElem? (i := 3) rfl))))
theorem inT_X0 : ∀ w ∈ u_ws RX0 TX0 14, w ∈ xT := show ∀ w ∈ ([Cond.lays "NobodyFirst$Evening" "NobodyFirst$Evening" "party" "LNobodyFirst$Party;", Cond.laysFinal "NobodyFirst$Evening" "NobodyFirst$Evening" "kind" "[I", Cond.laysFinal "NobodyFirst$Evening" "NobodyFirst$Evening" "goesFrom" "[I", Cond.lays "NobodyFirst$Evening" "NobodyFirst$Evening" "signs" "I", Cond.laysFinal "NobodyFirst$Evening" "NobodyFirst$Evening" "signMinute" "[I", Cond.laysFinal "NobodyFirst$Evening" "NobodyFirst$Evening" "signWorth" "[I", Cond.laysFinal "NobodyFirst$Evening" "NobodyFirst$Evening" "heardBy" "[I", Cond.lays "NobodyFirst$Evening" "NobodyFirst$Evening" "allStandAt" "I", Cond.lays "NobodyFirst$Evening" "NobodyFirst$Evening" "present" "I", Cond.lays "NobodyFirst$Evening" "NobodyFirst$Evening" "stood" "I", Cond.lays "NobodyFirst$Evening" "NobodyFirst$Evening" "guestsStood" "I", Cond.laysFinal "NobodyFirst$Evening" "NobodyFirst$Evening" "ready" "[I", Cond.laysFinal "NobodyFirst$Evening" "NobodyFirst$Evening" "stands" "[I", Cond.laysFinal "NobodyFirst$Evening" "NobodyFirst$Evening" "goes" "[I"] : List Cond), w ∈ xT from List.forall_mem_cons.mpr ⟨tw1_182, List.forall_mem_cons.mpr ⟨tw1_184, List.forall_mem_cons.mpr ⟨tw1_186, List.forall_mem_cons.mpr ⟨tw1_188, List.forall_mem_cons.mpr ⟨tw1_190, List.forall_mem_cons.mpr ⟨tw1_192, List.forall_mem_cons.mpr ⟨tw1_194, List.forall_mem_cons.mpr ⟨tw1_196, List.forall_mem_cons.mpr ⟨tw1_198, List.forall_mem_cons.mpr ⟨tw1_200, List.forall_mem_cons.mpr ⟨tw1_202, List.forall_mem_cons.mpr ⟨tw1_204, List.forall_mem_cons.mpr ⟨tw1_206, List.forall_mem_cons.mpr ⟨tw1_208, fun _ h => absurd h List.not_mem_nil⟩⟩⟩⟩⟩⟩⟩⟩⟩⟩⟩⟩⟩⟩
theorem inT_X1 : ∀ w ∈ u_ws RX1 TX1 9, w ∈ xT := show ∀ w ∈ ([Cond.lays "NobodyFirst$Game" "NobodyFirst$Game" "known" "Z", Cond.lays "NobodyFirst$Game" "NobodyFirst$Game" "pairs" "I", Cond.laysFinal "NobodyFirst$Game" "NobodyFirst$Game" "wouldGo" "[I", Cond.laysFinal "NobodyFirst$Game" "NobodyFirst$Game" "ownShame" "[I", Cond.laysFinal "NobodyFirst$Game" "NobodyFirst$Game" "slot" "[I", Cond.laysFinal "NobodyFirst$Game" "NobodyFirst$Game" "firstRest" "[I", Cond.lays "NobodyFirst$Game" "NobodyFirst$Game" "restsFound" "I", Cond.lays "NobodyFirst$Game" "NobodyFirst$Game" "leastOfRests" "I", Cond.lays "NobodyFirst$Game" "NobodyFirst$Game" "leastOfAll" "I"] : List Cond), w ∈ xT from List.forall_mem_cons.mpr ⟨tw2_12, List.forall_mem_cons.mpr ⟨tw2_14, List.forall_mem_cons.mpr ⟨tw2_16, List.forall_mem_cons.mpr ⟨tw2_18, List.forall_mem_cons.mpr ⟨tw2_20, List.forall_mem_cons.mpr ⟨tw2_22, List.forall_mem_cons.mpr ⟨tw2_24, List.forall_mem_cons.mpr ⟨tw2_26, List.forall_mem_cons.mpr ⟨tw2_28, fun _ h => absurd h List.not_mem_nil⟩⟩⟩⟩⟩⟩⟩⟩⟩
theorem inT_X2 : ∀ w ∈ u_ws RX2 TX2 4, w ∈ xT := show ∀ w ∈ ([Cond.lays "NobodyFirst$Giving" "NobodyFirst$Giving" "known" "Z", Cond.lays "NobodyFirst$Giving" "NobodyFirst$Giving" "least" "I", Cond.laysFinal "NobodyFirst$Giving" "NobodyFirst$Giving" "choice" "[I", Cond.laysFinal "NobodyFirst$Giving" "NobodyFirst$Giving" "chosen" "[I"] : List Cond), w ∈ xT from List.forall_mem_cons.mpr ⟨tw1_223, List.forall_mem_cons.mpr ⟨tw1_225, List.forall_mem_cons.mpr ⟨tw1_227, List.forall_mem_cons.mpr ⟨tw1_229, fun _ h => absurd h List.not_mem_nil⟩⟩⟩⟩
theorem inT_X3 : ∀ w ∈ u_ws RX3 TX3 5, w ∈ xT := show ∀ w ∈ ([Cond.laysFinal "NobodyFirst$History" "NobodyFirst$History" "wasSign" "[Z", Cond.lays "NobodyFirst$History" "NobodyFirst$History" "steps" "I", Cond.laysFinal "NobodyFirst$History" "NobodyFirst$History" "firstKept" "LNobodyFirst$Told;", Cond.laysFinal "NobodyFirst$History" "NobodyFirst$History" "secondKept" "LNobodyFirst$Told;", Cond.lays "NobodyFirst$History" "NobodyFirst$History" "kept" "I"] : List Cond), w ∈ xT from List.forall_mem_cons.mpr ⟨tw2_46, List.forall_mem_cons.mpr ⟨tw2_48, List.forall_mem_cons.mpr ⟨tw2_50, List.forall_mem_cons.mpr ⟨tw2_52, List.forall_mem_cons.mpr ⟨tw2_54, fun _ h => absurd h List.not_mem_nil⟩⟩⟩⟩⟩
theorem inT_X4 : ∀ w ∈ u_ws RX4 TX4 18, w ∈ xT := show ∀ w ∈ ([Cond.lays "NobodyFirst$Party" "NobodyFirst$Party" "guests" "I", Cond.laysFinal "NobodyFirst$Party" "NobodyFirst$Party" "pair" "[I", Cond.laysFinal "NobodyFirst$Party" "NobodyFirst$Party" "wouldGo" "[I", Cond.laysFinal "NobodyFirst$Party" "NobodyFirst$Party" "ownShame" "[I", Cond.laysFinal "NobodyFirst$Party" "NobodyFirst$Party" "kind" "[I", Cond.laysFinal "NobodyFirst$Party" "NobodyFirst$Party" "told" "LNobodyFirst$Told;", Cond.lays "NobodyFirst$Party" "NobodyFirst$Party" "drawsBy" "I", Cond.lays "NobodyFirst$Party" "NobodyFirst$Party" "hall" "I", Cond.lays "NobodyFirst$Party" "NobodyFirst$Party" "end" "I", Cond.lays "NobodyFirst$Party" "NobodyFirst$Party" "offers" "I", Cond.laysFinal "NobodyFirst$Party" "NobodyFirst$Party" "offerWorth" "[I", Cond.laysFinal "NobodyFirst$Party" "NobodyFirst$Party" "offerCost" "[I", Cond.laysFinal "NobodyFirst$Party" "NobodyFirst$Party" "ifMeant" "[I", Cond.laysFinal "NobodyFirst$Party" "NobodyFirst$Party" "ifNot" "[I", Cond.lays "NobodyFirst$Party" "NobodyFirst$Party" "looks" "I", Cond.laysFinal "NobodyFirst$Party" "NobodyFirst$Party" "lookedAt" "[I", Cond.laysFinal "NobodyFirst$Party" "NobodyFirst$Party" "lookMinute" "[I", Cond.laysFinal "NobodyFirst$Party" "NobodyFirst$Party" "yawned" "[I"] : List Cond), w ∈ xT from List.forall_mem_cons.mpr ⟨tw1_123, List.forall_mem_cons.mpr ⟨tw1_125, List.forall_mem_cons.mpr ⟨tw1_127, List.forall_mem_cons.mpr ⟨tw1_129, List.forall_mem_cons.mpr ⟨tw1_131, List.forall_mem_cons.mpr ⟨tw1_133, List.forall_mem_cons.mpr ⟨tw1_135, List.forall_mem_cons.mpr ⟨tw1_137, List.forall_mem_cons.mpr ⟨tw1_139, List.forall_mem_cons.mpr ⟨tw1_141, List.forall_mem_cons.mpr ⟨tw1_143, List.forall_mem_cons.mpr ⟨tw1_145, List.forall_mem_cons.mpr ⟨tw1_147, List.forall_mem_cons.mpr ⟨tw1_149, List.forall_mem_cons.mpr ⟨tw1_151, List.forall_mem_cons.mpr ⟨tw1_153, List.forall_mem_cons.mpr ⟨tw1_155, List.forall_mem_cons.mpr ⟨tw1_157, fun _ h => absurd h List.not_mem_nil⟩⟩⟩⟩⟩⟩⟩⟩⟩⟩⟩⟩⟩⟩⟩⟩⟩⟩
theorem inT_X5 : ∀ w ∈ u_ws RX5 TX5 2, w ∈ xT := show ∀ w ∈ ([Cond.laysFinal "NobodyFirst$Reader" "NobodyFirst$Reader" "numbers" "[I", Cond.lays "NobodyFirst$Reader" "NobodyFirst$Reader" "place" "I"] : List Cond), w ∈ xT from List.forall_mem_cons.mpr ⟨tw1_34, List.forall_mem_cons.mpr ⟨tw1_36, fun _ h => absurd h List.not_mem_nil⟩⟩
theorem inT_X6 : ∀ w ∈ u_ws RX6 TX6 5, w ∈ xT := show ∀ w ∈ ([Cond.lays "NobodyFirst$Told" "NobodyFirst$Told" "signs" "I", Cond.laysFinal "NobodyFirst$Told" "NobodyFirst$Told" "signMinute" "[I", Cond.laysFinal "NobodyFirst$Told" "NobodyFirst$Told" "signWorth" "[I", Cond.lays "NobodyFirst$Told" "NobodyFirst$Told" "words" "I", Cond.laysFinal "NobodyFirst$Told" "NobodyFirst$Told" "wordMinute" "[I"] : List Cond), w ∈ xT from List.forall_mem_cons.mpr ⟨tw1_67, List.forall_mem_cons.mpr ⟨tw1_69, List.forall_mem_cons.mpr ⟨tw1_71, List.forall_mem_cons.mpr ⟨tw1_73, List.forall_mem_cons.mpr ⟨tw1_75, fun _ h => absurd h List.not_mem_nil⟩⟩⟩⟩⟩
theorem inT_X7 : ∀ w ∈ u_ws RX7 TX7 9, w ∈ xT := show ∀ w ∈ ([Cond.laysFinal "NobodyFirst" "NobodyFirst" "text" "[B", Cond.lays "NobodyFirst" "NobodyFirst" "length" "I", Cond.laysFinal "NobodyFirst" "NobodyFirst" "reader" "LNobodyFirst$Reader;", Cond.lays "NobodyFirst" "NobodyFirst" "laid" "LNobodyFirst$Party;", Cond.lays "NobodyFirst" "NobodyFirst" "draft" "LNobodyFirst$Party;", Cond.laysFinal "NobodyFirst" "NobodyFirst" "evening" "LNobodyFirst$Evening;", Cond.laysFinal "NobodyFirst" "NobodyFirst" "giving" "LNobodyFirst$Giving;", Cond.laysFinal "NobodyFirst" "NobodyFirst" "game" "LNobodyFirst$Game;", Cond.laysFinal "NobodyFirst" "NobodyFirst" "history" "LNobodyFirst$History;"] : List Cond), w ∈ xT from List.forall_mem_cons.mpr ⟨tw2_78, List.forall_mem_cons.mpr ⟨tw2_80, List.forall_mem_cons.mpr ⟨tw2_82, List.forall_mem_cons.mpr ⟨tw2_84, List.forall_mem_cons.mpr ⟨tw2_86, List.forall_mem_cons.mpr ⟨tw2_88, List.forall_mem_cons.mpr ⟨tw2_90, List.forall_mem_cons.mpr ⟨tw2_92, List.forall_mem_cons.mpr ⟨tw2_94, fun _ h => absurd h List.not_mem_nil⟩⟩⟩⟩⟩⟩⟩⟩⟩
theorem inT_X8 : ∀ w ∈ u_ws RX8 TX8 40, w ∈ xT := show ∀ w ∈ ([Cond.lays "NobodyFirstModel" "NobodyFirstModel" "length" "I", Cond.laysFinal "NobodyFirstModel" "NobodyFirstModel" "text" "[I", Cond.laysFinal "NobodyFirstModel" "NobodyFirstModel" "many" "[I", Cond.laysFinal "NobodyFirstModel" "NobodyFirstModel" "pairs" "[I", Cond.laysFinal "NobodyFirstModel" "NobodyFirstModel" "wants" "[I", Cond.laysFinal "NobodyFirstModel" "NobodyFirstModel" "shames" "[I", Cond.laysFinal "NobodyFirstModel" "NobodyFirstModel" "kinds" "[I", Cond.laysFinal "NobodyFirstModel" "NobodyFirstModel" "giveMany" "[I", Cond.laysFinal "NobodyFirstModel" "NobodyFirstModel" "giveWorth" "[I", Cond.laysFinal "NobodyFirstModel" "NobodyFirstModel" "giveCost" "[I", Cond.laysFinal "NobodyFirstModel" "NobodyFirstModel" "draws" "[I", Cond.laysFinal "NobodyFirstModel" "NobodyFirstModel" "halls" "[I", Cond.laysFinal "NobodyFirstModel" "NobodyFirstModel" "ends" "[I", Cond.laysFinal "NobodyFirstModel" "NobodyFirstModel" "meantBy" "[I", Cond.laysFinal "NobodyFirstModel" "NobodyFirstModel" "notMeantBy" "[I", Cond.laysFinal "NobodyFirstModel" "NobodyFirstModel" "lookMany" "[I", Cond.laysFinal "NobodyFirstModel" "NobodyFirstModel" "lookOf" "[I", Cond.laysFinal "NobodyFirstModel" "NobodyFirstModel" "lookAt" "[I", Cond.laysFinal "NobodyFirstModel" "NobodyFirstModel" "yawns" "[I", Cond.laysFinal "NobodyFirstModel" "NobodyFirstModel" "signMany" "[I", Cond.laysFinal "NobodyFirstModel" "NobodyFirstModel" "signAt" "[I", Cond.laysFinal "NobodyFirstModel" "NobodyFirstModel" "signWorth" "[I", Cond.laysFinal "NobodyFirstModel" "NobodyFirstModel" "wordMany" "[I", Cond.laysFinal "NobodyFirstModel" "NobodyFirstModel" "wordAt" "[I", Cond.lays "NobodyFirstModel" "NobodyFirstModel" "keptMany" "I", Cond.lays "NobodyFirstModel" "NobodyFirstModel" "doneMany" "I", Cond.laysFinal "NobodyFirstModel" "NobodyFirstModel" "done" "[I", Cond.lays "NobodyFirstModel" "NobodyFirstModel" "place" "I", Cond.laysFinal "NobodyFirstModel" "NobodyFirstModel" "told" "[I", Cond.lays "NobodyFirstModel" "NobodyFirstModel" "busOf" "I", Cond.lays "NobodyFirstModel" "NobodyFirstModel" "busFrom" "I", Cond.lays "NobodyFirstModel" "NobodyFirstModel" "bellAt" "I", Cond.lays "NobodyFirstModel" "NobodyFirstModel" "drawBy" "I", Cond.laysFinal "NobodyFirstModel" "NobodyFirstModel" "givenAt" "[I", Cond.laysFinal "NobodyFirstModel" "NobodyFirstModel" "stands" "[I", Cond.laysFinal "NobodyFirstModel" "NobodyFirstModel" "goes" "[I", Cond.lays "NobodyFirstModel" "NobodyFirstModel" "playMany" "I", Cond.laysFinal "NobodyFirstModel" "NobodyFirstModel" "playWants" "[I", Cond.laysFinal "NobodyFirstModel" "NobodyFirstModel" "playShames" "[I", Cond.laysFinal "NobodyFirstModel" "NobodyFirstModel" "slots" "[I"] : List Cond), w ∈ xT from List.forall_mem_cons.mpr ⟨tw4_163, List.forall_mem_cons.mpr ⟨tw4_165, List.forall_mem_cons.mpr ⟨tw4_167, List.forall_mem_cons.mpr ⟨tw4_169, List.forall_mem_cons.mpr ⟨tw4_171, List.forall_mem_cons.mpr ⟨tw4_173, List.forall_mem_cons.mpr ⟨tw4_175, List.forall_mem_cons.mpr ⟨tw4_177, List.forall_mem_cons.mpr ⟨tw4_179, List.forall_mem_cons.mpr ⟨tw4_181, List.forall_mem_cons.mpr ⟨tw4_183, List.forall_mem_cons.mpr ⟨tw4_185, List.forall_mem_cons.mpr ⟨tw4_187, List.forall_mem_cons.mpr ⟨tw4_189, List.forall_mem_cons.mpr ⟨tw4_191, List.forall_mem_cons.mpr ⟨tw4_193, List.forall_mem_cons.mpr ⟨tw4_195, List.forall_mem_cons.mpr ⟨tw4_197, List.forall_mem_cons.mpr ⟨tw4_199, List.forall_mem_cons.mpr ⟨tw4_201, List.forall_mem_cons.mpr ⟨tw4_203, List.forall_mem_cons.mpr ⟨tw4_205, List.forall_mem_cons.mpr ⟨tw4_207, List.forall_mem_cons.mpr ⟨tw4_209, List.forall_mem_cons.mpr ⟨tw4_211, List.forall_mem_cons.mpr ⟨tw4_213, List.forall_mem_cons.mpr ⟨tw4_215, List.forall_mem_cons.mpr ⟨tw4_217, List.forall_mem_cons.mpr ⟨tw4_219, List.forall_mem_cons.mpr ⟨tw4_221, List.forall_mem_cons.mpr ⟨tw4_223, List.forall_mem_cons.mpr ⟨tw4_225, List.forall_mem_cons.mpr ⟨tw4_227, List.forall_mem_cons.mpr ⟨tw4_229, List.forall_mem_cons.mpr ⟨tw4_231, List.forall_mem_cons.mpr ⟨tw4_233, List.forall_mem_cons.mpr ⟨tw4_235, List.forall_mem_cons.mpr ⟨tw4_237, List.forall_mem_cons.mpr ⟨tw4_239, List.forall_mem_cons.mpr ⟨tw5_1, fun _ h => absurd h List.not_mem_nil⟩⟩⟩⟩⟩⟩⟩⟩⟩⟩⟩⟩⟩⟩⟩⟩⟩⟩⟩⟩⟩⟩⟩⟩⟩⟩⟩⟩⟩⟩⟩⟩⟩⟩⟩⟩⟩⟩⟩⟩
