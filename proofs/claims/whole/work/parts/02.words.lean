/-- the words that every method has: those of the tables that stand for any call -/
def TT : List Cond := lw_tbl.filter goodWord
theorem TT_m {w : Cond} (h : w ∈ tables_1) (hg : goodWord w = true) : w ∈ TT := List.mem_filter.mpr ⟨List.mem_append_right _ h, hg⟩
theorem TT_t {i : Nat} {w : Cond} (h : tables_1[i]? = some w) (hg : goodWord w = true) : w ∈ TT := List.mem_filter.mpr ⟨List.mem_append_right _ (List.mem_of_getElem? h), hg⟩
theorem TT_p {i : Nat} {q : MethodName × Nat} (h : lw_privs[i]? = some q) (hg : goodWord (Cond.selects q.1.cls q.1 q.1) = true) : Cond.selects q.1.cls q.1 q.1 ∈ TT := List.mem_filter.mpr ⟨List.mem_append_left _ (List.mem_map.mpr ⟨q, List.mem_of_getElem? h, rfl⟩), hg⟩
theorem TT_1 {i : Nat} {w : Cond} (h : tables_1_1[i]? = some w) (hg : goodWord w = true) : w ∈ TT := TT_m (List.mem_append_left _ (List.mem_of_getElem? h)) hg
theorem TT_2 {i : Nat} {w : Cond} (h : tables_1_2[i]? = some w) (hg : goodWord w = true) : w ∈ TT := TT_m (List.mem_append_right _ (List.mem_append_left _ (List.mem_of_getElem? h))) hg
theorem TT_3 {i : Nat} {w : Cond} (h : tables_1_3[i]? = some w) (hg : goodWord w = true) : w ∈ TT := TT_m (List.mem_append_right _ (List.mem_append_right _ (List.mem_append_left _ (List.mem_of_getElem? h)))) hg
theorem TT_4 {i : Nat} {w : Cond} (h : tables_1_4[i]? = some w) (hg : goodWord w = true) : w ∈ TT := TT_m (List.mem_append_right _ (List.mem_append_right _ (List.mem_append_right _ (List.mem_append_left _ (List.mem_of_getElem? h))))) hg
theorem TT_5 {i : Nat} {w : Cond} (h : tables_1_5[i]? = some w) (hg : goodWord w = true) : w ∈ TT := TT_m (List.mem_append_right _ (List.mem_append_right _ (List.mem_append_right _ (List.mem_append_right _ (List.mem_append_left _ (List.mem_of_getElem? h)))))) hg
theorem TT_6 {i : Nat} {w : Cond} (h : tables_1_6[i]? = some w) (hg : goodWord w = true) : w ∈ TT := TT_m (List.mem_append_right _ (List.mem_append_right _ (List.mem_append_right _ (List.mem_append_right _ (List.mem_append_right _ (List.mem_of_getElem? h)))))) hg
theorem TT_good {w : Cond} (h : w ∈ TT) : goodWord w = true := (List.mem_filter.mp h).2
theorem TT_cons {w v : Cond} (h : v ∈ TT) : v ∈ w :: TT := List.mem_cons_of_mem _ h
theorem TT_in {w v : Cond} (h : v ∈ TT) : GoodIn (w :: TT) (v :: TT) := fun u hu => (List.mem_cons.mp hu).elim (fun e => ⟨List.mem_cons_of_mem _ (e ▸ h), good_of_word (TT_good (e ▸ h))⟩) (fun e => ⟨List.mem_cons_of_mem _ e, good_of_word (TT_good e)⟩)
theorem TT_in0 {v : Cond} (h : v ∈ TT) : GoodIn TT (v :: TT) := fun u hu => (List.mem_cons.mp hu).elim (fun e => ⟨e ▸ h, good_of_word (TT_good (e ▸ h))⟩) (fun e => ⟨e, good_of_word (TT_good e)⟩)
theorem TT_law {args : Array Value} {s : State} (h : ∀ w ∈ lw_tbl, w.before args s = true) : ∀ w ∈ TT, w.before args s = true := fun w hw => h w (List.mem_filter.mp hw).1
set_option maxRecDepth 100000 in
theorem kw_0 : (Jvm.Cond.initialized "CanBitsLaw") ∈ TT := TT_1 (i := 0) rfl rfl
set_option maxRecDepth 100000 in
theorem kw_1 : (Jvm.Cond.initialized "CanBits") ∈ TT := TT_1 (i := 1) rfl rfl
set_option maxRecDepth 100000 in
theorem kw_2 : (Jvm.Cond.initialized "CanBits$Node") ∈ TT := TT_1 (i := 2) rfl rfl
set_option maxRecDepth 100000 in
theorem kw_3 : (Jvm.Cond.initialized "CanBits$Listener") ∈ TT := TT_1 (i := 3) rfl rfl
set_option maxRecDepth 100000 in
theorem kw_4 : (Jvm.Cond.initialized "CanBits$Sums") ∈ TT := TT_1 (i := 4) rfl rfl
set_option maxRecDepth 100000 in
theorem kw_5 : (Jvm.Cond.initialized "CanBits$Register") ∈ TT := TT_1 (i := 5) rfl rfl
set_option maxRecDepth 100000 in
theorem kw_6 : (Jvm.Cond.initialized "CanBits$Takings") ∈ TT := TT_1 (i := 6) rfl rfl
set_option maxRecDepth 100000 in
theorem kw_7 : (Jvm.Cond.initialized "CanBits$Frame") ∈ TT := TT_1 (i := 7) rfl rfl
set_option maxRecDepth 100000 in
theorem kw_8 : (Jvm.Cond.initialized "CanBits$Writer") ∈ TT := TT_1 (i := 8) rfl rfl
set_option maxRecDepth 100000 in
theorem kw_9 : (Jvm.Cond.initialized "CanBitsModel") ∈ TT := TT_1 (i := 9) rfl rfl
set_option maxRecDepth 100000 in
theorem kw_10 : (Jvm.Cond.initialized "java/lang/Throwable") ∈ TT := TT_1 (i := 10) rfl rfl
set_option maxRecDepth 100000 in
theorem kw_11 : (Jvm.Cond.initialized "java/lang/Exception") ∈ TT := TT_1 (i := 11) rfl rfl
set_option maxRecDepth 100000 in
theorem kw_12 : (Jvm.Cond.initialized "java/lang/RuntimeException") ∈ TT := TT_1 (i := 12) rfl rfl
set_option maxRecDepth 100000 in
theorem kw_13 : (Jvm.Cond.initialized "java/lang/NegativeArraySizeException") ∈ TT := TT_1 (i := 13) rfl rfl
set_option maxRecDepth 100000 in
theorem kw_14 : (Jvm.Cond.initialized "java/lang/String") ∈ TT := TT_1 (i := 14) rfl rfl
set_option maxRecDepth 100000 in
theorem kw_15 : (Jvm.Cond.initialized "java/lang/IllegalArgumentException") ∈ TT := TT_1 (i := 15) rfl rfl
set_option maxRecDepth 100000 in
theorem kw_16 : (Jvm.Cond.initialized "java/lang/IndexOutOfBoundsException") ∈ TT := TT_1 (i := 16) rfl rfl
set_option maxRecDepth 100000 in
theorem kw_17 : (Jvm.Cond.initialized "java/lang/ArrayIndexOutOfBoundsException") ∈ TT := TT_1 (i := 17) rfl rfl
set_option maxRecDepth 100000 in
theorem kw_18 : (Jvm.Cond.initialized "java/lang/IllegalStateException") ∈ TT := TT_1 (i := 18) rfl rfl
set_option maxRecDepth 100000 in
theorem kw_19 : (Jvm.Cond.initialized "java/lang/Integer") ∈ TT := TT_1 (i := 19) rfl rfl
set_option maxRecDepth 100000 in
theorem kw_20 : (Jvm.Cond.initialized "java/lang/Math") ∈ TT := TT_1 (i := 20) rfl rfl
set_option maxRecDepth 100000 in
theorem kw_21 : (Jvm.Cond.classLink "CanBitsLaw" (8 : Nat) "CanBits") ∈ TT := TT_1 (i := 21) rfl rfl
set_option maxRecDepth 100000 in
theorem kw_22 : (Jvm.Cond.instantiable "CanBits" (14 : Nat)) ∈ TT := TT_1 (i := 22) rfl rfl
set_option maxRecDepth 100000 in
theorem kw_23 : (Jvm.Cond.methodLink "CanBitsLaw" (71 : Nat) ({ cls := "CanBits", name := "<init>", desc := "()V" } : Jvm.MethodName)) ∈ TT := TT_1 (i := 23) rfl rfl
set_option maxRecDepth 100000 in
theorem kw_24 : (Jvm.Cond.instanceMethod ({ cls := "CanBits", name := "<init>", desc := "()V" } : Jvm.MethodName)) ∈ TT := TT_1 (i := 24) rfl rfl
set_option maxRecDepth 100000 in
theorem kw_25 : (Jvm.Cond.code ({ cls := "CanBits", name := "<init>", desc := "()V" } : Jvm.MethodName) prog_1_method_1_code (2 : Nat) (Option.none : Option Jvm.ClassFile.FieldType)) ∈ TT := TT_1 (i := 25) rfl rfl
set_option maxRecDepth 100000 in
theorem kw_26 : (Jvm.Cond.methodLink "CanBits" (1 : Nat) ({ cls := "java/lang/Object", name := "<init>", desc := "()V" } : Jvm.MethodName)) ∈ TT := TT_1 (i := 26) rfl rfl
set_option maxRecDepth 100000 in
theorem kw_27 : (Jvm.Cond.instanceMethod ({ cls := "java/lang/Object", name := "<init>", desc := "()V" } : Jvm.MethodName)) ∈ TT := TT_1 (i := 27) rfl rfl
set_option maxRecDepth 100000 in
theorem kw_28 : (Jvm.Cond.code ({ cls := "java/lang/Object", name := "<init>", desc := "()V" } : Jvm.MethodName) object_method_1_code (1 : Nat) (Option.none : Option Jvm.ClassFile.FieldType)) ∈ TT := TT_1 (i := 28) rfl rfl
set_option maxRecDepth 100000 in
theorem kw_29 : (Jvm.Cond.classLink "CanBits" (9 : Nat) "CanBits$Node") ∈ TT := TT_1 (i := 29) rfl rfl
set_option maxRecDepth 100000 in
theorem kw_31 : (Jvm.Cond.instantiable "CanBits$Node" (10 : Nat)) ∈ TT := TT_1 (i := 31) rfl rfl
set_option maxRecDepth 100000 in
theorem kw_33 : (Jvm.Cond.instanceMethod ({ cls := "CanBits$Node", name := "<init>", desc := "()V" } : Jvm.MethodName)) ∈ TT := TT_1 (i := 33) rfl rfl
set_option maxRecDepth 100000 in
theorem kw_34 : (Jvm.Cond.code ({ cls := "CanBits$Node", name := "<init>", desc := "()V" } : Jvm.MethodName) prog_4_method_1_code (1 : Nat) (Option.none : Option Jvm.ClassFile.FieldType)) ∈ TT := TT_1 (i := 34) rfl rfl
set_option maxRecDepth 100000 in
theorem kw_35 : (Jvm.Cond.methodLink "CanBits$Node" (3 : Nat) ({ cls := "java/lang/Object", name := "<init>", desc := "()V" } : Jvm.MethodName)) ∈ TT := TT_1 (i := 35) rfl rfl
set_option maxRecDepth 100000 in
theorem kw_36 : (Jvm.Cond.classLink "CanBits$Node" (9 : Nat) "CanBits$Listener") ∈ TT := TT_1 (i := 36) rfl rfl
set_option maxRecDepth 100000 in
theorem kw_37 : (Jvm.Cond.instantiable "CanBits$Listener" (17 : Nat)) ∈ TT := TT_1 (i := 37) rfl rfl
set_option maxRecDepth 100000 in
theorem kw_39 : (Jvm.Cond.instanceMethod ({ cls := "CanBits$Listener", name := "<init>", desc := "()V" } : Jvm.MethodName)) ∈ TT := TT_1 (i := 39) rfl rfl
set_option maxRecDepth 100000 in
theorem kw_40 : (Jvm.Cond.code ({ cls := "CanBits$Listener", name := "<init>", desc := "()V" } : Jvm.MethodName) prog_3_method_1_code (1 : Nat) (Option.none : Option Jvm.ClassFile.FieldType)) ∈ TT := TT_1 (i := 40) rfl rfl
set_option maxRecDepth 100000 in
theorem kw_41 : (Jvm.Cond.methodLink "CanBits$Listener" (3 : Nat) ({ cls := "java/lang/Object", name := "<init>", desc := "()V" } : Jvm.MethodName)) ∈ TT := TT_1 (i := 41) rfl rfl
set_option maxRecDepth 100000 in
theorem kw_42 : (Jvm.Cond.classLink "CanBits$Listener" (9 : Nat) "CanBits$Sums") ∈ TT := TT_1 (i := 42) rfl rfl
set_option maxRecDepth 100000 in
theorem kw_43 : (Jvm.Cond.instantiable "CanBits$Sums" (3 : Nat)) ∈ TT := TT_1 (i := 43) rfl rfl
set_option maxRecDepth 100000 in
theorem kw_45 : (Jvm.Cond.instanceMethod ({ cls := "CanBits$Sums", name := "<init>", desc := "()V" } : Jvm.MethodName)) ∈ TT := TT_1 (i := 45) rfl rfl
set_option maxRecDepth 100000 in
theorem kw_46 : (Jvm.Cond.code ({ cls := "CanBits$Sums", name := "<init>", desc := "()V" } : Jvm.MethodName) prog_6_method_1_code (1 : Nat) (Option.none : Option Jvm.ClassFile.FieldType)) ∈ TT := TT_1 (i := 46) rfl rfl
set_option maxRecDepth 100000 in
theorem kw_47 : (Jvm.Cond.methodLink "CanBits$Sums" (1 : Nat) ({ cls := "java/lang/Object", name := "<init>", desc := "()V" } : Jvm.MethodName)) ∈ TT := TT_1 (i := 47) rfl rfl
set_option maxRecDepth 100000 in
theorem kw_48 : (Jvm.Cond.classLink "CanBits$Sums" (7 : Nat) "CanBits$Register") ∈ TT := TT_1 (i := 48) rfl rfl
set_option maxRecDepth 100000 in
theorem kw_49 : (Jvm.Cond.instantiable "CanBits$Register" (4 : Nat)) ∈ TT := TT_1 (i := 49) rfl rfl
set_option maxRecDepth 100000 in
theorem kw_50 : (Jvm.Cond.methodLink "CanBits$Sums" (9 : Nat) ({ cls := "CanBits$Register", name := "<init>", desc := "(III)V" } : Jvm.MethodName)) ∈ TT := TT_1 (i := 50) rfl rfl
set_option maxRecDepth 100000 in
theorem kw_51 : (Jvm.Cond.instanceMethod ({ cls := "CanBits$Register", name := "<init>", desc := "(III)V" } : Jvm.MethodName)) ∈ TT := TT_1 (i := 51) rfl rfl
set_option maxRecDepth 100000 in
theorem kw_52 : (Jvm.Cond.code ({ cls := "CanBits$Register", name := "<init>", desc := "(III)V" } : Jvm.MethodName) prog_5_method_1_code (4 : Nat) (Option.none : Option Jvm.ClassFile.FieldType)) ∈ TT := TT_1 (i := 52) rfl rfl
set_option maxRecDepth 100000 in
theorem kw_53 : (Jvm.Cond.methodLink "CanBits$Register" (1 : Nat) ({ cls := "java/lang/Object", name := "<init>", desc := "()V" } : Jvm.MethodName)) ∈ TT := TT_1 (i := 53) rfl rfl
set_option maxRecDepth 100000 in
theorem kw_54 : (Jvm.Cond.fieldLink "CanBits$Register" (7 : Nat) "CanBits$Register" "top" "I") ∈ TT := TT_1 (i := 54) rfl rfl
set_option maxRecDepth 100000 in
theorem kw_55 : (Jvm.Cond.fieldLink "CanBits$Register" (13 : Nat) "CanBits$Register" "turn" "I") ∈ TT := TT_1 (i := 55) rfl rfl
set_option maxRecDepth 100000 in
theorem kw_56 : (Jvm.Cond.fieldLink "CanBits$Register" (16 : Nat) "CanBits$Register" "start" "I") ∈ TT := TT_1 (i := 56) rfl rfl
set_option maxRecDepth 100000 in
theorem kw_57 : (Jvm.Cond.fieldLink "CanBits$Register" (19 : Nat) "CanBits$Register" "value" "I") ∈ TT := TT_1 (i := 57) rfl rfl
set_option maxRecDepth 100000 in
theorem kw_71 : (Jvm.Cond.constant "CanBits$Sums" (18 : Nat) (92251 : Int32)) ∈ TT := TT_1 (i := 71) rfl rfl
set_option maxRecDepth 100000 in
theorem kw_72 : (Jvm.Cond.constant "CanBits$Sums" (19 : Nat) (65536 : Int32)) ∈ TT := TT_1 (i := 72) rfl rfl
set_option maxRecDepth 100000 in
theorem kw_73 : (Jvm.Cond.constant "CanBits$Sums" (23 : Nat) (1058969 : Int32)) ∈ TT := TT_1 (i := 73) rfl rfl
set_option maxRecDepth 100000 in
theorem kw_74 : (Jvm.Cond.constant "CanBits$Sums" (24 : Nat) (1048576 : Int32)) ∈ TT := TT_1 (i := 74) rfl rfl
set_option maxRecDepth 100000 in
theorem kw_75 : (Jvm.Cond.fieldLink "CanBits$Sums" (12 : Nat) "CanBits$Sums" "of15" "LCanBits$Register;") ∈ TT := TT_1 (i := 75) rfl rfl
set_option maxRecDepth 100000 in
theorem kw_79 : (Jvm.Cond.fieldLink "CanBits$Sums" (20 : Nat) "CanBits$Sums" "of17" "LCanBits$Register;") ∈ TT := TT_1 (i := 79) rfl rfl
set_option maxRecDepth 100000 in
theorem kw_81 : (Jvm.Cond.fieldLink "CanBits$Sums" (25 : Nat) "CanBits$Sums" "of21" "LCanBits$Register;") ∈ TT := TT_1 (i := 81) rfl rfl
set_option maxRecDepth 100000 in
theorem kw_90 : (Jvm.Cond.fieldLink "CanBits$Listener" (12 : Nat) "CanBits$Listener" "sums" "LCanBits$Sums;") ∈ TT := TT_1 (i := 90) rfl rfl
set_option maxRecDepth 100000 in
theorem kw_91 : (Jvm.Cond.fieldLink "CanBits$Listener" (18 : Nat) "CanBits$Listener" "octets" "[I") ∈ TT := TT_1 (i := 91) rfl rfl
set_option maxRecDepth 100000 in
theorem kw_93 : (Jvm.Cond.fieldLink "CanBits$Listener" (25 : Nat) "CanBits$Listener" "part" "I") ∈ TT := TT_1 (i := 93) rfl rfl
set_option maxRecDepth 100000 in
theorem kw_94 : (Jvm.Cond.fieldLink "CanBits$Listener" (29 : Nat) "CanBits$Listener" "place" "I") ∈ TT := TT_1 (i := 94) rfl rfl
set_option maxRecDepth 100000 in
theorem kw_95 : (Jvm.Cond.fieldLink "CanBits$Listener" (32 : Nat) "CanBits$Listener" "last" "I") ∈ TT := TT_1 (i := 95) rfl rfl
set_option maxRecDepth 100000 in
theorem kw_96 : (Jvm.Cond.fieldLink "CanBits$Listener" (35 : Nat) "CanBits$Listener" "run" "I") ∈ TT := TT_1 (i := 96) rfl rfl
set_option maxRecDepth 100000 in
theorem kw_97 : (Jvm.Cond.fieldLink "CanBits$Listener" (38 : Nat) "CanBits$Listener" "stuffBits" "I") ∈ TT := TT_1 (i := 97) rfl rfl
set_option maxRecDepth 100000 in
theorem kw_98 : (Jvm.Cond.fieldLink "CanBits$Listener" (41 : Nat) "CanBits$Listener" "plainBits" "I") ∈ TT := TT_1 (i := 98) rfl rfl
set_option maxRecDepth 100000 in
theorem kw_99 : (Jvm.Cond.fieldLink "CanBits$Listener" (44 : Nat) "CanBits$Listener" "head" "J") ∈ TT := TT_1 (i := 99) rfl rfl
set_option maxRecDepth 100000 in
theorem kw_100 : (Jvm.Cond.fieldLink "CanBits$Listener" (48 : Nat) "CanBits$Listener" "isLong" "Z") ∈ TT := TT_1 (i := 100) rfl rfl
set_option maxRecDepth 100000 in
theorem kw_101 : (Jvm.Cond.fieldLink "CanBits$Listener" (52 : Nat) "CanBits$Listener" "isFlexible" "Z") ∈ TT := TT_1 (i := 101) rfl rfl
set_option maxRecDepth 100000 in
theorem kw_102 : (Jvm.Cond.fieldLink "CanBits$Listener" (55 : Nat) "CanBits$Listener" "headEnd" "I") ∈ TT := TT_1 (i := 102) rfl rfl
set_option maxRecDepth 100000 in
theorem kw_103 : (Jvm.Cond.fieldLink "CanBits$Listener" (59 : Nat) "CanBits$Listener" "bodyEnd" "I") ∈ TT := TT_1 (i := 103) rfl rfl
set_option maxRecDepth 100000 in
theorem kw_104 : (Jvm.Cond.fieldLink "CanBits$Listener" (62 : Nat) "CanBits$Listener" "plainEnd" "I") ∈ TT := TT_1 (i := 104) rfl rfl
set_option maxRecDepth 100000 in
theorem kw_105 : (Jvm.Cond.fieldLink "CanBits$Listener" (65 : Nat) "CanBits$Listener" "octetCount" "I") ∈ TT := TT_1 (i := 105) rfl rfl
set_option maxRecDepth 100000 in
theorem kw_107 : (Jvm.Cond.fieldLink "CanBits$Listener" (68 : Nat) "CanBits$Listener" "seen" "I") ∈ TT := TT_1 (i := 107) rfl rfl
set_option maxRecDepth 100000 in
theorem kw_108 : (Jvm.Cond.fieldLink "CanBits$Listener" (71 : Nat) "CanBits$Listener" "isRight" "Z") ∈ TT := TT_1 (i := 108) rfl rfl
set_option maxRecDepth 100000 in
theorem kw_144 : (Jvm.Cond.arrayClass Jvm.ClassFile.FieldType.int) ∈ TT := TT_1 (i := 144) rfl rfl
set_option maxRecDepth 100000 in
theorem kw_145 : (Jvm.Cond.classLink "CanBits$Node" (18 : Nat) "CanBits$Takings") ∈ TT := TT_1 (i := 145) rfl rfl
set_option maxRecDepth 100000 in
theorem kw_146 : (Jvm.Cond.instantiable "CanBits$Takings" (4 : Nat)) ∈ TT := TT_1 (i := 146) rfl rfl
set_option maxRecDepth 100000 in
theorem kw_148 : (Jvm.Cond.instanceMethod ({ cls := "CanBits$Takings", name := "<init>", desc := "()V" } : Jvm.MethodName)) ∈ TT := TT_1 (i := 148) rfl rfl
set_option maxRecDepth 100000 in
theorem kw_149 : (Jvm.Cond.code ({ cls := "CanBits$Takings", name := "<init>", desc := "()V" } : Jvm.MethodName) prog_7_method_1_code (1 : Nat) (Option.none : Option Jvm.ClassFile.FieldType)) ∈ TT := TT_1 (i := 149) rfl rfl
set_option maxRecDepth 100000 in
theorem kw_150 : (Jvm.Cond.methodLink "CanBits$Takings" (3 : Nat) ({ cls := "java/lang/Object", name := "<init>", desc := "()V" } : Jvm.MethodName)) ∈ TT := TT_1 (i := 150) rfl rfl
set_option maxRecDepth 100000 in
theorem kw_151 : (Jvm.Cond.fieldLink "CanBits$Takings" (11 : Nat) "CanBits$Takings" "table" "[I") ∈ TT := TT_1 (i := 151) rfl rfl
set_option maxRecDepth 100000 in
theorem kw_152 : (Jvm.Cond.fieldLink "CanBits$Takings" (15 : Nat) "CanBits$Takings" "octets" "[I") ∈ TT := TT_1 (i := 152) rfl rfl
set_option maxRecDepth 100000 in
theorem kw_153 : (Jvm.Cond.fieldLink "CanBits$Takings" (18 : Nat) "CanBits$Takings" "count" "I") ∈ TT := TT_1 (i := 153) rfl rfl
set_option maxRecDepth 100000 in
theorem kw_155 : (Jvm.Cond.fieldLink "CanBits$Takings" (22 : Nat) "CanBits$Takings" "octetsHeld" "I") ∈ TT := TT_1 (i := 155) rfl rfl
set_option maxRecDepth 100000 in
theorem kw_165 : (Jvm.Cond.fieldLink "CanBits$Node" (12 : Nat) "CanBits$Node" "listener" "LCanBits$Listener;") ∈ TT := TT_1 (i := 165) rfl rfl
set_option maxRecDepth 100000 in
theorem kw_166 : (Jvm.Cond.fieldLink "CanBits$Node" (21 : Nat) "CanBits$Node" "takings" "LCanBits$Takings;") ∈ TT := TT_1 (i := 166) rfl rfl
set_option maxRecDepth 100000 in
theorem kw_168 : (Jvm.Cond.fieldLink "CanBits$Node" (52 : Nat) "CanBits$Node" "state" "I") ∈ TT := TT_1 (i := 168) rfl rfl
set_option maxRecDepth 100000 in
theorem kw_170 : (Jvm.Cond.fieldLink "CanBits$Node" (90 : Nat) "CanBits$Node" "count" "I") ∈ TT := TT_1 (i := 170) rfl rfl
set_option maxRecDepth 100000 in
theorem kw_171 : (Jvm.Cond.fieldLink "CanBits$Node" (32 : Nat) "CanBits$Node" "mask" "I") ∈ TT := TT_1 (i := 171) rfl rfl
set_option maxRecDepth 100000 in
theorem kw_173 : (Jvm.Cond.fieldLink "CanBits$Node" (36 : Nat) "CanBits$Node" "match" "I") ∈ TT := TT_1 (i := 173) rfl rfl
set_option maxRecDepth 100000 in
theorem kw_175 : (Jvm.Cond.fieldLink "CanBits$Node" (39 : Nat) "CanBits$Node" "waiting" "I") ∈ TT := TT_1 (i := 175) rfl rfl
set_option maxRecDepth 100000 in
theorem kw_177 : (Jvm.Cond.fieldLink "CanBits$Node" (42 : Nat) "CanBits$Node" "first" "LCanBits$Frame;") ∈ TT := TT_1 (i := 177) rfl rfl
set_option maxRecDepth 100000 in
theorem kw_179 : (Jvm.Cond.fieldLink "CanBits$Node" (46 : Nat) "CanBits$Node" "sending" "LCanBits$Frame;") ∈ TT := TT_1 (i := 179) rfl rfl
set_option maxRecDepth 100000 in
theorem kw_181 : (Jvm.Cond.fieldLink "CanBits$Node" (49 : Nat) "CanBits$Node" "place" "I") ∈ TT := TT_1 (i := 181) rfl rfl
set_option maxRecDepth 100000 in
theorem kw_203 : (Jvm.Cond.classLink "CanBits" (16 : Nat) "CanBits$Frame") ∈ TT := TT_1 (i := 203) rfl rfl
set_option maxRecDepth 100000 in
theorem kw_205 : (Jvm.Cond.instantiable "CanBits$Frame" (9 : Nat)) ∈ TT := TT_1 (i := 205) rfl rfl
set_option maxRecDepth 100000 in
theorem kw_207 : (Jvm.Cond.instanceMethod ({ cls := "CanBits$Frame", name := "<init>", desc := "()V" } : Jvm.MethodName)) ∈ TT := TT_1 (i := 207) rfl rfl
set_option maxRecDepth 100000 in
theorem kw_208 : (Jvm.Cond.code ({ cls := "CanBits$Frame", name := "<init>", desc := "()V" } : Jvm.MethodName) prog_2_method_1_code (1 : Nat) (Option.none : Option Jvm.ClassFile.FieldType)) ∈ TT := TT_1 (i := 208) rfl rfl
set_option maxRecDepth 100000 in
theorem kw_209 : (Jvm.Cond.methodLink "CanBits$Frame" (3 : Nat) ({ cls := "java/lang/Object", name := "<init>", desc := "()V" } : Jvm.MethodName)) ∈ TT := TT_1 (i := 209) rfl rfl
set_option maxRecDepth 100000 in
theorem kw_210 : (Jvm.Cond.fieldLink "CanBits$Frame" (9 : Nat) "CanBits$Frame" "octets" "[I") ∈ TT := TT_1 (i := 210) rfl rfl
set_option maxRecDepth 100000 in
theorem kw_213 : (Jvm.Cond.fieldLink "CanBits$Frame" (15 : Nat) "CanBits$Frame" "row" "[B") ∈ TT := TT_1 (i := 213) rfl rfl
set_option maxRecDepth 100000 in
theorem kw_215 : (Jvm.Cond.fieldLink "CanBits$Frame" (40 : Nat) "CanBits$Frame" "rowLength" "I") ∈ TT := TT_1 (i := 215) rfl rfl
set_option maxRecDepth 100000 in
theorem kw_218 : (Jvm.Cond.fieldLink "CanBits$Frame" (19 : Nat) "CanBits$Frame" "number" "I") ∈ TT := TT_1 (i := 218) rfl rfl
set_option maxRecDepth 100000 in
theorem kw_220 : (Jvm.Cond.fieldLink "CanBits$Frame" (23 : Nat) "CanBits$Frame" "node" "I") ∈ TT := TT_1 (i := 220) rfl rfl
set_option maxRecDepth 100000 in
theorem kw_223 : (Jvm.Cond.fieldLink "CanBits$Frame" (26 : Nat) "CanBits$Frame" "kind" "I") ∈ TT := TT_1 (i := 223) rfl rfl
set_option maxRecDepth 100000 in
theorem kw_225 : (Jvm.Cond.fieldLink "CanBits$Frame" (36 : Nat) "CanBits$Frame" "head" "J") ∈ TT := TT_1 (i := 225) rfl rfl
set_option maxRecDepth 100000 in
theorem kw_227 : (Jvm.Cond.fieldLink "CanBits$Frame" (29 : Nat) "CanBits$Frame" "octetCount" "I") ∈ TT := TT_1 (i := 227) rfl rfl
set_option maxRecDepth 100000 in
theorem kw_230 : (Jvm.Cond.fieldLink "CanBits$Frame" (32 : Nat) "CanBits$Frame" "isDone" "Z") ∈ TT := TT_1 (i := 230) rfl rfl
set_option maxRecDepth 100000 in
theorem kw_251 : (Jvm.Cond.arrayClass Jvm.ClassFile.FieldType.byte) ∈ TT := TT_2 (i := 11) rfl rfl
set_option maxRecDepth 100000 in
theorem kw_252 : (Jvm.Cond.classLink "CanBits" (23 : Nat) "CanBits$Writer") ∈ TT := TT_2 (i := 12) rfl rfl
set_option maxRecDepth 100000 in
theorem kw_253 : (Jvm.Cond.instantiable "CanBits$Writer" (4 : Nat)) ∈ TT := TT_2 (i := 13) rfl rfl
set_option maxRecDepth 100000 in
theorem kw_255 : (Jvm.Cond.instanceMethod ({ cls := "CanBits$Writer", name := "<init>", desc := "()V" } : Jvm.MethodName)) ∈ TT := TT_2 (i := 15) rfl rfl
set_option maxRecDepth 100000 in
theorem kw_256 : (Jvm.Cond.code ({ cls := "CanBits$Writer", name := "<init>", desc := "()V" } : Jvm.MethodName) prog_8_method_1_code (1 : Nat) (Option.none : Option Jvm.ClassFile.FieldType)) ∈ TT := TT_2 (i := 16) rfl rfl
set_option maxRecDepth 100000 in
theorem kw_257 : (Jvm.Cond.methodLink "CanBits$Writer" (3 : Nat) ({ cls := "java/lang/Object", name := "<init>", desc := "()V" } : Jvm.MethodName)) ∈ TT := TT_2 (i := 17) rfl rfl
set_option maxRecDepth 100000 in
theorem kw_258 : (Jvm.Cond.classLink "CanBits$Writer" (9 : Nat) "CanBits$Sums") ∈ TT := TT_2 (i := 18) rfl rfl
set_option maxRecDepth 100000 in
theorem kw_260 : (Jvm.Cond.fieldLink "CanBits$Writer" (12 : Nat) "CanBits$Writer" "sums" "LCanBits$Sums;") ∈ TT := TT_2 (i := 20) rfl rfl
set_option maxRecDepth 100000 in
theorem kw_262 : (Jvm.Cond.fieldLink "CanBits$Writer" (81 : Nat) "CanBits$Writer" "last" "I") ∈ TT := TT_2 (i := 22) rfl rfl
set_option maxRecDepth 100000 in
theorem kw_263 : (Jvm.Cond.fieldLink "CanBits$Writer" (84 : Nat) "CanBits$Writer" "run" "I") ∈ TT := TT_2 (i := 23) rfl rfl
set_option maxRecDepth 100000 in
theorem kw_264 : (Jvm.Cond.fieldLink "CanBits$Writer" (87 : Nat) "CanBits$Writer" "stuffBits" "I") ∈ TT := TT_2 (i := 24) rfl rfl
set_option maxRecDepth 100000 in
theorem kw_274 : (Jvm.Cond.constant "CanBits" (44 : Nat) (80000 : Int32)) ∈ TT := TT_2 (i := 34) rfl rfl
set_option maxRecDepth 100000 in
theorem kw_275 : (Jvm.Cond.methodLink "CanBits" (48 : Nat) ({ cls := "CanBits", name := "begin", desc := "(I)V" } : Jvm.MethodName)) ∈ TT := TT_2 (i := 35) rfl rfl
set_option maxRecDepth 100000 in
theorem kw_277 : (Jvm.Cond.instanceMethod ({ cls := "CanBits", name := "begin", desc := "(I)V" } : Jvm.MethodName)) ∈ TT := TT_2 (i := 37) rfl rfl
set_option maxRecDepth 100000 in
theorem kw_278 : (Jvm.Cond.code ({ cls := "CanBits", name := "begin", desc := "(I)V" } : Jvm.MethodName) prog_1_method_22_code (3 : Nat) (Option.none : Option Jvm.ClassFile.FieldType)) ∈ TT := TT_2 (i := 38) rfl rfl
set_option maxRecDepth 100000 in
theorem kw_279 : (Jvm.Cond.methodLink "CanBits" (259 : Nat) ({ cls := "CanBits$Node", name := "begin", desc := "()V" } : Jvm.MethodName)) ∈ TT := TT_2 (i := 39) rfl rfl
set_option maxRecDepth 100000 in
theorem kw_280 : (Jvm.Cond.instanceMethod ({ cls := "CanBits$Node", name := "begin", desc := "()V" } : Jvm.MethodName)) ∈ TT := TT_2 (i := 40) rfl rfl
set_option maxRecDepth 100000 in
theorem kw_281 : (Jvm.Cond.selects "CanBits$Node" ({ cls := "CanBits$Node", name := "begin", desc := "()V" } : Jvm.MethodName) ({ cls := "CanBits$Node", name := "begin", desc := "()V" } : Jvm.MethodName)) ∈ TT := TT_2 (i := 41) rfl rfl
set_option maxRecDepth 100000 in
theorem kw_282 : (Jvm.Cond.code ({ cls := "CanBits$Node", name := "begin", desc := "()V" } : Jvm.MethodName) prog_4_method_2_code (1 : Nat) (Option.none : Option Jvm.ClassFile.FieldType)) ∈ TT := TT_2 (i := 42) rfl rfl
set_option maxRecDepth 100000 in
theorem kw_283 : (Jvm.Cond.methodLink "CanBits$Node" (25 : Nat) ({ cls := "CanBits$Takings", name := "begin", desc := "()V" } : Jvm.MethodName)) ∈ TT := TT_2 (i := 43) rfl rfl
set_option maxRecDepth 100000 in
theorem kw_284 : (Jvm.Cond.instanceMethod ({ cls := "CanBits$Takings", name := "begin", desc := "()V" } : Jvm.MethodName)) ∈ TT := TT_2 (i := 44) rfl rfl
set_option maxRecDepth 100000 in
theorem kw_285 : (Jvm.Cond.selects "CanBits$Takings" ({ cls := "CanBits$Takings", name := "begin", desc := "()V" } : Jvm.MethodName) ({ cls := "CanBits$Takings", name := "begin", desc := "()V" } : Jvm.MethodName)) ∈ TT := TT_2 (i := 45) rfl rfl
set_option maxRecDepth 100000 in
theorem kw_286 : (Jvm.Cond.code ({ cls := "CanBits$Takings", name := "begin", desc := "()V" } : Jvm.MethodName) prog_7_method_2_code (1 : Nat) (Option.none : Option Jvm.ClassFile.FieldType)) ∈ TT := TT_2 (i := 46) rfl rfl
set_option maxRecDepth 100000 in
theorem kw_287 : (Jvm.Cond.methodLink "CanBits$Node" (28 : Nat) ({ cls := "CanBits$Node", name := "enter", desc := "(I)V" } : Jvm.MethodName)) ∈ TT := TT_2 (i := 47) rfl rfl
set_option maxRecDepth 100000 in
theorem kw_289 : (Jvm.Cond.instanceMethod ({ cls := "CanBits$Node", name := "enter", desc := "(I)V" } : Jvm.MethodName)) ∈ TT := TT_2 (i := 49) rfl rfl
set_option maxRecDepth 100000 in
theorem kw_290 : (Jvm.Cond.code ({ cls := "CanBits$Node", name := "enter", desc := "(I)V" } : Jvm.MethodName) prog_4_method_6_code (2 : Nat) (Option.none : Option Jvm.ClassFile.FieldType)) ∈ TT := TT_2 (i := 50) rfl rfl
set_option maxRecDepth 100000 in
theorem kw_291 : (Jvm.Cond.fieldLink "CanBits" (11 : Nat) "CanBits" "members" "[LCanBits$Node;") ∈ TT := TT_2 (i := 51) rfl rfl
set_option maxRecDepth 100000 in
theorem kw_292 : (Jvm.Cond.fieldLink "CanBits" (18 : Nat) "CanBits" "frames" "[LCanBits$Frame;") ∈ TT := TT_2 (i := 52) rfl rfl
set_option maxRecDepth 100000 in
theorem kw_293 : (Jvm.Cond.fieldLink "CanBits" (26 : Nat) "CanBits" "writer" "LCanBits$Writer;") ∈ TT := TT_2 (i := 53) rfl rfl
set_option maxRecDepth 100000 in
theorem kw_294 : (Jvm.Cond.fieldLink "CanBits" (30 : Nat) "CanBits" "bus" "[B") ∈ TT := TT_2 (i := 54) rfl rfl
set_option maxRecDepth 100000 in
theorem kw_295 : (Jvm.Cond.fieldLink "CanBits" (34 : Nat) "CanBits" "flips" "[I") ∈ TT := TT_2 (i := 55) rfl rfl
set_option maxRecDepth 100000 in
theorem kw_296 : (Jvm.Cond.fieldLink "CanBits" (38 : Nat) "CanBits" "doneFrames" "[I") ∈ TT := TT_2 (i := 56) rfl rfl
set_option maxRecDepth 100000 in
theorem kw_297 : (Jvm.Cond.fieldLink "CanBits" (41 : Nat) "CanBits" "doneTimes" "[I") ∈ TT := TT_2 (i := 57) rfl rfl
set_option maxRecDepth 100000 in
theorem kw_298 : (Jvm.Cond.fieldLink "CanBits" (45 : Nat) "CanBits" "errors" "[I") ∈ TT := TT_2 (i := 58) rfl rfl
set_option maxRecDepth 100000 in
theorem kw_299 : (Jvm.Cond.fieldLink "CanBits" (179 : Nat) "CanBits" "memberCount" "I") ∈ TT := TT_2 (i := 59) rfl rfl
set_option maxRecDepth 100000 in
theorem kw_300 : (Jvm.Cond.fieldLink "CanBits" (78 : Nat) "CanBits" "frameCount" "I") ∈ TT := TT_2 (i := 60) rfl rfl
set_option maxRecDepth 100000 in
theorem kw_301 : (Jvm.Cond.fieldLink "CanBits" (172 : Nat) "CanBits" "doneCount" "I") ∈ TT := TT_2 (i := 61) rfl rfl
set_option maxRecDepth 100000 in
theorem kw_302 : (Jvm.Cond.fieldLink "CanBits" (248 : Nat) "CanBits" "errorCount" "I") ∈ TT := TT_2 (i := 62) rfl rfl
set_option maxRecDepth 100000 in
theorem kw_303 : (Jvm.Cond.fieldLink "CanBits" (160 : Nat) "CanBits" "flipsEnd" "I") ∈ TT := TT_2 (i := 63) rfl rfl
set_option maxRecDepth 100000 in
theorem kw_304 : (Jvm.Cond.fieldLink "CanBits" (155 : Nat) "CanBits" "now" "I") ∈ TT := TT_2 (i := 64) rfl rfl
set_option maxRecDepth 100000 in
theorem kw_334 : (Jvm.Cond.methodLink "CanBitsLaw" (107 : Nat) ({ cls := "CanBits", name := "time", desc := "()I" } : Jvm.MethodName)) ∈ TT := TT_2 (i := 94) rfl rfl
set_option maxRecDepth 100000 in
theorem kw_335 : (Jvm.Cond.instanceMethod ({ cls := "CanBits", name := "time", desc := "()I" } : Jvm.MethodName)) ∈ TT := TT_2 (i := 95) rfl rfl
set_option maxRecDepth 100000 in
theorem kw_336 : (Jvm.Cond.selects "CanBits" ({ cls := "CanBits", name := "time", desc := "()I" } : Jvm.MethodName) ({ cls := "CanBits", name := "time", desc := "()I" } : Jvm.MethodName)) ∈ TT := TT_2 (i := 96) rfl rfl
set_option maxRecDepth 100000 in
theorem kw_337 : (Jvm.Cond.code ({ cls := "CanBits", name := "time", desc := "()I" } : Jvm.MethodName) prog_1_method_9_code (1 : Nat) (Option.some Jvm.ClassFile.FieldType.int)) ∈ TT := TT_2 (i := 97) rfl rfl
set_option maxRecDepth 100000 in
theorem kw_338 : (Jvm.Cond.methodLink "CanBitsLaw" (75 : Nat) ({ cls := "CanBitsLaw", name := "nodes", desc := "(LCanBits;I)I" } : Jvm.MethodName)) ∈ TT := TT_2 (i := 98) rfl rfl
set_option maxRecDepth 100000 in
theorem kw_339 : (Jvm.Cond.static ({ cls := "CanBitsLaw", name := "nodes", desc := "(LCanBits;I)I" } : Jvm.MethodName)) ∈ TT := TT_2 (i := 99) rfl rfl
set_option maxRecDepth 100000 in
theorem kw_340 : (Jvm.Cond.codeWith ({ cls := "CanBitsLaw", name := "nodes", desc := "(LCanBits;I)I" } : Jvm.MethodName) method_3_code (3 : Nat) (Option.some Jvm.ClassFile.FieldType.int) [((0 : Nat), (5 : Nat), (8 : Nat), (13 : Nat)), ((0 : Nat), (5 : Nat), (11 : Nat), (15 : Nat))]) ∈ TT := TT_2 (i := 100) rfl rfl
set_option maxRecDepth 100000 in
theorem kw_341 : (Jvm.Cond.classLink "CanBitsLaw" (13 : Nat) "java/lang/IllegalArgumentException") ∈ TT := TT_2 (i := 101) rfl rfl
set_option maxRecDepth 100000 in
theorem kw_342 : (Jvm.Cond.classLink "CanBitsLaw" (15 : Nat) "java/lang/NegativeArraySizeException") ∈ TT := TT_2 (i := 102) rfl rfl
set_option maxRecDepth 100000 in
theorem kw_343 : (Jvm.Cond.instantiable "java/lang/NegativeArraySizeException" (6 : Nat)) ∈ TT := TT_2 (i := 103) rfl rfl
set_option maxRecDepth 100000 in
theorem kw_344 : (Jvm.Cond.instanceMethod ({ cls := "java/lang/NegativeArraySizeException", name := "<init>", desc := "(Ljava/lang/String;)V" } : Jvm.MethodName)) ∈ TT := TT_2 (i := 104) rfl rfl
set_option maxRecDepth 100000 in
theorem kw_345 : (Jvm.Cond.code ({ cls := "java/lang/NegativeArraySizeException", name := "<init>", desc := "(Ljava/lang/String;)V" } : Jvm.MethodName) prog_18_method_2_code (2 : Nat) (Option.none : Option Jvm.ClassFile.FieldType)) ∈ TT := TT_2 (i := 105) rfl rfl
set_option maxRecDepth 100000 in
theorem kw_346 : (Jvm.Cond.methodLink "java/lang/NegativeArraySizeException" (7 : Nat) ({ cls := "java/lang/RuntimeException", name := "<init>", desc := "(Ljava/lang/String;)V" } : Jvm.MethodName)) ∈ TT := TT_2 (i := 106) rfl rfl
set_option maxRecDepth 100000 in
theorem kw_347 : (Jvm.Cond.instanceMethod ({ cls := "java/lang/RuntimeException", name := "<init>", desc := "(Ljava/lang/String;)V" } : Jvm.MethodName)) ∈ TT := TT_2 (i := 107) rfl rfl
set_option maxRecDepth 100000 in
theorem kw_348 : (Jvm.Cond.code ({ cls := "java/lang/RuntimeException", name := "<init>", desc := "(Ljava/lang/String;)V" } : Jvm.MethodName) prog_19_method_2_code (2 : Nat) (Option.none : Option Jvm.ClassFile.FieldType)) ∈ TT := TT_2 (i := 108) rfl rfl
set_option maxRecDepth 100000 in
theorem kw_349 : (Jvm.Cond.methodLink "java/lang/RuntimeException" (7 : Nat) ({ cls := "java/lang/Exception", name := "<init>", desc := "(Ljava/lang/String;)V" } : Jvm.MethodName)) ∈ TT := TT_2 (i := 109) rfl rfl
set_option maxRecDepth 100000 in
theorem kw_350 : (Jvm.Cond.instanceMethod ({ cls := "java/lang/Exception", name := "<init>", desc := "(Ljava/lang/String;)V" } : Jvm.MethodName)) ∈ TT := TT_2 (i := 110) rfl rfl
set_option maxRecDepth 100000 in
theorem kw_351 : (Jvm.Cond.code ({ cls := "java/lang/Exception", name := "<init>", desc := "(Ljava/lang/String;)V" } : Jvm.MethodName) prog_12_method_2_code (2 : Nat) (Option.none : Option Jvm.ClassFile.FieldType)) ∈ TT := TT_2 (i := 111) rfl rfl
set_option maxRecDepth 100000 in
theorem kw_352 : (Jvm.Cond.methodLink "java/lang/Exception" (7 : Nat) ({ cls := "java/lang/Throwable", name := "<init>", desc := "(Ljava/lang/String;)V" } : Jvm.MethodName)) ∈ TT := TT_2 (i := 112) rfl rfl
set_option maxRecDepth 100000 in
theorem kw_353 : (Jvm.Cond.instanceMethod ({ cls := "java/lang/Throwable", name := "<init>", desc := "(Ljava/lang/String;)V" } : Jvm.MethodName)) ∈ TT := TT_2 (i := 113) rfl rfl
set_option maxRecDepth 100000 in
theorem kw_354 : (Jvm.Cond.code ({ cls := "java/lang/Throwable", name := "<init>", desc := "(Ljava/lang/String;)V" } : Jvm.MethodName) prog_21_method_2_code (2 : Nat) (Option.none : Option Jvm.ClassFile.FieldType)) ∈ TT := TT_2 (i := 114) rfl rfl
set_option maxRecDepth 100000 in
theorem kw_355 : (Jvm.Cond.methodLink "java/lang/Throwable" (1 : Nat) ({ cls := "java/lang/Object", name := "<init>", desc := "()V" } : Jvm.MethodName)) ∈ TT := TT_2 (i := 115) rfl rfl
set_option maxRecDepth 100000 in
theorem kw_356 : (Jvm.Cond.fieldLink "java/lang/Throwable" (13 : Nat) "java/lang/Throwable" "UNASSIGNED_STACK" "[Ljava/lang/StackTraceElement;") ∈ TT := TT_2 (i := 116) rfl rfl
set_option maxRecDepth 100000 in
theorem kw_358 : (Jvm.Cond.fieldLink "java/lang/Throwable" (20 : Nat) "java/lang/Throwable" "SUPPRESSED_SENTINEL" "Ljava/util/List;") ∈ TT := TT_2 (i := 118) rfl rfl
set_option maxRecDepth 100000 in
theorem kw_360 : (Jvm.Cond.methodLink "java/lang/Throwable" (27 : Nat) ({ cls := "java/lang/Throwable", name := "fillInStackTrace", desc := "()Ljava/lang/Throwable;" } : Jvm.MethodName)) ∈ TT := TT_2 (i := 120) rfl rfl
set_option maxRecDepth 100000 in
theorem kw_361 : (Jvm.Cond.instanceMethod ({ cls := "java/lang/Throwable", name := "fillInStackTrace", desc := "()Ljava/lang/Throwable;" } : Jvm.MethodName)) ∈ TT := TT_2 (i := 121) rfl rfl
set_option maxRecDepth 100000 in
theorem kw_363 : (Jvm.Cond.selects "java/lang/ArrayIndexOutOfBoundsException" ({ cls := "java/lang/Throwable", name := "fillInStackTrace", desc := "()Ljava/lang/Throwable;" } : Jvm.MethodName) ({ cls := "java/lang/Throwable", name := "fillInStackTrace", desc := "()Ljava/lang/Throwable;" } : Jvm.MethodName)) ∈ TT := TT_2 (i := 123) rfl rfl
set_option maxRecDepth 100000 in
theorem kw_364 : (Jvm.Cond.selects "java/lang/IllegalArgumentException" ({ cls := "java/lang/Throwable", name := "fillInStackTrace", desc := "()Ljava/lang/Throwable;" } : Jvm.MethodName) ({ cls := "java/lang/Throwable", name := "fillInStackTrace", desc := "()Ljava/lang/Throwable;" } : Jvm.MethodName)) ∈ TT := TT_2 (i := 124) rfl rfl
set_option maxRecDepth 100000 in
theorem kw_365 : (Jvm.Cond.selects "java/lang/IllegalStateException" ({ cls := "java/lang/Throwable", name := "fillInStackTrace", desc := "()Ljava/lang/Throwable;" } : Jvm.MethodName) ({ cls := "java/lang/Throwable", name := "fillInStackTrace", desc := "()Ljava/lang/Throwable;" } : Jvm.MethodName)) ∈ TT := TT_2 (i := 125) rfl rfl
set_option maxRecDepth 100000 in
theorem kw_366 : (Jvm.Cond.selects "java/lang/IndexOutOfBoundsException" ({ cls := "java/lang/Throwable", name := "fillInStackTrace", desc := "()Ljava/lang/Throwable;" } : Jvm.MethodName) ({ cls := "java/lang/Throwable", name := "fillInStackTrace", desc := "()Ljava/lang/Throwable;" } : Jvm.MethodName)) ∈ TT := TT_2 (i := 126) rfl rfl
set_option maxRecDepth 100000 in
theorem kw_367 : (Jvm.Cond.selects "java/lang/NegativeArraySizeException" ({ cls := "java/lang/Throwable", name := "fillInStackTrace", desc := "()Ljava/lang/Throwable;" } : Jvm.MethodName) ({ cls := "java/lang/Throwable", name := "fillInStackTrace", desc := "()Ljava/lang/Throwable;" } : Jvm.MethodName)) ∈ TT := TT_2 (i := 127) rfl rfl
set_option maxRecDepth 100000 in
theorem kw_369 : (Jvm.Cond.methodLink "java/lang/Throwable" (202 : Nat) ({ cls := "java/lang/Throwable", name := "fillInStackTrace", desc := "(I)Ljava/lang/Throwable;" } : Jvm.MethodName)) ∈ TT := TT_2 (i := 129) rfl rfl
set_option maxRecDepth 100000 in
theorem kw_371 : (Jvm.Cond.instanceMethod ({ cls := "java/lang/Throwable", name := "fillInStackTrace", desc := "(I)Ljava/lang/Throwable;" } : Jvm.MethodName)) ∈ TT := TT_2 (i := 131) rfl rfl
set_option maxRecDepth 100000 in
theorem kw_372 : (Jvm.Cond.instantiable "java/lang/Throwable" (6 : Nat)) ∈ TT := TT_2 (i := 132) rfl rfl
set_option maxRecDepth 100000 in
theorem kw_374 : (Jvm.Cond.fieldLink "java/lang/Throwable" (198 : Nat) "java/lang/Throwable" "backtrace" "Ljava/lang/Object;") ∈ TT := TT_2 (i := 134) rfl rfl
set_option maxRecDepth 100000 in
theorem kw_375 : (Jvm.Cond.fieldLink "java/lang/Throwable" (31 : Nat) "java/lang/Throwable" "detailMessage" "Ljava/lang/String;") ∈ TT := TT_2 (i := 135) rfl rfl
set_option maxRecDepth 100000 in
theorem kw_376 : (Jvm.Cond.fieldLink "java/lang/Throwable" (7 : Nat) "java/lang/Throwable" "cause" "Ljava/lang/Throwable;") ∈ TT := TT_2 (i := 136) rfl rfl
set_option maxRecDepth 100000 in
theorem kw_377 : (Jvm.Cond.fieldLink "java/lang/Throwable" (17 : Nat) "java/lang/Throwable" "stackTrace" "[Ljava/lang/StackTraceElement;") ∈ TT := TT_2 (i := 137) rfl rfl
set_option maxRecDepth 100000 in
theorem kw_378 : (Jvm.Cond.fieldLink "java/lang/Throwable" (24 : Nat) "java/lang/Throwable" "suppressedExceptions" "Ljava/util/List;") ∈ TT := TT_2 (i := 138) rfl rfl
set_option maxRecDepth 100000 in
theorem kw_399 : (Jvm.Cond.selects "java/lang/NegativeArraySizeException" ({ cls := "java/lang/Throwable", name := "fillInStackTrace", desc := "(I)Ljava/lang/Throwable;" } : Jvm.MethodName) ({ cls := "java/lang/Throwable", name := "fillInStackTrace", desc := "(I)Ljava/lang/Throwable;" } : Jvm.MethodName)) ∈ TT := TT_2 (i := 159) rfl rfl
set_option maxRecDepth 100000 in
theorem kw_407 : (Jvm.Cond.instanceMethod ({ cls := "java/lang/Throwable", name := "<init>", desc := "()V" } : Jvm.MethodName)) ∈ TT := TT_2 (i := 167) rfl rfl
set_option maxRecDepth 100000 in
theorem kw_408 : (Jvm.Cond.code ({ cls := "java/lang/Throwable", name := "<init>", desc := "()V" } : Jvm.MethodName) prog_21_method_1_code (1 : Nat) (Option.none : Option Jvm.ClassFile.FieldType)) ∈ TT := TT_2 (i := 168) rfl rfl
set_option maxRecDepth 100000 in
theorem kw_409 : (Jvm.Cond.instantiable "java/lang/String" (4 : Nat)) ∈ TT := TT_2 (i := 169) rfl rfl
set_option maxRecDepth 100000 in
theorem kw_414 : (Jvm.Cond.methodLink "CanBitsLaw" (7 : Nat) ({ cls := "CanBits", name := "nodes", desc := "(I)V" } : Jvm.MethodName)) ∈ TT := TT_2 (i := 174) rfl rfl
set_option maxRecDepth 100000 in
theorem kw_415 : (Jvm.Cond.instanceMethod ({ cls := "CanBits", name := "nodes", desc := "(I)V" } : Jvm.MethodName)) ∈ TT := TT_2 (i := 175) rfl rfl
set_option maxRecDepth 100000 in
theorem kw_416 : (Jvm.Cond.selects "CanBits" ({ cls := "CanBits", name := "nodes", desc := "(I)V" } : Jvm.MethodName) ({ cls := "CanBits", name := "nodes", desc := "(I)V" } : Jvm.MethodName)) ∈ TT := TT_2 (i := 176) rfl rfl
set_option maxRecDepth 100000 in
theorem kw_417 : (Jvm.Cond.code ({ cls := "CanBits", name := "nodes", desc := "(I)V" } : Jvm.MethodName) prog_1_method_2_code (2 : Nat) (Option.none : Option Jvm.ClassFile.FieldType)) ∈ TT := TT_2 (i := 177) rfl rfl
set_option maxRecDepth 100000 in
theorem kw_418 : (Jvm.Cond.classLink "CanBits" (52 : Nat) "java/lang/IllegalArgumentException") ∈ TT := TT_2 (i := 178) rfl rfl
set_option maxRecDepth 100000 in
theorem kw_419 : (Jvm.Cond.instantiable "java/lang/IllegalArgumentException" (6 : Nat)) ∈ TT := TT_2 (i := 179) rfl rfl
set_option maxRecDepth 100000 in
theorem kw_421 : (Jvm.Cond.selects "java/lang/IllegalArgumentException" ({ cls := "java/lang/Throwable", name := "fillInStackTrace", desc := "(I)Ljava/lang/Throwable;" } : Jvm.MethodName) ({ cls := "java/lang/Throwable", name := "fillInStackTrace", desc := "(I)Ljava/lang/Throwable;" } : Jvm.MethodName)) ∈ TT := TT_2 (i := 181) rfl rfl
set_option maxRecDepth 100000 in
theorem kw_428 : (Jvm.Cond.methodLink "CanBits" (56 : Nat) ({ cls := "java/lang/IllegalArgumentException", name := "<init>", desc := "(Ljava/lang/String;)V" } : Jvm.MethodName)) ∈ TT := TT_2 (i := 188) rfl rfl
set_option maxRecDepth 100000 in
theorem kw_429 : (Jvm.Cond.instanceMethod ({ cls := "java/lang/IllegalArgumentException", name := "<init>", desc := "(Ljava/lang/String;)V" } : Jvm.MethodName)) ∈ TT := TT_2 (i := 189) rfl rfl
set_option maxRecDepth 100000 in
theorem kw_430 : (Jvm.Cond.code ({ cls := "java/lang/IllegalArgumentException", name := "<init>", desc := "(Ljava/lang/String;)V" } : Jvm.MethodName) prog_13_method_2_code (2 : Nat) (Option.none : Option Jvm.ClassFile.FieldType)) ∈ TT := TT_2 (i := 190) rfl rfl
set_option maxRecDepth 100000 in
theorem kw_431 : (Jvm.Cond.methodLink "java/lang/IllegalArgumentException" (7 : Nat) ({ cls := "java/lang/RuntimeException", name := "<init>", desc := "(Ljava/lang/String;)V" } : Jvm.MethodName)) ∈ TT := TT_2 (i := 191) rfl rfl
set_option maxRecDepth 100000 in
theorem kw_434 : (Jvm.Cond.classLink "CanBits" (59 : Nat) "java/lang/NegativeArraySizeException") ∈ TT := TT_2 (i := 194) rfl rfl
set_option maxRecDepth 100000 in
theorem kw_436 : (Jvm.Cond.methodLink "CanBits" (63 : Nat) ({ cls := "java/lang/NegativeArraySizeException", name := "<init>", desc := "(Ljava/lang/String;)V" } : Jvm.MethodName)) ∈ TT := TT_2 (i := 196) rfl rfl
set_option maxRecDepth 100000 in
theorem kw_437 : (Jvm.Cond.methodLink "CanBitsLaw" (85 : Nat) ({ cls := "CanBitsLaw", name := "send", desc := "(LCanBits;IIII[J)I" } : Jvm.MethodName)) ∈ TT := TT_2 (i := 197) rfl rfl
set_option maxRecDepth 100000 in
theorem kw_438 : (Jvm.Cond.static ({ cls := "CanBitsLaw", name := "send", desc := "(LCanBits;IIII[J)I" } : Jvm.MethodName)) ∈ TT := TT_2 (i := 198) rfl rfl
set_option maxRecDepth 100000 in
theorem kw_439 : (Jvm.Cond.codeWith ({ cls := "CanBitsLaw", name := "send", desc := "(LCanBits;IIII[J)I" } : Jvm.MethodName) method_4_code (7 : Nat) (Option.some Jvm.ClassFile.FieldType.int) [((0 : Nat), (14 : Nat), (17 : Nat), (21 : Nat)), ((0 : Nat), (14 : Nat), (21 : Nat), (13 : Nat)), ((0 : Nat), (14 : Nat), (25 : Nat), (23 : Nat))]) ∈ TT := TT_2 (i := 199) rfl rfl
set_option maxRecDepth 100000 in
theorem kw_440 : (Jvm.Cond.classLink "CanBitsLaw" (21 : Nat) "java/lang/IndexOutOfBoundsException") ∈ TT := TT_2 (i := 200) rfl rfl
set_option maxRecDepth 100000 in
theorem kw_441 : (Jvm.Cond.instantiable "java/lang/ArrayIndexOutOfBoundsException" (6 : Nat)) ∈ TT := TT_2 (i := 201) rfl rfl
set_option maxRecDepth 100000 in
theorem kw_442 : (Jvm.Cond.instanceMethod ({ cls := "java/lang/ArrayIndexOutOfBoundsException", name := "<init>", desc := "(Ljava/lang/String;)V" } : Jvm.MethodName)) ∈ TT := TT_2 (i := 202) rfl rfl
set_option maxRecDepth 100000 in
theorem kw_443 : (Jvm.Cond.code ({ cls := "java/lang/ArrayIndexOutOfBoundsException", name := "<init>", desc := "(Ljava/lang/String;)V" } : Jvm.MethodName) prog_11_method_2_code (2 : Nat) (Option.none : Option Jvm.ClassFile.FieldType)) ∈ TT := TT_2 (i := 203) rfl rfl
set_option maxRecDepth 100000 in
theorem kw_444 : (Jvm.Cond.methodLink "java/lang/ArrayIndexOutOfBoundsException" (7 : Nat) ({ cls := "java/lang/IndexOutOfBoundsException", name := "<init>", desc := "(Ljava/lang/String;)V" } : Jvm.MethodName)) ∈ TT := TT_2 (i := 204) rfl rfl
set_option maxRecDepth 100000 in
theorem kw_445 : (Jvm.Cond.instanceMethod ({ cls := "java/lang/IndexOutOfBoundsException", name := "<init>", desc := "(Ljava/lang/String;)V" } : Jvm.MethodName)) ∈ TT := TT_2 (i := 205) rfl rfl
set_option maxRecDepth 100000 in
theorem kw_446 : (Jvm.Cond.code ({ cls := "java/lang/IndexOutOfBoundsException", name := "<init>", desc := "(Ljava/lang/String;)V" } : Jvm.MethodName) prog_15_method_2_code (2 : Nat) (Option.none : Option Jvm.ClassFile.FieldType)) ∈ TT := TT_2 (i := 206) rfl rfl
set_option maxRecDepth 100000 in
theorem kw_447 : (Jvm.Cond.methodLink "java/lang/IndexOutOfBoundsException" (7 : Nat) ({ cls := "java/lang/RuntimeException", name := "<init>", desc := "(Ljava/lang/String;)V" } : Jvm.MethodName)) ∈ TT := TT_2 (i := 207) rfl rfl
set_option maxRecDepth 100000 in
theorem kw_458 : (Jvm.Cond.selects "java/lang/ArrayIndexOutOfBoundsException" ({ cls := "java/lang/Throwable", name := "fillInStackTrace", desc := "(I)Ljava/lang/Throwable;" } : Jvm.MethodName) ({ cls := "java/lang/Throwable", name := "fillInStackTrace", desc := "(I)Ljava/lang/Throwable;" } : Jvm.MethodName)) ∈ TT := TT_2 (i := 218) rfl rfl
set_option maxRecDepth 100000 in
theorem kw_459 : (Jvm.Cond.classLink "CanBitsLaw" (23 : Nat) "java/lang/IllegalStateException") ∈ TT := TT_2 (i := 219) rfl rfl
set_option maxRecDepth 100000 in
theorem kw_460 : (Jvm.Cond.methodLink "CanBitsLaw" (17 : Nat) ({ cls := "CanBits", name := "send", desc := "(IIII)I" } : Jvm.MethodName)) ∈ TT := TT_2 (i := 220) rfl rfl
set_option maxRecDepth 100000 in
theorem kw_461 : (Jvm.Cond.instanceMethod ({ cls := "CanBits", name := "send", desc := "(IIII)I" } : Jvm.MethodName)) ∈ TT := TT_2 (i := 221) rfl rfl
set_option maxRecDepth 100000 in
theorem kw_462 : (Jvm.Cond.selects "CanBits" ({ cls := "CanBits", name := "send", desc := "(IIII)I" } : Jvm.MethodName) ({ cls := "CanBits", name := "send", desc := "(IIII)I" } : Jvm.MethodName)) ∈ TT := TT_2 (i := 222) rfl rfl
set_option maxRecDepth 100000 in
theorem kw_463 : (Jvm.Cond.code ({ cls := "CanBits", name := "send", desc := "(IIII)I" } : Jvm.MethodName) prog_1_method_3_code (7 : Nat) (Option.some Jvm.ClassFile.FieldType.int)) ∈ TT := TT_2 (i := 223) rfl rfl
set_option maxRecDepth 100000 in
theorem kw_464 : (Jvm.Cond.methodLink "CanBits" (64 : Nat) ({ cls := "CanBits", name := "needNode", desc := "(I)V" } : Jvm.MethodName)) ∈ TT := TT_2 (i := 224) rfl rfl
set_option maxRecDepth 100000 in
theorem kw_466 : (Jvm.Cond.instanceMethod ({ cls := "CanBits", name := "needNode", desc := "(I)V" } : Jvm.MethodName)) ∈ TT := TT_2 (i := 226) rfl rfl
set_option maxRecDepth 100000 in
theorem kw_467 : (Jvm.Cond.code ({ cls := "CanBits", name := "needNode", desc := "(I)V" } : Jvm.MethodName) prog_1_method_18_code (2 : Nat) (Option.none : Option Jvm.ClassFile.FieldType)) ∈ TT := TT_2 (i := 227) rfl rfl
set_option maxRecDepth 100000 in
theorem kw_468 : (Jvm.Cond.classLink "CanBits" (123 : Nat) "java/lang/IndexOutOfBoundsException") ∈ TT := TT_2 (i := 228) rfl rfl
set_option maxRecDepth 100000 in
theorem kw_469 : (Jvm.Cond.instantiable "java/lang/IndexOutOfBoundsException" (6 : Nat)) ∈ TT := TT_2 (i := 229) rfl rfl
set_option maxRecDepth 100000 in
theorem kw_471 : (Jvm.Cond.selects "java/lang/IndexOutOfBoundsException" ({ cls := "java/lang/Throwable", name := "fillInStackTrace", desc := "(I)Ljava/lang/Throwable;" } : Jvm.MethodName) ({ cls := "java/lang/Throwable", name := "fillInStackTrace", desc := "(I)Ljava/lang/Throwable;" } : Jvm.MethodName)) ∈ TT := TT_2 (i := 231) rfl rfl
set_option maxRecDepth 100000 in
theorem kw_478 : (Jvm.Cond.methodLink "CanBits" (127 : Nat) ({ cls := "java/lang/IndexOutOfBoundsException", name := "<init>", desc := "(Ljava/lang/String;)V" } : Jvm.MethodName)) ∈ TT := TT_2 (i := 238) rfl rfl
set_option maxRecDepth 100000 in
theorem kw_482 : (Jvm.Cond.methodLink "CanBits" (69 : Nat) ({ cls := "CanBits", name := "isLong", desc := "(I)Z" } : Jvm.MethodName)) ∈ TT := TT_3 (i := 2) rfl rfl
set_option maxRecDepth 100000 in
theorem kw_483 : (Jvm.Cond.static ({ cls := "CanBits", name := "isLong", desc := "(I)Z" } : Jvm.MethodName)) ∈ TT := TT_3 (i := 3) rfl rfl
set_option maxRecDepth 100000 in
theorem kw_484 : (Jvm.Cond.code ({ cls := "CanBits", name := "isLong", desc := "(I)Z" } : Jvm.MethodName) prog_1_method_27_code (1 : Nat) (Option.some Jvm.ClassFile.FieldType.boolean)) ∈ TT := TT_3 (i := 4) rfl rfl
set_option maxRecDepth 100000 in
theorem kw_485 : (Jvm.Cond.constant "CanBits" (73 : Nat) (536870912 : Int32)) ∈ TT := TT_3 (i := 5) rfl rfl
set_option maxRecDepth 100000 in
theorem kw_488 : (Jvm.Cond.classLink "CanBits" (82 : Nat) "java/lang/IllegalStateException") ∈ TT := TT_3 (i := 8) rfl rfl
set_option maxRecDepth 100000 in
theorem kw_489 : (Jvm.Cond.instantiable "java/lang/IllegalStateException" (6 : Nat)) ∈ TT := TT_3 (i := 9) rfl rfl
set_option maxRecDepth 100000 in
theorem kw_491 : (Jvm.Cond.selects "java/lang/IllegalStateException" ({ cls := "java/lang/Throwable", name := "fillInStackTrace", desc := "(I)Ljava/lang/Throwable;" } : Jvm.MethodName) ({ cls := "java/lang/Throwable", name := "fillInStackTrace", desc := "(I)Ljava/lang/Throwable;" } : Jvm.MethodName)) ∈ TT := TT_3 (i := 11) rfl rfl
set_option maxRecDepth 100000 in
theorem kw_498 : (Jvm.Cond.methodLink "CanBits" (86 : Nat) ({ cls := "java/lang/IllegalStateException", name := "<init>", desc := "(Ljava/lang/String;)V" } : Jvm.MethodName)) ∈ TT := TT_3 (i := 18) rfl rfl
set_option maxRecDepth 100000 in
theorem kw_499 : (Jvm.Cond.instanceMethod ({ cls := "java/lang/IllegalStateException", name := "<init>", desc := "(Ljava/lang/String;)V" } : Jvm.MethodName)) ∈ TT := TT_3 (i := 19) rfl rfl
set_option maxRecDepth 100000 in
theorem kw_500 : (Jvm.Cond.code ({ cls := "java/lang/IllegalStateException", name := "<init>", desc := "(Ljava/lang/String;)V" } : Jvm.MethodName) prog_14_method_2_code (2 : Nat) (Option.none : Option Jvm.ClassFile.FieldType)) ∈ TT := TT_3 (i := 20) rfl rfl
set_option maxRecDepth 100000 in
theorem kw_501 : (Jvm.Cond.methodLink "java/lang/IllegalStateException" (7 : Nat) ({ cls := "java/lang/RuntimeException", name := "<init>", desc := "(Ljava/lang/String;)V" } : Jvm.MethodName)) ∈ TT := TT_3 (i := 21) rfl rfl
set_option maxRecDepth 100000 in
theorem kw_504 : (Jvm.Cond.methodLink "CanBits" (87 : Nat) ({ cls := "CanBits", name := "octetsOf", desc := "(II)I" } : Jvm.MethodName)) ∈ TT := TT_3 (i := 24) rfl rfl
set_option maxRecDepth 100000 in
theorem kw_505 : (Jvm.Cond.static ({ cls := "CanBits", name := "octetsOf", desc := "(II)I" } : Jvm.MethodName)) ∈ TT := TT_3 (i := 25) rfl rfl
set_option maxRecDepth 100000 in
theorem kw_506 : (Jvm.Cond.code ({ cls := "CanBits", name := "octetsOf", desc := "(II)I" } : Jvm.MethodName) prog_1_method_30_code (3 : Nat) (Option.some Jvm.ClassFile.FieldType.int)) ∈ TT := TT_3 (i := 26) rfl rfl
set_option maxRecDepth 100000 in
theorem kw_507 : (Jvm.Cond.fieldLink "CanBits" (275 : Nat) "CanBits" "FLEXIBLE_OCTETS" "[I") ∈ TT := TT_3 (i := 27) rfl rfl
set_option maxRecDepth 100000 in
theorem kw_509 : (Jvm.Cond.methodLink "CanBits" (91 : Nat) ({ cls := "CanBits$Frame", name := "begin", desc := "(IIII)V" } : Jvm.MethodName)) ∈ TT := TT_3 (i := 29) rfl rfl
set_option maxRecDepth 100000 in
theorem kw_510 : (Jvm.Cond.instanceMethod ({ cls := "CanBits$Frame", name := "begin", desc := "(IIII)V" } : Jvm.MethodName)) ∈ TT := TT_3 (i := 30) rfl rfl
set_option maxRecDepth 100000 in
theorem kw_511 : (Jvm.Cond.selects "CanBits$Frame" ({ cls := "CanBits$Frame", name := "begin", desc := "(IIII)V" } : Jvm.MethodName) ({ cls := "CanBits$Frame", name := "begin", desc := "(IIII)V" } : Jvm.MethodName)) ∈ TT := TT_3 (i := 31) rfl rfl
set_option maxRecDepth 100000 in
theorem kw_512 : (Jvm.Cond.code ({ cls := "CanBits$Frame", name := "begin", desc := "(IIII)V" } : Jvm.MethodName) prog_2_method_2_code (6 : Nat) (Option.none : Option Jvm.ClassFile.FieldType)) ∈ TT := TT_3 (i := 32) rfl rfl
set_option maxRecDepth 100000 in
theorem kw_513 : (Jvm.Cond.methodLink "CanBits" (94 : Nat) ({ cls := "CanBits", name := "headOf", desc := "(III)J" } : Jvm.MethodName)) ∈ TT := TT_3 (i := 33) rfl rfl
set_option maxRecDepth 100000 in
theorem kw_514 : (Jvm.Cond.static ({ cls := "CanBits", name := "headOf", desc := "(III)J" } : Jvm.MethodName)) ∈ TT := TT_3 (i := 34) rfl rfl
set_option maxRecDepth 100000 in
theorem kw_515 : (Jvm.Cond.code ({ cls := "CanBits", name := "headOf", desc := "(III)J" } : Jvm.MethodName) prog_1_method_32_code (13 : Nat) (Option.some Jvm.ClassFile.FieldType.long)) ∈ TT := TT_3 (i := 35) rfl rfl
set_option maxRecDepth 100000 in
theorem kw_516 : (Jvm.Cond.methodLink "CanBits" (278 : Nat) ({ cls := "CanBits", name := "isFlexible", desc := "(I)Z" } : Jvm.MethodName)) ∈ TT := TT_3 (i := 36) rfl rfl
set_option maxRecDepth 100000 in
theorem kw_517 : (Jvm.Cond.static ({ cls := "CanBits", name := "isFlexible", desc := "(I)Z" } : Jvm.MethodName)) ∈ TT := TT_3 (i := 37) rfl rfl
set_option maxRecDepth 100000 in
theorem kw_518 : (Jvm.Cond.code ({ cls := "CanBits", name := "isFlexible", desc := "(I)Z" } : Jvm.MethodName) prog_1_method_28_code (1 : Nat) (Option.some Jvm.ClassFile.FieldType.boolean)) ∈ TT := TT_3 (i := 38) rfl rfl
set_option maxRecDepth 100000 in
theorem kw_519 : (Jvm.Cond.methodLink "CanBits" (281 : Nat) ({ cls := "CanBits", name := "isRemote", desc := "(I)Z" } : Jvm.MethodName)) ∈ TT := TT_3 (i := 39) rfl rfl
set_option maxRecDepth 100000 in
theorem kw_520 : (Jvm.Cond.static ({ cls := "CanBits", name := "isRemote", desc := "(I)Z" } : Jvm.MethodName)) ∈ TT := TT_3 (i := 40) rfl rfl
set_option maxRecDepth 100000 in
theorem kw_521 : (Jvm.Cond.code ({ cls := "CanBits", name := "isRemote", desc := "(I)Z" } : Jvm.MethodName) prog_1_method_29_code (1 : Nat) (Option.some Jvm.ClassFile.FieldType.boolean)) ∈ TT := TT_3 (i := 41) rfl rfl
set_option maxRecDepth 100000 in
theorem kw_522 : (Jvm.Cond.constant "CanBits" (284 : Nat) (262143 : Int32)) ∈ TT := TT_3 (i := 42) rfl rfl
set_option maxRecDepth 100000 in
theorem kw_523 : (Jvm.Cond.constantLong "CanBits" (285 : Nat) (3 : Int64)) ∈ TT := TT_3 (i := 43) rfl rfl
set_option maxRecDepth 100000 in
theorem kw_524 : (Jvm.Cond.constantLong "CanBits" (287 : Nat) (8 : Int64)) ∈ TT := TT_3 (i := 44) rfl rfl
set_option maxRecDepth 100000 in
theorem kw_525 : (Jvm.Cond.methodLink "CanBits" (289 : Nat) ({ cls := "CanBits", name := "headLength", desc := "(ZZ)I" } : Jvm.MethodName)) ∈ TT := TT_3 (i := 45) rfl rfl
set_option maxRecDepth 100000 in
theorem kw_526 : (Jvm.Cond.static ({ cls := "CanBits", name := "headLength", desc := "(ZZ)I" } : Jvm.MethodName)) ∈ TT := TT_3 (i := 46) rfl rfl
set_option maxRecDepth 100000 in
theorem kw_527 : (Jvm.Cond.code ({ cls := "CanBits", name := "headLength", desc := "(ZZ)I" } : Jvm.MethodName) prog_1_method_31_code (2 : Nat) (Option.some Jvm.ClassFile.FieldType.int)) ∈ TT := TT_3 (i := 47) rfl rfl
set_option maxRecDepth 100000 in
theorem kw_528 : (Jvm.Cond.methodLink "CanBits" (102 : Nat) ({ cls := "CanBits$Writer", name := "write", desc := "(LCanBits$Frame;)V" } : Jvm.MethodName)) ∈ TT := TT_3 (i := 48) rfl rfl
set_option maxRecDepth 100000 in
theorem kw_529 : (Jvm.Cond.instanceMethod ({ cls := "CanBits$Writer", name := "write", desc := "(LCanBits$Frame;)V" } : Jvm.MethodName)) ∈ TT := TT_3 (i := 49) rfl rfl
set_option maxRecDepth 100000 in
theorem kw_530 : (Jvm.Cond.selects "CanBits$Writer" ({ cls := "CanBits$Writer", name := "write", desc := "(LCanBits$Frame;)V" } : Jvm.MethodName) ({ cls := "CanBits$Writer", name := "write", desc := "(LCanBits$Frame;)V" } : Jvm.MethodName)) ∈ TT := TT_3 (i := 50) rfl rfl
set_option maxRecDepth 100000 in
theorem kw_531 : (Jvm.Cond.code ({ cls := "CanBits$Writer", name := "write", desc := "(LCanBits$Frame;)V" } : Jvm.MethodName) prog_8_method_2_code (5 : Nat) (Option.none : Option Jvm.ClassFile.FieldType)) ∈ TT := TT_3 (i := 51) rfl rfl
set_option maxRecDepth 100000 in
theorem kw_532 : (Jvm.Cond.methodLink "CanBits$Writer" (18 : Nat) ({ cls := "CanBits$Writer", name := "begin", desc := "()V" } : Jvm.MethodName)) ∈ TT := TT_3 (i := 52) rfl rfl
set_option maxRecDepth 100000 in
theorem kw_534 : (Jvm.Cond.instanceMethod ({ cls := "CanBits$Writer", name := "begin", desc := "()V" } : Jvm.MethodName)) ∈ TT := TT_3 (i := 54) rfl rfl
set_option maxRecDepth 100000 in
theorem kw_535 : (Jvm.Cond.code ({ cls := "CanBits$Writer", name := "begin", desc := "()V" } : Jvm.MethodName) prog_8_method_3_code (1 : Nat) (Option.none : Option Jvm.ClassFile.FieldType)) ∈ TT := TT_3 (i := 55) rfl rfl
set_option maxRecDepth 100000 in
theorem kw_536 : (Jvm.Cond.methodLink "CanBits$Writer" (80 : Nat) ({ cls := "CanBits$Sums", name := "begin", desc := "()V" } : Jvm.MethodName)) ∈ TT := TT_3 (i := 56) rfl rfl
set_option maxRecDepth 100000 in
theorem kw_537 : (Jvm.Cond.instanceMethod ({ cls := "CanBits$Sums", name := "begin", desc := "()V" } : Jvm.MethodName)) ∈ TT := TT_3 (i := 57) rfl rfl
set_option maxRecDepth 100000 in
theorem kw_538 : (Jvm.Cond.selects "CanBits$Sums" ({ cls := "CanBits$Sums", name := "begin", desc := "()V" } : Jvm.MethodName) ({ cls := "CanBits$Sums", name := "begin", desc := "()V" } : Jvm.MethodName)) ∈ TT := TT_3 (i := 58) rfl rfl
set_option maxRecDepth 100000 in
theorem kw_539 : (Jvm.Cond.code ({ cls := "CanBits$Sums", name := "begin", desc := "()V" } : Jvm.MethodName) prog_6_method_2_code (1 : Nat) (Option.none : Option Jvm.ClassFile.FieldType)) ∈ TT := TT_3 (i := 59) rfl rfl
set_option maxRecDepth 100000 in
theorem kw_540 : (Jvm.Cond.methodLink "CanBits$Sums" (28 : Nat) ({ cls := "CanBits$Register", name := "begin", desc := "()V" } : Jvm.MethodName)) ∈ TT := TT_3 (i := 60) rfl rfl
set_option maxRecDepth 100000 in
theorem kw_541 : (Jvm.Cond.instanceMethod ({ cls := "CanBits$Register", name := "begin", desc := "()V" } : Jvm.MethodName)) ∈ TT := TT_3 (i := 61) rfl rfl
set_option maxRecDepth 100000 in
theorem kw_542 : (Jvm.Cond.selects "CanBits$Register" ({ cls := "CanBits$Register", name := "begin", desc := "()V" } : Jvm.MethodName) ({ cls := "CanBits$Register", name := "begin", desc := "()V" } : Jvm.MethodName)) ∈ TT := TT_3 (i := 62) rfl rfl
set_option maxRecDepth 100000 in
theorem kw_543 : (Jvm.Cond.code ({ cls := "CanBits$Register", name := "begin", desc := "()V" } : Jvm.MethodName) prog_5_method_2_code (1 : Nat) (Option.none : Option Jvm.ClassFile.FieldType)) ∈ TT := TT_3 (i := 63) rfl rfl
set_option maxRecDepth 100000 in
theorem kw_547 : (Jvm.Cond.methodLink "CanBits$Writer" (45 : Nat) ({ cls := "CanBits$Writer", name := "writePlain", desc := "(LCanBits$Frame;IZ)V" } : Jvm.MethodName)) ∈ TT := TT_3 (i := 67) rfl rfl
set_option maxRecDepth 100000 in
theorem kw_549 : (Jvm.Cond.instanceMethod ({ cls := "CanBits$Writer", name := "writePlain", desc := "(LCanBits$Frame;IZ)V" } : Jvm.MethodName)) ∈ TT := TT_3 (i := 69) rfl rfl
set_option maxRecDepth 100000 in
theorem kw_550 : (Jvm.Cond.code ({ cls := "CanBits$Writer", name := "writePlain", desc := "(LCanBits$Frame;IZ)V" } : Jvm.MethodName) prog_8_method_5_code (4 : Nat) (Option.none : Option Jvm.ClassFile.FieldType)) ∈ TT := TT_3 (i := 70) rfl rfl
set_option maxRecDepth 100000 in
theorem kw_551 : (Jvm.Cond.methodLink "CanBits$Writer" (73 : Nat) ({ cls := "CanBits$Writer", name := "writeStuffBit", desc := "(LCanBits$Frame;)V" } : Jvm.MethodName)) ∈ TT := TT_3 (i := 71) rfl rfl
set_option maxRecDepth 100000 in
theorem kw_553 : (Jvm.Cond.instanceMethod ({ cls := "CanBits$Writer", name := "writeStuffBit", desc := "(LCanBits$Frame;)V" } : Jvm.MethodName)) ∈ TT := TT_3 (i := 73) rfl rfl
set_option maxRecDepth 100000 in
theorem kw_554 : (Jvm.Cond.code ({ cls := "CanBits$Writer", name := "writeStuffBit", desc := "(LCanBits$Frame;)V" } : Jvm.MethodName) prog_8_method_6_code (2 : Nat) (Option.none : Option Jvm.ClassFile.FieldType)) ∈ TT := TT_3 (i := 74) rfl rfl
set_option maxRecDepth 100000 in
theorem kw_555 : (Jvm.Cond.methodLink "CanBits$Writer" (94 : Nat) ({ cls := "CanBits$Sums", name := "addOther", desc := "(I)V" } : Jvm.MethodName)) ∈ TT := TT_3 (i := 75) rfl rfl
set_option maxRecDepth 100000 in
theorem kw_556 : (Jvm.Cond.instanceMethod ({ cls := "CanBits$Sums", name := "addOther", desc := "(I)V" } : Jvm.MethodName)) ∈ TT := TT_3 (i := 76) rfl rfl
set_option maxRecDepth 100000 in
theorem kw_557 : (Jvm.Cond.selects "CanBits$Sums" ({ cls := "CanBits$Sums", name := "addOther", desc := "(I)V" } : Jvm.MethodName) ({ cls := "CanBits$Sums", name := "addOther", desc := "(I)V" } : Jvm.MethodName)) ∈ TT := TT_3 (i := 77) rfl rfl
set_option maxRecDepth 100000 in
theorem kw_558 : (Jvm.Cond.code ({ cls := "CanBits$Sums", name := "addOther", desc := "(I)V" } : Jvm.MethodName) prog_6_method_4_code (2 : Nat) (Option.none : Option Jvm.ClassFile.FieldType)) ∈ TT := TT_3 (i := 78) rfl rfl
set_option maxRecDepth 100000 in
theorem kw_559 : (Jvm.Cond.methodLink "CanBits$Sums" (31 : Nat) ({ cls := "CanBits$Register", name := "move", desc := "(I)V" } : Jvm.MethodName)) ∈ TT := TT_3 (i := 79) rfl rfl
set_option maxRecDepth 100000 in
theorem kw_560 : (Jvm.Cond.instanceMethod ({ cls := "CanBits$Register", name := "move", desc := "(I)V" } : Jvm.MethodName)) ∈ TT := TT_3 (i := 80) rfl rfl
set_option maxRecDepth 100000 in
theorem kw_561 : (Jvm.Cond.selects "CanBits$Register" ({ cls := "CanBits$Register", name := "move", desc := "(I)V" } : Jvm.MethodName) ({ cls := "CanBits$Register", name := "move", desc := "(I)V" } : Jvm.MethodName)) ∈ TT := TT_3 (i := 81) rfl rfl
set_option maxRecDepth 100000 in
theorem kw_562 : (Jvm.Cond.code ({ cls := "CanBits$Register", name := "move", desc := "(I)V" } : Jvm.MethodName) prog_5_method_3_code (3 : Nat) (Option.none : Option Jvm.ClassFile.FieldType)) ∈ TT := TT_3 (i := 82) rfl rfl
set_option maxRecDepth 100000 in
theorem kw_563 : (Jvm.Cond.methodLink "CanBits$Writer" (76 : Nat) ({ cls := "CanBits$Frame", name := "append", desc := "(IZ)V" } : Jvm.MethodName)) ∈ TT := TT_3 (i := 83) rfl rfl
set_option maxRecDepth 100000 in
theorem kw_564 : (Jvm.Cond.instanceMethod ({ cls := "CanBits$Frame", name := "append", desc := "(IZ)V" } : Jvm.MethodName)) ∈ TT := TT_3 (i := 84) rfl rfl
set_option maxRecDepth 100000 in
theorem kw_565 : (Jvm.Cond.selects "CanBits$Frame" ({ cls := "CanBits$Frame", name := "append", desc := "(IZ)V" } : Jvm.MethodName) ({ cls := "CanBits$Frame", name := "append", desc := "(IZ)V" } : Jvm.MethodName)) ∈ TT := TT_3 (i := 85) rfl rfl
set_option maxRecDepth 100000 in
theorem kw_566 : (Jvm.Cond.code ({ cls := "CanBits$Frame", name := "append", desc := "(IZ)V" } : Jvm.MethodName) prog_2_method_4_code (3 : Nat) (Option.none : Option Jvm.ClassFile.FieldType)) ∈ TT := TT_3 (i := 86) rfl rfl
set_option maxRecDepth 100000 in
theorem kw_567 : (Jvm.Cond.methodLink "CanBits$Writer" (90 : Nat) ({ cls := "CanBits$Sums", name := "addPlain", desc := "(I)V" } : Jvm.MethodName)) ∈ TT := TT_3 (i := 87) rfl rfl
set_option maxRecDepth 100000 in
theorem kw_568 : (Jvm.Cond.instanceMethod ({ cls := "CanBits$Sums", name := "addPlain", desc := "(I)V" } : Jvm.MethodName)) ∈ TT := TT_3 (i := 88) rfl rfl
set_option maxRecDepth 100000 in
theorem kw_569 : (Jvm.Cond.selects "CanBits$Sums" ({ cls := "CanBits$Sums", name := "addPlain", desc := "(I)V" } : Jvm.MethodName) ({ cls := "CanBits$Sums", name := "addPlain", desc := "(I)V" } : Jvm.MethodName)) ∈ TT := TT_3 (i := 89) rfl rfl
set_option maxRecDepth 100000 in
theorem kw_570 : (Jvm.Cond.code ({ cls := "CanBits$Sums", name := "addPlain", desc := "(I)V" } : Jvm.MethodName) prog_6_method_3_code (2 : Nat) (Option.none : Option Jvm.ClassFile.FieldType)) ∈ TT := TT_3 (i := 90) rfl rfl
set_option maxRecDepth 100000 in
theorem kw_571 : (Jvm.Cond.methodLink "CanBits$Writer" (56 : Nat) ({ cls := "CanBits$Writer", name := "writeNumber", desc := "(LCanBits$Frame;II)V" } : Jvm.MethodName)) ∈ TT := TT_3 (i := 91) rfl rfl
set_option maxRecDepth 100000 in
theorem kw_573 : (Jvm.Cond.instanceMethod ({ cls := "CanBits$Writer", name := "writeNumber", desc := "(LCanBits$Frame;II)V" } : Jvm.MethodName)) ∈ TT := TT_3 (i := 93) rfl rfl
set_option maxRecDepth 100000 in
theorem kw_574 : (Jvm.Cond.code ({ cls := "CanBits$Writer", name := "writeNumber", desc := "(LCanBits$Frame;II)V" } : Jvm.MethodName) prog_8_method_4_code (5 : Nat) (Option.none : Option Jvm.ClassFile.FieldType)) ∈ TT := TT_3 (i := 94) rfl rfl
set_option maxRecDepth 100000 in
theorem kw_575 : (Jvm.Cond.methodLink "CanBits$Writer" (60 : Nat) ({ cls := "CanBits$Writer", name := "writeFixed", desc := "(LCanBits$Frame;)V" } : Jvm.MethodName)) ∈ TT := TT_3 (i := 95) rfl rfl
set_option maxRecDepth 100000 in
theorem kw_577 : (Jvm.Cond.instanceMethod ({ cls := "CanBits$Writer", name := "writeFixed", desc := "(LCanBits$Frame;)V" } : Jvm.MethodName)) ∈ TT := TT_3 (i := 97) rfl rfl
set_option maxRecDepth 100000 in
theorem kw_578 : (Jvm.Cond.code ({ cls := "CanBits$Writer", name := "writeFixed", desc := "(LCanBits$Frame;)V" } : Jvm.MethodName) prog_8_method_7_code (6 : Nat) (Option.none : Option Jvm.ClassFile.FieldType)) ∈ TT := TT_3 (i := 98) rfl rfl
set_option maxRecDepth 100000 in
theorem kw_580 : (Jvm.Cond.static ({ cls := "CanBits", name := "countOf", desc := "(I)I" } : Jvm.MethodName)) ∈ TT := TT_3 (i := 100) rfl rfl
set_option maxRecDepth 100000 in
theorem kw_581 : (Jvm.Cond.code ({ cls := "CanBits", name := "countOf", desc := "(I)I" } : Jvm.MethodName) prog_1_method_33_code (3 : Nat) (Option.some Jvm.ClassFile.FieldType.int)) ∈ TT := TT_3 (i := 101) rfl rfl
set_option maxRecDepth 100000 in
theorem kw_582 : (Jvm.Cond.methodLink "CanBits" (293 : Nat) ({ cls := "java/lang/Integer", name := "bitCount", desc := "(I)I" } : Jvm.MethodName)) ∈ TT := TT_3 (i := 102) rfl rfl
set_option maxRecDepth 100000 in
theorem kw_583 : (Jvm.Cond.static ({ cls := "java/lang/Integer", name := "bitCount", desc := "(I)I" } : Jvm.MethodName)) ∈ TT := TT_3 (i := 103) rfl rfl
set_option maxRecDepth 100000 in
theorem kw_584 : (Jvm.Cond.code ({ cls := "java/lang/Integer", name := "bitCount", desc := "(I)I" } : Jvm.MethodName) prog_16_method_49_code (1 : Nat) (Option.some Jvm.ClassFile.FieldType.int)) ∈ TT := TT_3 (i := 104) rfl rfl
set_option maxRecDepth 100000 in
theorem kw_585 : (Jvm.Cond.constant "java/lang/Integer" (265 : Nat) (1431655765 : Int32)) ∈ TT := TT_3 (i := 105) rfl rfl
set_option maxRecDepth 100000 in
theorem kw_586 : (Jvm.Cond.constant "java/lang/Integer" (266 : Nat) (858993459 : Int32)) ∈ TT := TT_3 (i := 106) rfl rfl
set_option maxRecDepth 100000 in
theorem kw_587 : (Jvm.Cond.constant "java/lang/Integer" (267 : Nat) (252645135 : Int32)) ∈ TT := TT_3 (i := 107) rfl rfl
set_option maxRecDepth 100000 in
theorem kw_588 : (Jvm.Cond.methodLink "CanBits$Writer" (101 : Nat) ({ cls := "CanBits$Sums", name := "flexibleWidth", desc := "(I)I" } : Jvm.MethodName)) ∈ TT := TT_3 (i := 108) rfl rfl
set_option maxRecDepth 100000 in
theorem kw_589 : (Jvm.Cond.static ({ cls := "CanBits$Sums", name := "flexibleWidth", desc := "(I)I" } : Jvm.MethodName)) ∈ TT := TT_3 (i := 109) rfl rfl
set_option maxRecDepth 100000 in
theorem kw_590 : (Jvm.Cond.code ({ cls := "CanBits$Sums", name := "flexibleWidth", desc := "(I)I" } : Jvm.MethodName) prog_6_method_6_code (1 : Nat) (Option.some Jvm.ClassFile.FieldType.int)) ∈ TT := TT_3 (i := 110) rfl rfl
set_option maxRecDepth 100000 in
theorem kw_591 : (Jvm.Cond.methodLink "CanBits$Writer" (104 : Nat) ({ cls := "CanBits$Sums", name := "ofFlexible", desc := "(I)I" } : Jvm.MethodName)) ∈ TT := TT_3 (i := 111) rfl rfl
set_option maxRecDepth 100000 in
theorem kw_592 : (Jvm.Cond.instanceMethod ({ cls := "CanBits$Sums", name := "ofFlexible", desc := "(I)I" } : Jvm.MethodName)) ∈ TT := TT_3 (i := 112) rfl rfl
set_option maxRecDepth 100000 in
theorem kw_593 : (Jvm.Cond.selects "CanBits$Sums" ({ cls := "CanBits$Sums", name := "ofFlexible", desc := "(I)I" } : Jvm.MethodName) ({ cls := "CanBits$Sums", name := "ofFlexible", desc := "(I)I" } : Jvm.MethodName)) ∈ TT := TT_3 (i := 113) rfl rfl
set_option maxRecDepth 100000 in
theorem kw_594 : (Jvm.Cond.code ({ cls := "CanBits$Sums", name := "ofFlexible", desc := "(I)I" } : Jvm.MethodName) prog_6_method_5_code (2 : Nat) (Option.some Jvm.ClassFile.FieldType.int)) ∈ TT := TT_3 (i := 114) rfl rfl
set_option maxRecDepth 100000 in
theorem kw_595 : (Jvm.Cond.methodLink "CanBits" (109 : Nat) ({ cls := "CanBits", name := "firstOf", desc := "(I)LCanBits$Frame;" } : Jvm.MethodName)) ∈ TT := TT_3 (i := 115) rfl rfl
set_option maxRecDepth 100000 in
theorem kw_597 : (Jvm.Cond.instanceMethod ({ cls := "CanBits", name := "firstOf", desc := "(I)LCanBits$Frame;" } : Jvm.MethodName)) ∈ TT := TT_3 (i := 117) rfl rfl
set_option maxRecDepth 100000 in
theorem kw_598 : (Jvm.Cond.code ({ cls := "CanBits", name := "firstOf", desc := "(I)LCanBits$Frame;" } : Jvm.MethodName) prog_1_method_26_code (5 : Nat) (Option.some (Jvm.ClassFile.FieldType.object "CanBits$Frame"))) ∈ TT := TT_3 (i := 118) rfl rfl
set_option maxRecDepth 100000 in
theorem kw_599 : (Jvm.Cond.methodLink "CanBits" (272 : Nat) ({ cls := "CanBits$Frame", name := "goesBefore", desc := "(LCanBits$Frame;)Z" } : Jvm.MethodName)) ∈ TT := TT_3 (i := 119) rfl rfl
set_option maxRecDepth 100000 in
theorem kw_600 : (Jvm.Cond.instanceMethod ({ cls := "CanBits$Frame", name := "goesBefore", desc := "(LCanBits$Frame;)Z" } : Jvm.MethodName)) ∈ TT := TT_3 (i := 120) rfl rfl
set_option maxRecDepth 100000 in
theorem kw_601 : (Jvm.Cond.selects "CanBits$Frame" ({ cls := "CanBits$Frame", name := "goesBefore", desc := "(LCanBits$Frame;)Z" } : Jvm.MethodName) ({ cls := "CanBits$Frame", name := "goesBefore", desc := "(LCanBits$Frame;)Z" } : Jvm.MethodName)) ∈ TT := TT_3 (i := 121) rfl rfl
set_option maxRecDepth 100000 in
theorem kw_602 : (Jvm.Cond.code ({ cls := "CanBits$Frame", name := "goesBefore", desc := "(LCanBits$Frame;)Z" } : Jvm.MethodName) prog_2_method_3_code (3 : Nat) (Option.some Jvm.ClassFile.FieldType.boolean)) ∈ TT := TT_3 (i := 122) rfl rfl
set_option maxRecDepth 100000 in
theorem kw_603 : (Jvm.Cond.methodLink "CanBitsLaw" (89 : Nat) ({ cls := "CanBitsLaw", name := "octet", desc := "(LCanBits;III)I" } : Jvm.MethodName)) ∈ TT := TT_3 (i := 123) rfl rfl
set_option maxRecDepth 100000 in
theorem kw_604 : (Jvm.Cond.static ({ cls := "CanBitsLaw", name := "octet", desc := "(LCanBits;III)I" } : Jvm.MethodName)) ∈ TT := TT_3 (i := 124) rfl rfl
set_option maxRecDepth 100000 in
theorem kw_605 : (Jvm.Cond.codeWith ({ cls := "CanBitsLaw", name := "octet", desc := "(LCanBits;III)I" } : Jvm.MethodName) method_5_code (5 : Nat) (Option.some Jvm.ClassFile.FieldType.int) [((0 : Nat), (7 : Nat), (10 : Nat), (21 : Nat)), ((0 : Nat), (7 : Nat), (14 : Nat), (13 : Nat)), ((0 : Nat), (7 : Nat), (18 : Nat), (23 : Nat))]) ∈ TT := TT_3 (i := 125) rfl rfl
set_option maxRecDepth 100000 in
theorem kw_606 : (Jvm.Cond.methodLink "CanBitsLaw" (25 : Nat) ({ cls := "CanBits", name := "octet", desc := "(III)V" } : Jvm.MethodName)) ∈ TT := TT_3 (i := 126) rfl rfl
set_option maxRecDepth 100000 in
theorem kw_607 : (Jvm.Cond.instanceMethod ({ cls := "CanBits", name := "octet", desc := "(III)V" } : Jvm.MethodName)) ∈ TT := TT_3 (i := 127) rfl rfl
set_option maxRecDepth 100000 in
theorem kw_608 : (Jvm.Cond.selects "CanBits" ({ cls := "CanBits", name := "octet", desc := "(III)V" } : Jvm.MethodName) ({ cls := "CanBits", name := "octet", desc := "(III)V" } : Jvm.MethodName)) ∈ TT := TT_3 (i := 128) rfl rfl
set_option maxRecDepth 100000 in
theorem kw_609 : (Jvm.Cond.code ({ cls := "CanBits", name := "octet", desc := "(III)V" } : Jvm.MethodName) prog_1_method_4_code (6 : Nat) (Option.none : Option Jvm.ClassFile.FieldType)) ∈ TT := TT_3 (i := 129) rfl rfl
set_option maxRecDepth 100000 in
theorem kw_610 : (Jvm.Cond.methodLink "CanBits" (117 : Nat) ({ cls := "CanBits", name := "needFrame", desc := "(I)V" } : Jvm.MethodName)) ∈ TT := TT_3 (i := 130) rfl rfl
set_option maxRecDepth 100000 in
theorem kw_612 : (Jvm.Cond.instanceMethod ({ cls := "CanBits", name := "needFrame", desc := "(I)V" } : Jvm.MethodName)) ∈ TT := TT_3 (i := 132) rfl rfl
set_option maxRecDepth 100000 in
theorem kw_613 : (Jvm.Cond.code ({ cls := "CanBits", name := "needFrame", desc := "(I)V" } : Jvm.MethodName) prog_1_method_19_code (2 : Nat) (Option.none : Option Jvm.ClassFile.FieldType)) ∈ TT := TT_3 (i := 133) rfl rfl
set_option maxRecDepth 100000 in
theorem kw_617 : (Jvm.Cond.methodLink "CanBits" (137 : Nat) ({ cls := "CanBits$Node", name := "isSending", desc := "(LCanBits$Frame;)Z" } : Jvm.MethodName)) ∈ TT := TT_3 (i := 137) rfl rfl
set_option maxRecDepth 100000 in
theorem kw_618 : (Jvm.Cond.instanceMethod ({ cls := "CanBits$Node", name := "isSending", desc := "(LCanBits$Frame;)Z" } : Jvm.MethodName)) ∈ TT := TT_3 (i := 138) rfl rfl
set_option maxRecDepth 100000 in
theorem kw_619 : (Jvm.Cond.selects "CanBits$Node" ({ cls := "CanBits$Node", name := "isSending", desc := "(LCanBits$Frame;)Z" } : Jvm.MethodName) ({ cls := "CanBits$Node", name := "isSending", desc := "(LCanBits$Frame;)Z" } : Jvm.MethodName)) ∈ TT := TT_3 (i := 139) rfl rfl
set_option maxRecDepth 100000 in
theorem kw_620 : (Jvm.Cond.code ({ cls := "CanBits$Node", name := "isSending", desc := "(LCanBits$Frame;)Z" } : Jvm.MethodName) prog_4_method_3_code (2 : Nat) (Option.some Jvm.ClassFile.FieldType.boolean)) ∈ TT := TT_3 (i := 140) rfl rfl
set_option maxRecDepth 100000 in
theorem kw_622 : (Jvm.Cond.methodLink "CanBitsLaw" (93 : Nat) ({ cls := "CanBitsLaw", name := "stuffed", desc := "(LCanBits;I[J)I" } : Jvm.MethodName)) ∈ TT := TT_3 (i := 142) rfl rfl
set_option maxRecDepth 100000 in
theorem kw_623 : (Jvm.Cond.static ({ cls := "CanBitsLaw", name := "stuffed", desc := "(LCanBits;I[J)I" } : Jvm.MethodName)) ∈ TT := TT_3 (i := 143) rfl rfl
set_option maxRecDepth 100000 in
theorem kw_624 : (Jvm.Cond.codeWith ({ cls := "CanBitsLaw", name := "stuffed", desc := "(LCanBits;I[J)I" } : Jvm.MethodName) method_6_code (4 : Nat) (Option.some Jvm.ClassFile.FieldType.int) [((0 : Nat), (9 : Nat), (12 : Nat), (21 : Nat))]) ∈ TT := TT_3 (i := 144) rfl rfl
set_option maxRecDepth 100000 in
theorem kw_625 : (Jvm.Cond.methodLink "CanBitsLaw" (29 : Nat) ({ cls := "CanBits", name := "stuffed", desc := "(I)I" } : Jvm.MethodName)) ∈ TT := TT_3 (i := 145) rfl rfl
set_option maxRecDepth 100000 in
theorem kw_626 : (Jvm.Cond.instanceMethod ({ cls := "CanBits", name := "stuffed", desc := "(I)I" } : Jvm.MethodName)) ∈ TT := TT_3 (i := 146) rfl rfl
set_option maxRecDepth 100000 in
theorem kw_627 : (Jvm.Cond.selects "CanBits" ({ cls := "CanBits", name := "stuffed", desc := "(I)I" } : Jvm.MethodName) ({ cls := "CanBits", name := "stuffed", desc := "(I)I" } : Jvm.MethodName)) ∈ TT := TT_3 (i := 147) rfl rfl
set_option maxRecDepth 100000 in
theorem kw_628 : (Jvm.Cond.code ({ cls := "CanBits", name := "stuffed", desc := "(I)I" } : Jvm.MethodName) prog_1_method_5_code (2 : Nat) (Option.some Jvm.ClassFile.FieldType.int)) ∈ TT := TT_3 (i := 148) rfl rfl
set_option maxRecDepth 100000 in
theorem kw_629 : (Jvm.Cond.methodLink "CanBitsLaw" (97 : Nat) ({ cls := "CanBitsLaw", name := "filter", desc := "(LCanBits;III)I" } : Jvm.MethodName)) ∈ TT := TT_3 (i := 149) rfl rfl
set_option maxRecDepth 100000 in
theorem kw_630 : (Jvm.Cond.static ({ cls := "CanBitsLaw", name := "filter", desc := "(LCanBits;III)I" } : Jvm.MethodName)) ∈ TT := TT_3 (i := 150) rfl rfl
set_option maxRecDepth 100000 in
theorem kw_631 : (Jvm.Cond.codeWith ({ cls := "CanBitsLaw", name := "filter", desc := "(LCanBits;III)I" } : Jvm.MethodName) method_7_code (5 : Nat) (Option.some Jvm.ClassFile.FieldType.int) [((0 : Nat), (7 : Nat), (10 : Nat), (21 : Nat))]) ∈ TT := TT_3 (i := 151) rfl rfl
set_option maxRecDepth 100000 in
theorem kw_632 : (Jvm.Cond.methodLink "CanBitsLaw" (33 : Nat) ({ cls := "CanBits", name := "filter", desc := "(III)V" } : Jvm.MethodName)) ∈ TT := TT_3 (i := 152) rfl rfl
set_option maxRecDepth 100000 in
theorem kw_633 : (Jvm.Cond.instanceMethod ({ cls := "CanBits", name := "filter", desc := "(III)V" } : Jvm.MethodName)) ∈ TT := TT_3 (i := 153) rfl rfl
set_option maxRecDepth 100000 in
theorem kw_634 : (Jvm.Cond.selects "CanBits" ({ cls := "CanBits", name := "filter", desc := "(III)V" } : Jvm.MethodName) ({ cls := "CanBits", name := "filter", desc := "(III)V" } : Jvm.MethodName)) ∈ TT := TT_3 (i := 154) rfl rfl
set_option maxRecDepth 100000 in
theorem kw_635 : (Jvm.Cond.code ({ cls := "CanBits", name := "filter", desc := "(III)V" } : Jvm.MethodName) prog_1_method_6_code (4 : Nat) (Option.none : Option Jvm.ClassFile.FieldType)) ∈ TT := TT_3 (i := 155) rfl rfl
set_option maxRecDepth 100000 in
theorem kw_636 : (Jvm.Cond.methodLink "CanBitsLaw" (100 : Nat) ({ cls := "CanBitsLaw", name := "flip", desc := "(LCanBits;II)I" } : Jvm.MethodName)) ∈ TT := TT_3 (i := 156) rfl rfl
set_option maxRecDepth 100000 in
theorem kw_637 : (Jvm.Cond.static ({ cls := "CanBitsLaw", name := "flip", desc := "(LCanBits;II)I" } : Jvm.MethodName)) ∈ TT := TT_3 (i := 157) rfl rfl
set_option maxRecDepth 100000 in
theorem kw_638 : (Jvm.Cond.codeWith ({ cls := "CanBitsLaw", name := "flip", desc := "(LCanBits;II)I" } : Jvm.MethodName) method_8_code (4 : Nat) (Option.some Jvm.ClassFile.FieldType.int) [((0 : Nat), (6 : Nat), (9 : Nat), (21 : Nat)), ((0 : Nat), (6 : Nat), (12 : Nat), (13 : Nat))]) ∈ TT := TT_3 (i := 158) rfl rfl
set_option maxRecDepth 100000 in
theorem kw_639 : (Jvm.Cond.methodLink "CanBitsLaw" (36 : Nat) ({ cls := "CanBits", name := "flip", desc := "(II)V" } : Jvm.MethodName)) ∈ TT := TT_3 (i := 159) rfl rfl
set_option maxRecDepth 100000 in
theorem kw_640 : (Jvm.Cond.instanceMethod ({ cls := "CanBits", name := "flip", desc := "(II)V" } : Jvm.MethodName)) ∈ TT := TT_3 (i := 160) rfl rfl
set_option maxRecDepth 100000 in
theorem kw_641 : (Jvm.Cond.selects "CanBits" ({ cls := "CanBits", name := "flip", desc := "(II)V" } : Jvm.MethodName) ({ cls := "CanBits", name := "flip", desc := "(II)V" } : Jvm.MethodName)) ∈ TT := TT_3 (i := 161) rfl rfl
set_option maxRecDepth 100000 in
theorem kw_642 : (Jvm.Cond.code ({ cls := "CanBits", name := "flip", desc := "(II)V" } : Jvm.MethodName) prog_1_method_7_code (3 : Nat) (Option.none : Option Jvm.ClassFile.FieldType)) ∈ TT := TT_3 (i := 162) rfl rfl
set_option maxRecDepth 100000 in
theorem kw_644 : (Jvm.Cond.methodLink "CanBits" (163 : Nat) ({ cls := "java/lang/Math", name := "max", desc := "(II)I" } : Jvm.MethodName)) ∈ TT := TT_3 (i := 164) rfl rfl
set_option maxRecDepth 100000 in
theorem kw_645 : (Jvm.Cond.static ({ cls := "java/lang/Math", name := "max", desc := "(II)I" } : Jvm.MethodName)) ∈ TT := TT_3 (i := 165) rfl rfl
set_option maxRecDepth 100000 in
theorem kw_646 : (Jvm.Cond.code ({ cls := "java/lang/Math", name := "max", desc := "(II)I" } : Jvm.MethodName) prog_17_method_65_code (2 : Nat) (Option.some Jvm.ClassFile.FieldType.int)) ∈ TT := TT_3 (i := 166) rfl rfl
set_option maxRecDepth 100000 in
theorem kw_647 : (Jvm.Cond.methodLink "CanBitsLaw" (104 : Nat) ({ cls := "CanBitsLaw", name := "run", desc := "(LCanBits;I[J)I" } : Jvm.MethodName)) ∈ TT := TT_3 (i := 167) rfl rfl
set_option maxRecDepth 100000 in
theorem kw_648 : (Jvm.Cond.static ({ cls := "CanBitsLaw", name := "run", desc := "(LCanBits;I[J)I" } : Jvm.MethodName)) ∈ TT := TT_3 (i := 168) rfl rfl
set_option maxRecDepth 100000 in
theorem kw_649 : (Jvm.Cond.codeWith ({ cls := "CanBitsLaw", name := "run", desc := "(LCanBits;I[J)I" } : Jvm.MethodName) method_9_code (4 : Nat) (Option.some Jvm.ClassFile.FieldType.int) [((0 : Nat), (9 : Nat), (12 : Nat), (13 : Nat)), ((0 : Nat), (9 : Nat), (15 : Nat), (23 : Nat))]) ∈ TT := TT_3 (i := 169) rfl rfl
set_option maxRecDepth 100000 in
theorem kw_650 : (Jvm.Cond.methodLink "CanBitsLaw" (40 : Nat) ({ cls := "CanBits", name := "run", desc := "(I)I" } : Jvm.MethodName)) ∈ TT := TT_3 (i := 170) rfl rfl
set_option maxRecDepth 100000 in
theorem kw_651 : (Jvm.Cond.instanceMethod ({ cls := "CanBits", name := "run", desc := "(I)I" } : Jvm.MethodName)) ∈ TT := TT_3 (i := 171) rfl rfl
set_option maxRecDepth 100000 in
theorem kw_652 : (Jvm.Cond.selects "CanBits" ({ cls := "CanBits", name := "run", desc := "(I)I" } : Jvm.MethodName) ({ cls := "CanBits", name := "run", desc := "(I)I" } : Jvm.MethodName)) ∈ TT := TT_3 (i := 172) rfl rfl
set_option maxRecDepth 100000 in
theorem kw_653 : (Jvm.Cond.code ({ cls := "CanBits", name := "run", desc := "(I)I" } : Jvm.MethodName) prog_1_method_8_code (7 : Nat) (Option.some Jvm.ClassFile.FieldType.int)) ∈ TT := TT_3 (i := 173) rfl rfl
set_option maxRecDepth 100000 in
theorem kw_656 : (Jvm.Cond.methodLink "CanBits" (175 : Nat) ({ cls := "CanBits", name := "putByAll", desc := "()I" } : Jvm.MethodName)) ∈ TT := TT_3 (i := 176) rfl rfl
set_option maxRecDepth 100000 in
theorem kw_658 : (Jvm.Cond.instanceMethod ({ cls := "CanBits", name := "putByAll", desc := "()I" } : Jvm.MethodName)) ∈ TT := TT_3 (i := 178) rfl rfl
set_option maxRecDepth 100000 in
theorem kw_659 : (Jvm.Cond.code ({ cls := "CanBits", name := "putByAll", desc := "()I" } : Jvm.MethodName) prog_1_method_23_code (3 : Nat) (Option.some Jvm.ClassFile.FieldType.int)) ∈ TT := TT_3 (i := 179) rfl rfl
set_option maxRecDepth 100000 in
theorem kw_660 : (Jvm.Cond.methodLink "CanBits" (260 : Nat) ({ cls := "CanBits$Node", name := "put", desc := "()I" } : Jvm.MethodName)) ∈ TT := TT_3 (i := 180) rfl rfl
set_option maxRecDepth 100000 in
theorem kw_661 : (Jvm.Cond.instanceMethod ({ cls := "CanBits$Node", name := "put", desc := "()I" } : Jvm.MethodName)) ∈ TT := TT_3 (i := 181) rfl rfl
set_option maxRecDepth 100000 in
theorem kw_662 : (Jvm.Cond.selects "CanBits$Node" ({ cls := "CanBits$Node", name := "put", desc := "()I" } : Jvm.MethodName) ({ cls := "CanBits$Node", name := "put", desc := "()I" } : Jvm.MethodName)) ∈ TT := TT_3 (i := 182) rfl rfl
set_option maxRecDepth 100000 in
theorem kw_663 : (Jvm.Cond.code ({ cls := "CanBits$Node", name := "put", desc := "()I" } : Jvm.MethodName) prog_4_method_4_code (1 : Nat) (Option.some Jvm.ClassFile.FieldType.int)) ∈ TT := TT_3 (i := 183) rfl rfl
set_option maxRecDepth 100000 in
theorem kw_664 : (Jvm.Cond.methodLink "CanBits$Node" (55 : Nat) ({ cls := "CanBits$Node", name := "startSending", desc := "(I)V" } : Jvm.MethodName)) ∈ TT := TT_3 (i := 184) rfl rfl
set_option maxRecDepth 100000 in
theorem kw_666 : (Jvm.Cond.instanceMethod ({ cls := "CanBits$Node", name := "startSending", desc := "(I)V" } : Jvm.MethodName)) ∈ TT := TT_3 (i := 186) rfl rfl
set_option maxRecDepth 100000 in
theorem kw_667 : (Jvm.Cond.code ({ cls := "CanBits$Node", name := "startSending", desc := "(I)V" } : Jvm.MethodName) prog_4_method_7_code (2 : Nat) (Option.none : Option Jvm.ClassFile.FieldType)) ∈ TT := TT_3 (i := 187) rfl rfl
set_option maxRecDepth 100000 in
theorem kw_668 : (Jvm.Cond.methodLink "CanBits$Node" (58 : Nat) ({ cls := "CanBits$Frame", name := "rowBit", desc := "(I)I" } : Jvm.MethodName)) ∈ TT := TT_3 (i := 188) rfl rfl
set_option maxRecDepth 100000 in
theorem kw_669 : (Jvm.Cond.instanceMethod ({ cls := "CanBits$Frame", name := "rowBit", desc := "(I)I" } : Jvm.MethodName)) ∈ TT := TT_3 (i := 189) rfl rfl
set_option maxRecDepth 100000 in
theorem kw_670 : (Jvm.Cond.selects "CanBits$Frame" ({ cls := "CanBits$Frame", name := "rowBit", desc := "(I)I" } : Jvm.MethodName) ({ cls := "CanBits$Frame", name := "rowBit", desc := "(I)I" } : Jvm.MethodName)) ∈ TT := TT_3 (i := 190) rfl rfl
set_option maxRecDepth 100000 in
theorem kw_671 : (Jvm.Cond.code ({ cls := "CanBits$Frame", name := "rowBit", desc := "(I)I" } : Jvm.MethodName) prog_2_method_5_code (2 : Nat) (Option.some Jvm.ClassFile.FieldType.int)) ∈ TT := TT_3 (i := 191) rfl rfl
set_option maxRecDepth 100000 in
theorem kw_672 : (Jvm.Cond.methodLink "CanBits$Node" (64 : Nat) ({ cls := "CanBits$Listener", name := "acknowledges", desc := "()Z" } : Jvm.MethodName)) ∈ TT := TT_3 (i := 192) rfl rfl
set_option maxRecDepth 100000 in
theorem kw_673 : (Jvm.Cond.instanceMethod ({ cls := "CanBits$Listener", name := "acknowledges", desc := "()Z" } : Jvm.MethodName)) ∈ TT := TT_3 (i := 193) rfl rfl
set_option maxRecDepth 100000 in
theorem kw_674 : (Jvm.Cond.selects "CanBits$Listener" ({ cls := "CanBits$Listener", name := "acknowledges", desc := "()Z" } : Jvm.MethodName) ({ cls := "CanBits$Listener", name := "acknowledges", desc := "()Z" } : Jvm.MethodName)) ∈ TT := TT_3 (i := 194) rfl rfl
set_option maxRecDepth 100000 in
theorem kw_675 : (Jvm.Cond.code ({ cls := "CanBits$Listener", name := "acknowledges", desc := "()Z" } : Jvm.MethodName) prog_3_method_3_code (1 : Nat) (Option.some Jvm.ClassFile.FieldType.boolean)) ∈ TT := TT_3 (i := 195) rfl rfl
set_option maxRecDepth 100000 in
theorem kw_676 : (Jvm.Cond.methodLink "CanBits" (182 : Nat) ({ cls := "CanBits$Node", name := "see", desc := "(II)I" } : Jvm.MethodName)) ∈ TT := TT_3 (i := 196) rfl rfl
set_option maxRecDepth 100000 in
theorem kw_677 : (Jvm.Cond.instanceMethod ({ cls := "CanBits$Node", name := "see", desc := "(II)I" } : Jvm.MethodName)) ∈ TT := TT_3 (i := 197) rfl rfl
set_option maxRecDepth 100000 in
theorem kw_678 : (Jvm.Cond.selects "CanBits$Node" ({ cls := "CanBits$Node", name := "see", desc := "(II)I" } : Jvm.MethodName) ({ cls := "CanBits$Node", name := "see", desc := "(II)I" } : Jvm.MethodName)) ∈ TT := TT_3 (i := 198) rfl rfl
set_option maxRecDepth 100000 in
theorem kw_679 : (Jvm.Cond.code ({ cls := "CanBits$Node", name := "see", desc := "(II)I" } : Jvm.MethodName) prog_4_method_5_code (4 : Nat) (Option.some Jvm.ClassFile.FieldType.int)) ∈ TT := TT_3 (i := 199) rfl rfl
set_option maxRecDepth 100000 in
theorem kw_680 : (Jvm.Cond.methodLink "CanBits$Node" (68 : Nat) ({ cls := "CanBits$Node", name := "turnToListening", desc := "()V" } : Jvm.MethodName)) ∈ TT := TT_3 (i := 200) rfl rfl
set_option maxRecDepth 100000 in
theorem kw_682 : (Jvm.Cond.instanceMethod ({ cls := "CanBits$Node", name := "turnToListening", desc := "()V" } : Jvm.MethodName)) ∈ TT := TT_3 (i := 202) rfl rfl
set_option maxRecDepth 100000 in
theorem kw_683 : (Jvm.Cond.code ({ cls := "CanBits$Node", name := "turnToListening", desc := "()V" } : Jvm.MethodName) prog_4_method_8_code (4 : Nat) (Option.none : Option Jvm.ClassFile.FieldType)) ∈ TT := TT_3 (i := 203) rfl rfl
set_option maxRecDepth 100000 in
theorem kw_684 : (Jvm.Cond.methodLink "CanBits$Node" (93 : Nat) ({ cls := "CanBits$Frame", name := "canLoseAt", desc := "(I)Z" } : Jvm.MethodName)) ∈ TT := TT_3 (i := 204) rfl rfl
set_option maxRecDepth 100000 in
theorem kw_685 : (Jvm.Cond.instanceMethod ({ cls := "CanBits$Frame", name := "canLoseAt", desc := "(I)Z" } : Jvm.MethodName)) ∈ TT := TT_3 (i := 205) rfl rfl
set_option maxRecDepth 100000 in
theorem kw_686 : (Jvm.Cond.selects "CanBits$Frame" ({ cls := "CanBits$Frame", name := "canLoseAt", desc := "(I)Z" } : Jvm.MethodName) ({ cls := "CanBits$Frame", name := "canLoseAt", desc := "(I)Z" } : Jvm.MethodName)) ∈ TT := TT_3 (i := 206) rfl rfl
set_option maxRecDepth 100000 in
theorem kw_687 : (Jvm.Cond.code ({ cls := "CanBits$Frame", name := "canLoseAt", desc := "(I)Z" } : Jvm.MethodName) prog_2_method_6_code (2 : Nat) (Option.some Jvm.ClassFile.FieldType.boolean)) ∈ TT := TT_3 (i := 207) rfl rfl
set_option maxRecDepth 100000 in
theorem kw_688 : (Jvm.Cond.methodLink "CanBits$Node" (97 : Nat) ({ cls := "CanBits$Listener", name := "begin", desc := "()V" } : Jvm.MethodName)) ∈ TT := TT_3 (i := 208) rfl rfl
set_option maxRecDepth 100000 in
theorem kw_689 : (Jvm.Cond.instanceMethod ({ cls := "CanBits$Listener", name := "begin", desc := "()V" } : Jvm.MethodName)) ∈ TT := TT_3 (i := 209) rfl rfl
set_option maxRecDepth 100000 in
theorem kw_690 : (Jvm.Cond.selects "CanBits$Listener" ({ cls := "CanBits$Listener", name := "begin", desc := "()V" } : Jvm.MethodName) ({ cls := "CanBits$Listener", name := "begin", desc := "()V" } : Jvm.MethodName)) ∈ TT := TT_3 (i := 210) rfl rfl
set_option maxRecDepth 100000 in
theorem kw_691 : (Jvm.Cond.code ({ cls := "CanBits$Listener", name := "begin", desc := "()V" } : Jvm.MethodName) prog_3_method_2_code (1 : Nat) (Option.none : Option Jvm.ClassFile.FieldType)) ∈ TT := TT_3 (i := 211) rfl rfl
set_option maxRecDepth 100000 in
theorem kw_692 : (Jvm.Cond.methodLink "CanBits$Listener" (22 : Nat) ({ cls := "CanBits$Sums", name := "begin", desc := "()V" } : Jvm.MethodName)) ∈ TT := TT_3 (i := 212) rfl rfl
set_option maxRecDepth 100000 in
theorem kw_693 : (Jvm.Cond.constant "CanBits$Listener" (58 : Nat) (1000000 : Int32)) ∈ TT := TT_3 (i := 213) rfl rfl
set_option maxRecDepth 100000 in
theorem kw_694 : (Jvm.Cond.methodLink "CanBits$Node" (74 : Nat) ({ cls := "CanBits$Listener", name := "hear", desc := "(I)I" } : Jvm.MethodName)) ∈ TT := TT_3 (i := 214) rfl rfl
set_option maxRecDepth 100000 in
theorem kw_695 : (Jvm.Cond.instanceMethod ({ cls := "CanBits$Listener", name := "hear", desc := "(I)I" } : Jvm.MethodName)) ∈ TT := TT_3 (i := 215) rfl rfl
set_option maxRecDepth 100000 in
theorem kw_696 : (Jvm.Cond.selects "CanBits$Listener" ({ cls := "CanBits$Listener", name := "hear", desc := "(I)I" } : Jvm.MethodName) ({ cls := "CanBits$Listener", name := "hear", desc := "(I)I" } : Jvm.MethodName)) ∈ TT := TT_3 (i := 216) rfl rfl
set_option maxRecDepth 100000 in
theorem kw_697 : (Jvm.Cond.code ({ cls := "CanBits$Listener", name := "hear", desc := "(I)I" } : Jvm.MethodName) prog_3_method_7_code (2 : Nat) (Option.some Jvm.ClassFile.FieldType.int)) ∈ TT := TT_3 (i := 217) rfl rfl
set_option maxRecDepth 100000 in
theorem kw_698 : (Jvm.Cond.methodLink "CanBits$Listener" (75 : Nat) ({ cls := "CanBits$Listener", name := "hearTail", desc := "(I)I" } : Jvm.MethodName)) ∈ TT := TT_3 (i := 218) rfl rfl
set_option maxRecDepth 100000 in
theorem kw_700 : (Jvm.Cond.instanceMethod ({ cls := "CanBits$Listener", name := "hearTail", desc := "(I)I" } : Jvm.MethodName)) ∈ TT := TT_3 (i := 220) rfl rfl
set_option maxRecDepth 100000 in
theorem kw_701 : (Jvm.Cond.code ({ cls := "CanBits$Listener", name := "hearTail", desc := "(I)I" } : Jvm.MethodName) prog_3_method_15_code (3 : Nat) (Option.some Jvm.ClassFile.FieldType.int)) ∈ TT := TT_3 (i := 221) rfl rfl
set_option maxRecDepth 100000 in
theorem kw_702 : (Jvm.Cond.methodLink "CanBits$Listener" (79 : Nat) ({ cls := "CanBits$Listener", name := "hearFixed", desc := "(I)I" } : Jvm.MethodName)) ∈ TT := TT_3 (i := 222) rfl rfl
set_option maxRecDepth 100000 in
theorem kw_704 : (Jvm.Cond.instanceMethod ({ cls := "CanBits$Listener", name := "hearFixed", desc := "(I)I" } : Jvm.MethodName)) ∈ TT := TT_3 (i := 224) rfl rfl
set_option maxRecDepth 100000 in
theorem kw_705 : (Jvm.Cond.code ({ cls := "CanBits$Listener", name := "hearFixed", desc := "(I)I" } : Jvm.MethodName) prog_3_method_13_code (5 : Nat) (Option.some Jvm.ClassFile.FieldType.int)) ∈ TT := TT_3 (i := 225) rfl rfl
set_option maxRecDepth 100000 in
theorem kw_706 : (Jvm.Cond.methodLink "CanBits$Listener" (88 : Nat) ({ cls := "CanBits$Sums", name := "addOther", desc := "(I)V" } : Jvm.MethodName)) ∈ TT := TT_3 (i := 226) rfl rfl
set_option maxRecDepth 100000 in
theorem kw_707 : (Jvm.Cond.methodLink "CanBits$Listener" (129 : Nat) ({ cls := "CanBits$Listener", name := "endCount", desc := "()I" } : Jvm.MethodName)) ∈ TT := TT_3 (i := 227) rfl rfl
set_option maxRecDepth 100000 in
theorem kw_709 : (Jvm.Cond.instanceMethod ({ cls := "CanBits$Listener", name := "endCount", desc := "()I" } : Jvm.MethodName)) ∈ TT := TT_3 (i := 229) rfl rfl
set_option maxRecDepth 100000 in
theorem kw_710 : (Jvm.Cond.code ({ cls := "CanBits$Listener", name := "endCount", desc := "()I" } : Jvm.MethodName) prog_3_method_14_code (2 : Nat) (Option.some Jvm.ClassFile.FieldType.int)) ∈ TT := TT_3 (i := 230) rfl rfl
set_option maxRecDepth 100000 in
theorem kw_712 : (Jvm.Cond.methodLink "CanBits$Listener" (132 : Nat) ({ cls := "CanBits$Sums", name := "flexibleWidth", desc := "(I)I" } : Jvm.MethodName)) ∈ TT := TT_3 (i := 232) rfl rfl
set_option maxRecDepth 100000 in
theorem kw_713 : (Jvm.Cond.methodLink "CanBits$Listener" (135 : Nat) ({ cls := "CanBits$Sums", name := "ofFlexible", desc := "(I)I" } : Jvm.MethodName)) ∈ TT := TT_3 (i := 233) rfl rfl
set_option maxRecDepth 100000 in
theorem kw_714 : (Jvm.Cond.methodLink "CanBits$Listener" (82 : Nat) ({ cls := "CanBits$Listener", name := "hearStuffBit", desc := "(I)I" } : Jvm.MethodName)) ∈ TT := TT_3 (i := 234) rfl rfl
set_option maxRecDepth 100000 in
theorem kw_716 : (Jvm.Cond.instanceMethod ({ cls := "CanBits$Listener", name := "hearStuffBit", desc := "(I)I" } : Jvm.MethodName)) ∈ TT := TT_3 (i := 236) rfl rfl
set_option maxRecDepth 100000 in
theorem kw_717 : (Jvm.Cond.code ({ cls := "CanBits$Listener", name := "hearStuffBit", desc := "(I)I" } : Jvm.MethodName) prog_3_method_8_code (2 : Nat) (Option.some Jvm.ClassFile.FieldType.int)) ∈ TT := TT_3 (i := 237) rfl rfl
set_option maxRecDepth 100000 in
theorem kw_718 : (Jvm.Cond.methodLink "CanBits$Listener" (85 : Nat) ({ cls := "CanBits$Listener", name := "hearPlain", desc := "(I)I" } : Jvm.MethodName)) ∈ TT := TT_3 (i := 238) rfl rfl
set_option maxRecDepth 100000 in
theorem kw_720 : (Jvm.Cond.instanceMethod ({ cls := "CanBits$Listener", name := "hearPlain", desc := "(I)I" } : Jvm.MethodName)) ∈ TT := TT_4 (i := 0) rfl rfl
set_option maxRecDepth 100000 in
theorem kw_721 : (Jvm.Cond.code ({ cls := "CanBits$Listener", name := "hearPlain", desc := "(I)I" } : Jvm.MethodName) prog_3_method_9_code (3 : Nat) (Option.some Jvm.ClassFile.FieldType.int)) ∈ TT := TT_4 (i := 1) rfl rfl
set_option maxRecDepth 100000 in
theorem kw_722 : (Jvm.Cond.methodLink "CanBits$Listener" (92 : Nat) ({ cls := "CanBits$Sums", name := "addPlain", desc := "(I)V" } : Jvm.MethodName)) ∈ TT := TT_4 (i := 2) rfl rfl
set_option maxRecDepth 100000 in
theorem kw_723 : (Jvm.Cond.methodLink "CanBits$Listener" (95 : Nat) ({ cls := "CanBits$Listener", name := "hearHead", desc := "(II)V" } : Jvm.MethodName)) ∈ TT := TT_4 (i := 3) rfl rfl
set_option maxRecDepth 100000 in
theorem kw_725 : (Jvm.Cond.instanceMethod ({ cls := "CanBits$Listener", name := "hearHead", desc := "(II)V" } : Jvm.MethodName)) ∈ TT := TT_4 (i := 5) rfl rfl
set_option maxRecDepth 100000 in
theorem kw_726 : (Jvm.Cond.code ({ cls := "CanBits$Listener", name := "hearHead", desc := "(II)V" } : Jvm.MethodName) prog_3_method_10_code (3 : Nat) (Option.none : Option Jvm.ClassFile.FieldType)) ∈ TT := TT_4 (i := 6) rfl rfl
set_option maxRecDepth 100000 in
theorem kw_728 : (Jvm.Cond.methodLink "CanBits$Listener" (109 : Nat) ({ cls := "CanBits$Listener", name := "kind", desc := "()I" } : Jvm.MethodName)) ∈ TT := TT_4 (i := 8) rfl rfl
set_option maxRecDepth 100000 in
theorem kw_729 : (Jvm.Cond.instanceMethod ({ cls := "CanBits$Listener", name := "kind", desc := "()I" } : Jvm.MethodName)) ∈ TT := TT_4 (i := 9) rfl rfl
set_option maxRecDepth 100000 in
theorem kw_730 : (Jvm.Cond.selects "CanBits$Listener" ({ cls := "CanBits$Listener", name := "kind", desc := "()I" } : Jvm.MethodName) ({ cls := "CanBits$Listener", name := "kind", desc := "()I" } : Jvm.MethodName)) ∈ TT := TT_4 (i := 10) rfl rfl
set_option maxRecDepth 100000 in
theorem kw_731 : (Jvm.Cond.code ({ cls := "CanBits$Listener", name := "kind", desc := "()I" } : Jvm.MethodName) prog_3_method_5_code (3 : Nat) (Option.some Jvm.ClassFile.FieldType.int)) ∈ TT := TT_4 (i := 11) rfl rfl
set_option maxRecDepth 100000 in
theorem kw_732 : (Jvm.Cond.methodLink "CanBits$Listener" (113 : Nat) ({ cls := "CanBits$Listener", name := "code", desc := "()I" } : Jvm.MethodName)) ∈ TT := TT_4 (i := 12) rfl rfl
set_option maxRecDepth 100000 in
theorem kw_733 : (Jvm.Cond.instanceMethod ({ cls := "CanBits$Listener", name := "code", desc := "()I" } : Jvm.MethodName)) ∈ TT := TT_4 (i := 13) rfl rfl
set_option maxRecDepth 100000 in
theorem kw_734 : (Jvm.Cond.selects "CanBits$Listener" ({ cls := "CanBits$Listener", name := "code", desc := "()I" } : Jvm.MethodName) ({ cls := "CanBits$Listener", name := "code", desc := "()I" } : Jvm.MethodName)) ∈ TT := TT_4 (i := 14) rfl rfl
set_option maxRecDepth 100000 in
theorem kw_735 : (Jvm.Cond.code ({ cls := "CanBits$Listener", name := "code", desc := "()I" } : Jvm.MethodName) prog_3_method_6_code (1 : Nat) (Option.some Jvm.ClassFile.FieldType.int)) ∈ TT := TT_4 (i := 15) rfl rfl
set_option maxRecDepth 100000 in
theorem kw_737 : (Jvm.Cond.methodLink "CanBits$Listener" (99 : Nat) ({ cls := "CanBits$Listener", name := "hearOctet", desc := "(II)V" } : Jvm.MethodName)) ∈ TT := TT_4 (i := 17) rfl rfl
set_option maxRecDepth 100000 in
theorem kw_739 : (Jvm.Cond.instanceMethod ({ cls := "CanBits$Listener", name := "hearOctet", desc := "(II)V" } : Jvm.MethodName)) ∈ TT := TT_4 (i := 19) rfl rfl
set_option maxRecDepth 100000 in
theorem kw_740 : (Jvm.Cond.code ({ cls := "CanBits$Listener", name := "hearOctet", desc := "(II)V" } : Jvm.MethodName) prog_3_method_11_code (4 : Nat) (Option.none : Option Jvm.ClassFile.FieldType)) ∈ TT := TT_4 (i := 20) rfl rfl
set_option maxRecDepth 100000 in
theorem kw_741 : (Jvm.Cond.methodLink "CanBits$Listener" (102 : Nat) ({ cls := "CanBits$Listener", name := "endPlain", desc := "()V" } : Jvm.MethodName)) ∈ TT := TT_4 (i := 21) rfl rfl
set_option maxRecDepth 100000 in
theorem kw_743 : (Jvm.Cond.instanceMethod ({ cls := "CanBits$Listener", name := "endPlain", desc := "()V" } : Jvm.MethodName)) ∈ TT := TT_4 (i := 23) rfl rfl
set_option maxRecDepth 100000 in
theorem kw_744 : (Jvm.Cond.code ({ cls := "CanBits$Listener", name := "endPlain", desc := "()V" } : Jvm.MethodName) prog_3_method_12_code (1 : Nat) (Option.none : Option Jvm.ClassFile.FieldType)) ∈ TT := TT_4 (i := 24) rfl rfl
set_option maxRecDepth 100000 in
theorem kw_745 : (Jvm.Cond.methodLink "CanBits$Node" (71 : Nat) ({ cls := "CanBits$Node", name := "seeSending", desc := "(I)I" } : Jvm.MethodName)) ∈ TT := TT_4 (i := 25) rfl rfl
set_option maxRecDepth 100000 in
theorem kw_747 : (Jvm.Cond.instanceMethod ({ cls := "CanBits$Node", name := "seeSending", desc := "(I)I" } : Jvm.MethodName)) ∈ TT := TT_4 (i := 27) rfl rfl
set_option maxRecDepth 100000 in
theorem kw_748 : (Jvm.Cond.code ({ cls := "CanBits$Node", name := "seeSending", desc := "(I)I" } : Jvm.MethodName) prog_4_method_9_code (2 : Nat) (Option.some Jvm.ClassFile.FieldType.int)) ∈ TT := TT_4 (i := 28) rfl rfl
set_option maxRecDepth 100000 in
theorem kw_749 : (Jvm.Cond.methodLink "CanBits$Node" (98 : Nat) ({ cls := "CanBits$Frame", name := "acknowledgedAt", desc := "(I)Z" } : Jvm.MethodName)) ∈ TT := TT_4 (i := 29) rfl rfl
set_option maxRecDepth 100000 in
theorem kw_750 : (Jvm.Cond.instanceMethod ({ cls := "CanBits$Frame", name := "acknowledgedAt", desc := "(I)Z" } : Jvm.MethodName)) ∈ TT := TT_4 (i := 30) rfl rfl
set_option maxRecDepth 100000 in
theorem kw_751 : (Jvm.Cond.selects "CanBits$Frame" ({ cls := "CanBits$Frame", name := "acknowledgedAt", desc := "(I)Z" } : Jvm.MethodName) ({ cls := "CanBits$Frame", name := "acknowledgedAt", desc := "(I)Z" } : Jvm.MethodName)) ∈ TT := TT_4 (i := 31) rfl rfl
set_option maxRecDepth 100000 in
theorem kw_752 : (Jvm.Cond.code ({ cls := "CanBits$Frame", name := "acknowledgedAt", desc := "(I)Z" } : Jvm.MethodName) prog_2_method_7_code (2 : Nat) (Option.some Jvm.ClassFile.FieldType.boolean)) ∈ TT := TT_4 (i := 32) rfl rfl
set_option maxRecDepth 100000 in
theorem kw_753 : (Jvm.Cond.methodLink "CanBits$Node" (77 : Nat) ({ cls := "CanBits$Node", name := "seeFlagging", desc := "()V" } : Jvm.MethodName)) ∈ TT := TT_4 (i := 33) rfl rfl
set_option maxRecDepth 100000 in
theorem kw_755 : (Jvm.Cond.instanceMethod ({ cls := "CanBits$Node", name := "seeFlagging", desc := "()V" } : Jvm.MethodName)) ∈ TT := TT_4 (i := 35) rfl rfl
set_option maxRecDepth 100000 in
theorem kw_756 : (Jvm.Cond.code ({ cls := "CanBits$Node", name := "seeFlagging", desc := "()V" } : Jvm.MethodName) prog_4_method_10_code (1 : Nat) (Option.none : Option Jvm.ClassFile.FieldType)) ∈ TT := TT_4 (i := 36) rfl rfl
set_option maxRecDepth 100000 in
theorem kw_757 : (Jvm.Cond.methodLink "CanBits$Node" (80 : Nat) ({ cls := "CanBits$Node", name := "seeClearing", desc := "(I)I" } : Jvm.MethodName)) ∈ TT := TT_4 (i := 37) rfl rfl
set_option maxRecDepth 100000 in
theorem kw_759 : (Jvm.Cond.instanceMethod ({ cls := "CanBits$Node", name := "seeClearing", desc := "(I)I" } : Jvm.MethodName)) ∈ TT := TT_4 (i := 39) rfl rfl
set_option maxRecDepth 100000 in
theorem kw_760 : (Jvm.Cond.code ({ cls := "CanBits$Node", name := "seeClearing", desc := "(I)I" } : Jvm.MethodName) prog_4_method_11_code (2 : Nat) (Option.some Jvm.ClassFile.FieldType.int)) ∈ TT := TT_4 (i := 40) rfl rfl
set_option maxRecDepth 100000 in
theorem kw_761 : (Jvm.Cond.methodLink "CanBits$Node" (83 : Nat) ({ cls := "CanBits$Node", name := "seePausing", desc := "(I)I" } : Jvm.MethodName)) ∈ TT := TT_4 (i := 41) rfl rfl
set_option maxRecDepth 100000 in
theorem kw_763 : (Jvm.Cond.instanceMethod ({ cls := "CanBits$Node", name := "seePausing", desc := "(I)I" } : Jvm.MethodName)) ∈ TT := TT_4 (i := 43) rfl rfl
set_option maxRecDepth 100000 in
theorem kw_764 : (Jvm.Cond.code ({ cls := "CanBits$Node", name := "seePausing", desc := "(I)I" } : Jvm.MethodName) prog_4_method_12_code (2 : Nat) (Option.some Jvm.ClassFile.FieldType.int)) ∈ TT := TT_4 (i := 44) rfl rfl
set_option maxRecDepth 100000 in
theorem kw_765 : (Jvm.Cond.methodLink "CanBits$Node" (86 : Nat) ({ cls := "CanBits$Node", name := "settle", desc := "(II)I" } : Jvm.MethodName)) ∈ TT := TT_4 (i := 45) rfl rfl
set_option maxRecDepth 100000 in
theorem kw_767 : (Jvm.Cond.instanceMethod ({ cls := "CanBits$Node", name := "settle", desc := "(II)I" } : Jvm.MethodName)) ∈ TT := TT_4 (i := 47) rfl rfl
set_option maxRecDepth 100000 in
theorem kw_768 : (Jvm.Cond.code ({ cls := "CanBits$Node", name := "settle", desc := "(II)I" } : Jvm.MethodName) prog_4_method_13_code (3 : Nat) (Option.some Jvm.ClassFile.FieldType.int)) ∈ TT := TT_4 (i := 48) rfl rfl
set_option maxRecDepth 100000 in
theorem kw_769 : (Jvm.Cond.methodLink "CanBits$Node" (104 : Nat) ({ cls := "CanBits$Listener", name := "identifier", desc := "()I" } : Jvm.MethodName)) ∈ TT := TT_4 (i := 49) rfl rfl
set_option maxRecDepth 100000 in
theorem kw_770 : (Jvm.Cond.instanceMethod ({ cls := "CanBits$Listener", name := "identifier", desc := "()I" } : Jvm.MethodName)) ∈ TT := TT_4 (i := 50) rfl rfl
set_option maxRecDepth 100000 in
theorem kw_771 : (Jvm.Cond.selects "CanBits$Listener" ({ cls := "CanBits$Listener", name := "identifier", desc := "()I" } : Jvm.MethodName) ({ cls := "CanBits$Listener", name := "identifier", desc := "()I" } : Jvm.MethodName)) ∈ TT := TT_4 (i := 51) rfl rfl
set_option maxRecDepth 100000 in
theorem kw_772 : (Jvm.Cond.code ({ cls := "CanBits$Listener", name := "identifier", desc := "()I" } : Jvm.MethodName) prog_3_method_4_code (2 : Nat) (Option.some Jvm.ClassFile.FieldType.int)) ∈ TT := TT_4 (i := 52) rfl rfl
set_option maxRecDepth 100000 in
theorem kw_773 : (Jvm.Cond.constant "CanBits$Listener" (74 : Nat) (262143 : Int32)) ∈ TT := TT_4 (i := 53) rfl rfl
set_option maxRecDepth 100000 in
theorem kw_774 : (Jvm.Cond.methodLink "CanBits$Node" (108 : Nat) ({ cls := "CanBits$Takings", name := "add", desc := "(LCanBits$Listener;I)V" } : Jvm.MethodName)) ∈ TT := TT_4 (i := 54) rfl rfl
set_option maxRecDepth 100000 in
theorem kw_775 : (Jvm.Cond.instanceMethod ({ cls := "CanBits$Takings", name := "add", desc := "(LCanBits$Listener;I)V" } : Jvm.MethodName)) ∈ TT := TT_4 (i := 55) rfl rfl
set_option maxRecDepth 100000 in
theorem kw_776 : (Jvm.Cond.selects "CanBits$Takings" ({ cls := "CanBits$Takings", name := "add", desc := "(LCanBits$Listener;I)V" } : Jvm.MethodName) ({ cls := "CanBits$Takings", name := "add", desc := "(LCanBits$Listener;I)V" } : Jvm.MethodName)) ∈ TT := TT_4 (i := 56) rfl rfl
set_option maxRecDepth 100000 in
theorem kw_777 : (Jvm.Cond.code ({ cls := "CanBits$Takings", name := "add", desc := "(LCanBits$Listener;I)V" } : Jvm.MethodName) prog_7_method_3_code (5 : Nat) (Option.none : Option Jvm.ClassFile.FieldType)) ∈ TT := TT_4 (i := 57) rfl rfl
set_option maxRecDepth 100000 in
theorem kw_778 : (Jvm.Cond.methodLink "CanBits$Takings" (30 : Nat) ({ cls := "CanBits$Listener", name := "identifier", desc := "()I" } : Jvm.MethodName)) ∈ TT := TT_4 (i := 58) rfl rfl
set_option maxRecDepth 100000 in
theorem kw_779 : (Jvm.Cond.methodLink "CanBits$Takings" (34 : Nat) ({ cls := "CanBits$Listener", name := "kind", desc := "()I" } : Jvm.MethodName)) ∈ TT := TT_4 (i := 59) rfl rfl
set_option maxRecDepth 100000 in
theorem kw_780 : (Jvm.Cond.methodLink "CanBits$Takings" (37 : Nat) ({ cls := "CanBits$Listener", name := "code", desc := "()I" } : Jvm.MethodName)) ∈ TT := TT_4 (i := 60) rfl rfl
set_option maxRecDepth 100000 in
theorem kw_781 : (Jvm.Cond.methodLink "CanBits" (185 : Nat) ({ cls := "CanBits", name := "keep", desc := "(II)V" } : Jvm.MethodName)) ∈ TT := TT_4 (i := 61) rfl rfl
set_option maxRecDepth 100000 in
theorem kw_783 : (Jvm.Cond.instanceMethod ({ cls := "CanBits", name := "keep", desc := "(II)V" } : Jvm.MethodName)) ∈ TT := TT_4 (i := 63) rfl rfl
set_option maxRecDepth 100000 in
theorem kw_784 : (Jvm.Cond.code ({ cls := "CanBits", name := "keep", desc := "(II)V" } : Jvm.MethodName) prog_1_method_24_code (3 : Nat) (Option.none : Option Jvm.ClassFile.FieldType)) ∈ TT := TT_4 (i := 64) rfl rfl
set_option maxRecDepth 100000 in
theorem kw_785 : (Jvm.Cond.methodLink "CanBits" (263 : Nat) ({ cls := "CanBits", name := "finish", desc := "(I)V" } : Jvm.MethodName)) ∈ TT := TT_4 (i := 65) rfl rfl
set_option maxRecDepth 100000 in
theorem kw_787 : (Jvm.Cond.instanceMethod ({ cls := "CanBits", name := "finish", desc := "(I)V" } : Jvm.MethodName)) ∈ TT := TT_4 (i := 67) rfl rfl
set_option maxRecDepth 100000 in
theorem kw_788 : (Jvm.Cond.code ({ cls := "CanBits", name := "finish", desc := "(I)V" } : Jvm.MethodName) prog_1_method_25_code (4 : Nat) (Option.none : Option Jvm.ClassFile.FieldType)) ∈ TT := TT_4 (i := 68) rfl rfl
set_option maxRecDepth 100000 in
theorem kw_789 : (Jvm.Cond.methodLink "CanBitsLaw" (111 : Nat) ({ cls := "CanBitsLaw", name := "bit", desc := "(LCanBits;I[J)I" } : Jvm.MethodName)) ∈ TT := TT_4 (i := 69) rfl rfl
set_option maxRecDepth 100000 in
theorem kw_790 : (Jvm.Cond.static ({ cls := "CanBitsLaw", name := "bit", desc := "(LCanBits;I[J)I" } : Jvm.MethodName)) ∈ TT := TT_4 (i := 70) rfl rfl
set_option maxRecDepth 100000 in
theorem kw_791 : (Jvm.Cond.codeWith ({ cls := "CanBitsLaw", name := "bit", desc := "(LCanBits;I[J)I" } : Jvm.MethodName) method_10_code (4 : Nat) (Option.some Jvm.ClassFile.FieldType.int) [((0 : Nat), (9 : Nat), (12 : Nat), (46 : Nat))]) ∈ TT := TT_4 (i := 71) rfl rfl
set_option maxRecDepth 100000 in
theorem kw_792 : (Jvm.Cond.classLink "CanBitsLaw" (46 : Nat) "java/lang/ArrayIndexOutOfBoundsException") ∈ TT := TT_4 (i := 72) rfl rfl
set_option maxRecDepth 100000 in
theorem kw_793 : (Jvm.Cond.methodLink "CanBitsLaw" (43 : Nat) ({ cls := "CanBits", name := "bit", desc := "(I)I" } : Jvm.MethodName)) ∈ TT := TT_4 (i := 73) rfl rfl
set_option maxRecDepth 100000 in
theorem kw_794 : (Jvm.Cond.instanceMethod ({ cls := "CanBits", name := "bit", desc := "(I)I" } : Jvm.MethodName)) ∈ TT := TT_4 (i := 74) rfl rfl
set_option maxRecDepth 100000 in
theorem kw_795 : (Jvm.Cond.selects "CanBits" ({ cls := "CanBits", name := "bit", desc := "(I)I" } : Jvm.MethodName) ({ cls := "CanBits", name := "bit", desc := "(I)I" } : Jvm.MethodName)) ∈ TT := TT_4 (i := 75) rfl rfl
set_option maxRecDepth 100000 in
theorem kw_796 : (Jvm.Cond.code ({ cls := "CanBits", name := "bit", desc := "(I)I" } : Jvm.MethodName) prog_1_method_10_code (2 : Nat) (Option.some Jvm.ClassFile.FieldType.int)) ∈ TT := TT_4 (i := 76) rfl rfl
set_option maxRecDepth 100000 in
theorem kw_797 : (Jvm.Cond.classLink "CanBits" (189 : Nat) "java/lang/ArrayIndexOutOfBoundsException") ∈ TT := TT_4 (i := 77) rfl rfl
set_option maxRecDepth 100000 in
theorem kw_799 : (Jvm.Cond.methodLink "CanBits" (193 : Nat) ({ cls := "java/lang/ArrayIndexOutOfBoundsException", name := "<init>", desc := "(Ljava/lang/String;)V" } : Jvm.MethodName)) ∈ TT := TT_4 (i := 79) rfl rfl
set_option maxRecDepth 100000 in
theorem kw_800 : (Jvm.Cond.methodLink "CanBitsLaw" (114 : Nat) ({ cls := "CanBitsLaw", name := "check", desc := "(LCanBits;III[J)I" } : Jvm.MethodName)) ∈ TT := TT_4 (i := 80) rfl rfl
set_option maxRecDepth 100000 in
theorem kw_801 : (Jvm.Cond.static ({ cls := "CanBitsLaw", name := "check", desc := "(LCanBits;III[J)I" } : Jvm.MethodName)) ∈ TT := TT_4 (i := 81) rfl rfl
set_option maxRecDepth 100000 in
theorem kw_802 : (Jvm.Cond.codeWith ({ cls := "CanBitsLaw", name := "check", desc := "(LCanBits;III[J)I" } : Jvm.MethodName) method_11_code (6 : Nat) (Option.some Jvm.ClassFile.FieldType.int) [((0 : Nat), (12 : Nat), (15 : Nat), (13 : Nat)), ((0 : Nat), (12 : Nat), (19 : Nat), (21 : Nat))]) ∈ TT := TT_4 (i := 82) rfl rfl
set_option maxRecDepth 100000 in
theorem kw_803 : (Jvm.Cond.methodLink "CanBitsLaw" (48 : Nat) ({ cls := "CanBits", name := "check", desc := "(III)I" } : Jvm.MethodName)) ∈ TT := TT_4 (i := 83) rfl rfl
set_option maxRecDepth 100000 in
theorem kw_804 : (Jvm.Cond.instanceMethod ({ cls := "CanBits", name := "check", desc := "(III)I" } : Jvm.MethodName)) ∈ TT := TT_4 (i := 84) rfl rfl
set_option maxRecDepth 100000 in
theorem kw_805 : (Jvm.Cond.selects "CanBits" ({ cls := "CanBits", name := "check", desc := "(III)I" } : Jvm.MethodName) ({ cls := "CanBits", name := "check", desc := "(III)I" } : Jvm.MethodName)) ∈ TT := TT_4 (i := 85) rfl rfl
set_option maxRecDepth 100000 in
theorem kw_806 : (Jvm.Cond.code ({ cls := "CanBits", name := "check", desc := "(III)I" } : Jvm.MethodName) prog_1_method_11_code (7 : Nat) (Option.some Jvm.ClassFile.FieldType.int)) ∈ TT := TT_4 (i := 86) rfl rfl
set_option maxRecDepth 100000 in
theorem kw_809 : (Jvm.Cond.methodLink "CanBits" (202 : Nat) ({ cls := "CanBits$Sums", name := "begin", desc := "()V" } : Jvm.MethodName)) ∈ TT := TT_4 (i := 89) rfl rfl
set_option maxRecDepth 100000 in
theorem kw_810 : (Jvm.Cond.methodLink "CanBits" (216 : Nat) ({ cls := "CanBits$Register", name := "move", desc := "(I)V" } : Jvm.MethodName)) ∈ TT := TT_4 (i := 90) rfl rfl
set_option maxRecDepth 100000 in
theorem kw_811 : (Jvm.Cond.methodLink "CanBitsLaw" (118 : Nat) ({ cls := "CanBitsLaw", name := "state", desc := "(LCanBits;I[J)I" } : Jvm.MethodName)) ∈ TT := TT_4 (i := 91) rfl rfl
set_option maxRecDepth 100000 in
theorem kw_812 : (Jvm.Cond.static ({ cls := "CanBitsLaw", name := "state", desc := "(LCanBits;I[J)I" } : Jvm.MethodName)) ∈ TT := TT_4 (i := 92) rfl rfl
set_option maxRecDepth 100000 in
theorem kw_813 : (Jvm.Cond.codeWith ({ cls := "CanBitsLaw", name := "state", desc := "(LCanBits;I[J)I" } : Jvm.MethodName) method_12_code (4 : Nat) (Option.some Jvm.ClassFile.FieldType.int) [((0 : Nat), (9 : Nat), (12 : Nat), (21 : Nat))]) ∈ TT := TT_4 (i := 93) rfl rfl
set_option maxRecDepth 100000 in
theorem kw_814 : (Jvm.Cond.methodLink "CanBitsLaw" (52 : Nat) ({ cls := "CanBits", name := "state", desc := "(I)I" } : Jvm.MethodName)) ∈ TT := TT_4 (i := 94) rfl rfl
set_option maxRecDepth 100000 in
theorem kw_815 : (Jvm.Cond.instanceMethod ({ cls := "CanBits", name := "state", desc := "(I)I" } : Jvm.MethodName)) ∈ TT := TT_4 (i := 95) rfl rfl
set_option maxRecDepth 100000 in
theorem kw_816 : (Jvm.Cond.selects "CanBits" ({ cls := "CanBits", name := "state", desc := "(I)I" } : Jvm.MethodName) ({ cls := "CanBits", name := "state", desc := "(I)I" } : Jvm.MethodName)) ∈ TT := TT_4 (i := 96) rfl rfl
set_option maxRecDepth 100000 in
theorem kw_817 : (Jvm.Cond.code ({ cls := "CanBits", name := "state", desc := "(I)I" } : Jvm.MethodName) prog_1_method_12_code (2 : Nat) (Option.some Jvm.ClassFile.FieldType.int)) ∈ TT := TT_4 (i := 97) rfl rfl
set_option maxRecDepth 100000 in
theorem kw_818 : (Jvm.Cond.methodLink "CanBitsLaw" (121 : Nat) ({ cls := "CanBitsLaw", name := "waiting", desc := "(LCanBits;I[J)I" } : Jvm.MethodName)) ∈ TT := TT_4 (i := 98) rfl rfl
set_option maxRecDepth 100000 in
theorem kw_819 : (Jvm.Cond.static ({ cls := "CanBitsLaw", name := "waiting", desc := "(LCanBits;I[J)I" } : Jvm.MethodName)) ∈ TT := TT_4 (i := 99) rfl rfl
set_option maxRecDepth 100000 in
theorem kw_820 : (Jvm.Cond.codeWith ({ cls := "CanBitsLaw", name := "waiting", desc := "(LCanBits;I[J)I" } : Jvm.MethodName) method_13_code (4 : Nat) (Option.some Jvm.ClassFile.FieldType.int) [((0 : Nat), (9 : Nat), (12 : Nat), (21 : Nat))]) ∈ TT := TT_4 (i := 100) rfl rfl
set_option maxRecDepth 100000 in
theorem kw_821 : (Jvm.Cond.methodLink "CanBitsLaw" (55 : Nat) ({ cls := "CanBits", name := "waiting", desc := "(I)I" } : Jvm.MethodName)) ∈ TT := TT_4 (i := 101) rfl rfl
set_option maxRecDepth 100000 in
theorem kw_822 : (Jvm.Cond.instanceMethod ({ cls := "CanBits", name := "waiting", desc := "(I)I" } : Jvm.MethodName)) ∈ TT := TT_4 (i := 102) rfl rfl
set_option maxRecDepth 100000 in
theorem kw_823 : (Jvm.Cond.selects "CanBits" ({ cls := "CanBits", name := "waiting", desc := "(I)I" } : Jvm.MethodName) ({ cls := "CanBits", name := "waiting", desc := "(I)I" } : Jvm.MethodName)) ∈ TT := TT_4 (i := 103) rfl rfl
set_option maxRecDepth 100000 in
theorem kw_824 : (Jvm.Cond.code ({ cls := "CanBits", name := "waiting", desc := "(I)I" } : Jvm.MethodName) prog_1_method_13_code (2 : Nat) (Option.some Jvm.ClassFile.FieldType.int)) ∈ TT := TT_4 (i := 104) rfl rfl
set_option maxRecDepth 100000 in
theorem kw_825 : (Jvm.Cond.methodLink "CanBitsLaw" (124 : Nat) ({ cls := "CanBitsLaw", name := "done", desc := "(LCanBits;II[J)I" } : Jvm.MethodName)) ∈ TT := TT_4 (i := 105) rfl rfl
set_option maxRecDepth 100000 in
theorem kw_826 : (Jvm.Cond.static ({ cls := "CanBitsLaw", name := "done", desc := "(LCanBits;II[J)I" } : Jvm.MethodName)) ∈ TT := TT_4 (i := 106) rfl rfl
set_option maxRecDepth 100000 in
theorem kw_827 : (Jvm.Cond.codeWith ({ cls := "CanBitsLaw", name := "done", desc := "(LCanBits;II[J)I" } : Jvm.MethodName) method_14_code (5 : Nat) (Option.some Jvm.ClassFile.FieldType.int) [((0 : Nat), (10 : Nat), (13 : Nat), (21 : Nat)), ((0 : Nat), (10 : Nat), (17 : Nat), (13 : Nat))]) ∈ TT := TT_4 (i := 107) rfl rfl
set_option maxRecDepth 100000 in
theorem kw_828 : (Jvm.Cond.methodLink "CanBitsLaw" (58 : Nat) ({ cls := "CanBits", name := "done", desc := "(II)I" } : Jvm.MethodName)) ∈ TT := TT_4 (i := 108) rfl rfl
set_option maxRecDepth 100000 in
theorem kw_829 : (Jvm.Cond.instanceMethod ({ cls := "CanBits", name := "done", desc := "(II)I" } : Jvm.MethodName)) ∈ TT := TT_4 (i := 109) rfl rfl
set_option maxRecDepth 100000 in
theorem kw_830 : (Jvm.Cond.selects "CanBits" ({ cls := "CanBits", name := "done", desc := "(II)I" } : Jvm.MethodName) ({ cls := "CanBits", name := "done", desc := "(II)I" } : Jvm.MethodName)) ∈ TT := TT_4 (i := 110) rfl rfl
set_option maxRecDepth 100000 in
theorem kw_831 : (Jvm.Cond.code ({ cls := "CanBits", name := "done", desc := "(II)I" } : Jvm.MethodName) prog_1_method_14_code (3 : Nat) (Option.some Jvm.ClassFile.FieldType.int)) ∈ TT := TT_4 (i := 111) rfl rfl
set_option maxRecDepth 100000 in
theorem kw_832 : (Jvm.Cond.methodLink "CanBits" (227 : Nat) ({ cls := "CanBits", name := "needThing", desc := "(II)V" } : Jvm.MethodName)) ∈ TT := TT_4 (i := 112) rfl rfl
set_option maxRecDepth 100000 in
theorem kw_833 : (Jvm.Cond.static ({ cls := "CanBits", name := "needThing", desc := "(II)V" } : Jvm.MethodName)) ∈ TT := TT_4 (i := 113) rfl rfl
set_option maxRecDepth 100000 in
theorem kw_834 : (Jvm.Cond.code ({ cls := "CanBits", name := "needThing", desc := "(II)V" } : Jvm.MethodName) prog_1_method_20_code (2 : Nat) (Option.none : Option Jvm.ClassFile.FieldType)) ∈ TT := TT_4 (i := 114) rfl rfl
set_option maxRecDepth 100000 in
theorem kw_836 : (Jvm.Cond.methodLink "CanBits" (230 : Nat) ({ cls := "CanBits", name := "needWhat", desc := "(II)V" } : Jvm.MethodName)) ∈ TT := TT_4 (i := 116) rfl rfl
set_option maxRecDepth 100000 in
theorem kw_837 : (Jvm.Cond.static ({ cls := "CanBits", name := "needWhat", desc := "(II)V" } : Jvm.MethodName)) ∈ TT := TT_4 (i := 117) rfl rfl
set_option maxRecDepth 100000 in
theorem kw_838 : (Jvm.Cond.code ({ cls := "CanBits", name := "needWhat", desc := "(II)V" } : Jvm.MethodName) prog_1_method_21_code (2 : Nat) (Option.none : Option Jvm.ClassFile.FieldType)) ∈ TT := TT_4 (i := 118) rfl rfl
set_option maxRecDepth 100000 in
theorem kw_840 : (Jvm.Cond.methodLink "CanBitsLaw" (128 : Nat) ({ cls := "CanBitsLaw", name := "taken", desc := "(LCanBits;III[J)I" } : Jvm.MethodName)) ∈ TT := TT_4 (i := 120) rfl rfl
set_option maxRecDepth 100000 in
theorem kw_841 : (Jvm.Cond.static ({ cls := "CanBitsLaw", name := "taken", desc := "(LCanBits;III[J)I" } : Jvm.MethodName)) ∈ TT := TT_4 (i := 121) rfl rfl
set_option maxRecDepth 100000 in
theorem kw_842 : (Jvm.Cond.codeWith ({ cls := "CanBitsLaw", name := "taken", desc := "(LCanBits;III[J)I" } : Jvm.MethodName) method_15_code (6 : Nat) (Option.some Jvm.ClassFile.FieldType.int) [((0 : Nat), (12 : Nat), (15 : Nat), (21 : Nat)), ((0 : Nat), (12 : Nat), (19 : Nat), (13 : Nat))]) ∈ TT := TT_4 (i := 122) rfl rfl
set_option maxRecDepth 100000 in
theorem kw_843 : (Jvm.Cond.methodLink "CanBitsLaw" (62 : Nat) ({ cls := "CanBits", name := "taken", desc := "(III)I" } : Jvm.MethodName)) ∈ TT := TT_4 (i := 123) rfl rfl
set_option maxRecDepth 100000 in
theorem kw_844 : (Jvm.Cond.instanceMethod ({ cls := "CanBits", name := "taken", desc := "(III)I" } : Jvm.MethodName)) ∈ TT := TT_4 (i := 124) rfl rfl
set_option maxRecDepth 100000 in
theorem kw_845 : (Jvm.Cond.selects "CanBits" ({ cls := "CanBits", name := "taken", desc := "(III)I" } : Jvm.MethodName) ({ cls := "CanBits", name := "taken", desc := "(III)I" } : Jvm.MethodName)) ∈ TT := TT_4 (i := 125) rfl rfl
set_option maxRecDepth 100000 in
theorem kw_846 : (Jvm.Cond.code ({ cls := "CanBits", name := "taken", desc := "(III)I" } : Jvm.MethodName) prog_1_method_15_code (5 : Nat) (Option.some Jvm.ClassFile.FieldType.int)) ∈ TT := TT_4 (i := 126) rfl rfl
set_option maxRecDepth 100000 in
theorem kw_847 : (Jvm.Cond.methodLink "CanBits" (242 : Nat) ({ cls := "CanBits$Takings", name := "told", desc := "(II)I" } : Jvm.MethodName)) ∈ TT := TT_4 (i := 127) rfl rfl
set_option maxRecDepth 100000 in
theorem kw_848 : (Jvm.Cond.instanceMethod ({ cls := "CanBits$Takings", name := "told", desc := "(II)I" } : Jvm.MethodName)) ∈ TT := TT_4 (i := 128) rfl rfl
set_option maxRecDepth 100000 in
theorem kw_849 : (Jvm.Cond.selects "CanBits$Takings" ({ cls := "CanBits$Takings", name := "told", desc := "(II)I" } : Jvm.MethodName) ({ cls := "CanBits$Takings", name := "told", desc := "(II)I" } : Jvm.MethodName)) ∈ TT := TT_4 (i := 129) rfl rfl
set_option maxRecDepth 100000 in
theorem kw_850 : (Jvm.Cond.code ({ cls := "CanBits$Takings", name := "told", desc := "(II)I" } : Jvm.MethodName) prog_7_method_4_code (4 : Nat) (Option.some Jvm.ClassFile.FieldType.int)) ∈ TT := TT_4 (i := 130) rfl rfl
set_option maxRecDepth 100000 in
theorem kw_851 : (Jvm.Cond.methodLink "CanBitsLaw" (131 : Nat) ({ cls := "CanBitsLaw", name := "takenOctet", desc := "(LCanBits;III[J)I" } : Jvm.MethodName)) ∈ TT := TT_4 (i := 131) rfl rfl
set_option maxRecDepth 100000 in
theorem kw_852 : (Jvm.Cond.static ({ cls := "CanBitsLaw", name := "takenOctet", desc := "(LCanBits;III[J)I" } : Jvm.MethodName)) ∈ TT := TT_4 (i := 132) rfl rfl
set_option maxRecDepth 100000 in
theorem kw_853 : (Jvm.Cond.codeWith ({ cls := "CanBitsLaw", name := "takenOctet", desc := "(LCanBits;III[J)I" } : Jvm.MethodName) method_16_code (6 : Nat) (Option.some Jvm.ClassFile.FieldType.int) [((0 : Nat), (12 : Nat), (15 : Nat), (21 : Nat))]) ∈ TT := TT_4 (i := 133) rfl rfl
set_option maxRecDepth 100000 in
theorem kw_854 : (Jvm.Cond.methodLink "CanBitsLaw" (65 : Nat) ({ cls := "CanBits", name := "takenOctet", desc := "(III)I" } : Jvm.MethodName)) ∈ TT := TT_4 (i := 134) rfl rfl
set_option maxRecDepth 100000 in
theorem kw_855 : (Jvm.Cond.instanceMethod ({ cls := "CanBits", name := "takenOctet", desc := "(III)I" } : Jvm.MethodName)) ∈ TT := TT_4 (i := 135) rfl rfl
set_option maxRecDepth 100000 in
theorem kw_856 : (Jvm.Cond.selects "CanBits" ({ cls := "CanBits", name := "takenOctet", desc := "(III)I" } : Jvm.MethodName) ({ cls := "CanBits", name := "takenOctet", desc := "(III)I" } : Jvm.MethodName)) ∈ TT := TT_4 (i := 136) rfl rfl
set_option maxRecDepth 100000 in
theorem kw_857 : (Jvm.Cond.code ({ cls := "CanBits", name := "takenOctet", desc := "(III)I" } : Jvm.MethodName) prog_1_method_16_code (5 : Nat) (Option.some Jvm.ClassFile.FieldType.int)) ∈ TT := TT_4 (i := 137) rfl rfl
set_option maxRecDepth 100000 in
theorem kw_858 : (Jvm.Cond.methodLink "CanBits" (245 : Nat) ({ cls := "CanBits$Takings", name := "octetOf", desc := "(II)I" } : Jvm.MethodName)) ∈ TT := TT_4 (i := 138) rfl rfl
set_option maxRecDepth 100000 in
theorem kw_859 : (Jvm.Cond.instanceMethod ({ cls := "CanBits$Takings", name := "octetOf", desc := "(II)I" } : Jvm.MethodName)) ∈ TT := TT_4 (i := 139) rfl rfl
set_option maxRecDepth 100000 in
theorem kw_860 : (Jvm.Cond.selects "CanBits$Takings" ({ cls := "CanBits$Takings", name := "octetOf", desc := "(II)I" } : Jvm.MethodName) ({ cls := "CanBits$Takings", name := "octetOf", desc := "(II)I" } : Jvm.MethodName)) ∈ TT := TT_4 (i := 140) rfl rfl
set_option maxRecDepth 100000 in
theorem kw_861 : (Jvm.Cond.code ({ cls := "CanBits$Takings", name := "octetOf", desc := "(II)I" } : Jvm.MethodName) prog_7_method_5_code (4 : Nat) (Option.some Jvm.ClassFile.FieldType.int)) ∈ TT := TT_4 (i := 141) rfl rfl
set_option maxRecDepth 100000 in
theorem kw_862 : (Jvm.Cond.methodLink "CanBits$Takings" (41 : Nat) ({ cls := "CanBits$Takings", name := "told", desc := "(II)I" } : Jvm.MethodName)) ∈ TT := TT_4 (i := 142) rfl rfl
set_option maxRecDepth 100000 in
theorem kw_863 : (Jvm.Cond.methodLink "CanBitsLaw" (134 : Nat) ({ cls := "CanBitsLaw", name := "error", desc := "(LCanBits;II[J)I" } : Jvm.MethodName)) ∈ TT := TT_4 (i := 143) rfl rfl
set_option maxRecDepth 100000 in
theorem kw_864 : (Jvm.Cond.static ({ cls := "CanBitsLaw", name := "error", desc := "(LCanBits;II[J)I" } : Jvm.MethodName)) ∈ TT := TT_4 (i := 144) rfl rfl
set_option maxRecDepth 100000 in
theorem kw_865 : (Jvm.Cond.codeWith ({ cls := "CanBitsLaw", name := "error", desc := "(LCanBits;II[J)I" } : Jvm.MethodName) method_17_code (5 : Nat) (Option.some Jvm.ClassFile.FieldType.int) [((0 : Nat), (10 : Nat), (13 : Nat), (21 : Nat)), ((0 : Nat), (10 : Nat), (17 : Nat), (13 : Nat))]) ∈ TT := TT_4 (i := 145) rfl rfl
set_option maxRecDepth 100000 in
theorem kw_866 : (Jvm.Cond.methodLink "CanBitsLaw" (68 : Nat) ({ cls := "CanBits", name := "error", desc := "(II)I" } : Jvm.MethodName)) ∈ TT := TT_4 (i := 146) rfl rfl
set_option maxRecDepth 100000 in
theorem kw_867 : (Jvm.Cond.instanceMethod ({ cls := "CanBits", name := "error", desc := "(II)I" } : Jvm.MethodName)) ∈ TT := TT_4 (i := 147) rfl rfl
set_option maxRecDepth 100000 in
theorem kw_868 : (Jvm.Cond.selects "CanBits" ({ cls := "CanBits", name := "error", desc := "(II)I" } : Jvm.MethodName) ({ cls := "CanBits", name := "error", desc := "(II)I" } : Jvm.MethodName)) ∈ TT := TT_4 (i := 148) rfl rfl
set_option maxRecDepth 100000 in
theorem kw_869 : (Jvm.Cond.code ({ cls := "CanBits", name := "error", desc := "(II)I" } : Jvm.MethodName) prog_1_method_17_code (4 : Nat) (Option.some Jvm.ClassFile.FieldType.int)) ∈ TT := TT_4 (i := 149) rfl rfl
set_option maxRecDepth 100000 in
theorem kw_870 : (Jvm.Cond.classLink "CanBitsLaw" (72 : Nat) "CanBitsModel") ∈ TT := TT_4 (i := 150) rfl rfl
set_option maxRecDepth 100000 in
theorem kw_871 : (Jvm.Cond.instantiable "CanBitsModel" (47 : Nat)) ∈ TT := TT_4 (i := 151) rfl rfl
set_option maxRecDepth 100000 in
theorem kw_872 : (Jvm.Cond.methodLink "CanBitsLaw" (74 : Nat) ({ cls := "CanBitsModel", name := "<init>", desc := "()V" } : Jvm.MethodName)) ∈ TT := TT_4 (i := 152) rfl rfl
set_option maxRecDepth 100000 in
theorem kw_873 : (Jvm.Cond.instanceMethod ({ cls := "CanBitsModel", name := "<init>", desc := "()V" } : Jvm.MethodName)) ∈ TT := TT_4 (i := 153) rfl rfl
set_option maxRecDepth 100000 in
theorem kw_874 : (Jvm.Cond.code ({ cls := "CanBitsModel", name := "<init>", desc := "()V" } : Jvm.MethodName) prog_10_method_1_code (1 : Nat) (Option.none : Option Jvm.ClassFile.FieldType)) ∈ TT := TT_4 (i := 154) rfl rfl
set_option maxRecDepth 100000 in
theorem kw_875 : (Jvm.Cond.methodLink "CanBitsModel" (1 : Nat) ({ cls := "java/lang/Object", name := "<init>", desc := "()V" } : Jvm.MethodName)) ∈ TT := TT_4 (i := 155) rfl rfl
set_option maxRecDepth 100000 in
theorem kw_876 : (Jvm.Cond.constant "CanBitsModel" (61 : Nat) (38400 : Int32)) ∈ TT := TT_4 (i := 156) rfl rfl
set_option maxRecDepth 100000 in
theorem kw_877 : (Jvm.Cond.constant "CanBitsModel" (65 : Nat) (640000 : Int32)) ∈ TT := TT_4 (i := 157) rfl rfl
set_option maxRecDepth 100000 in
theorem kw_878 : (Jvm.Cond.constant "CanBitsModel" (84 : Nat) (896000 : Int32)) ∈ TT := TT_4 (i := 158) rfl rfl
set_option maxRecDepth 100000 in
theorem kw_879 : (Jvm.Cond.constant "CanBitsModel" (88 : Nat) (92000 : Int32)) ∈ TT := TT_4 (i := 159) rfl rfl
set_option maxRecDepth 100000 in
theorem kw_880 : (Jvm.Cond.fieldLink "CanBitsModel" (113 : Nat) "CanBitsModel" "code" "I") ∈ TT := TT_4 (i := 160) rfl rfl
set_option maxRecDepth 100000 in
theorem kw_881 : (Jvm.Cond.fieldLink "CanBitsModel" (7 : Nat) "CanBitsModel" "nodes" "I") ∈ TT := TT_4 (i := 161) rfl rfl
set_option maxRecDepth 100000 in
theorem kw_882 : (Jvm.Cond.fieldLink "CanBitsModel" (116 : Nat) "CanBitsModel" "time" "I") ∈ TT := TT_4 (i := 162) rfl rfl
set_option maxRecDepth 100000 in
theorem kw_883 : (Jvm.Cond.fieldLink "CanBitsModel" (13 : Nat) "CanBitsModel" "bus" "[B") ∈ TT := TT_4 (i := 163) rfl rfl
set_option maxRecDepth 100000 in
theorem kw_884 : (Jvm.Cond.fieldLink "CanBitsModel" (119 : Nat) "CanBitsModel" "frames" "I") ∈ TT := TT_4 (i := 164) rfl rfl
set_option maxRecDepth 100000 in
theorem kw_885 : (Jvm.Cond.fieldLink "CanBitsModel" (17 : Nat) "CanBitsModel" "owner" "[I") ∈ TT := TT_4 (i := 165) rfl rfl
set_option maxRecDepth 100000 in
theorem kw_886 : (Jvm.Cond.fieldLink "CanBitsModel" (21 : Nat) "CanBitsModel" "identifier" "[I") ∈ TT := TT_4 (i := 166) rfl rfl
set_option maxRecDepth 100000 in
theorem kw_887 : (Jvm.Cond.fieldLink "CanBitsModel" (24 : Nat) "CanBitsModel" "kind" "[I") ∈ TT := TT_4 (i := 167) rfl rfl
set_option maxRecDepth 100000 in
theorem kw_888 : (Jvm.Cond.fieldLink "CanBitsModel" (27 : Nat) "CanBitsModel" "length" "[I") ∈ TT := TT_4 (i := 168) rfl rfl
set_option maxRecDepth 100000 in
theorem kw_889 : (Jvm.Cond.fieldLink "CanBitsModel" (30 : Nat) "CanBitsModel" "octets" "[I") ∈ TT := TT_4 (i := 169) rfl rfl
set_option maxRecDepth 100000 in
theorem kw_890 : (Jvm.Cond.fieldLink "CanBitsModel" (33 : Nat) "CanBitsModel" "isDone" "[Z") ∈ TT := TT_4 (i := 170) rfl rfl
set_option maxRecDepth 100000 in
theorem kw_891 : (Jvm.Cond.fieldLink "CanBitsModel" (122 : Nat) "CanBitsModel" "dones" "I") ∈ TT := TT_4 (i := 171) rfl rfl
set_option maxRecDepth 100000 in
theorem kw_892 : (Jvm.Cond.fieldLink "CanBitsModel" (37 : Nat) "CanBitsModel" "doneFrame" "[I") ∈ TT := TT_4 (i := 172) rfl rfl
set_option maxRecDepth 100000 in
theorem kw_893 : (Jvm.Cond.fieldLink "CanBitsModel" (40 : Nat) "CanBitsModel" "doneTime" "[I") ∈ TT := TT_4 (i := 173) rfl rfl
set_option maxRecDepth 100000 in
theorem kw_894 : (Jvm.Cond.fieldLink "CanBitsModel" (43 : Nat) "CanBitsModel" "state" "[I") ∈ TT := TT_4 (i := 174) rfl rfl
set_option maxRecDepth 100000 in
theorem kw_895 : (Jvm.Cond.fieldLink "CanBitsModel" (46 : Nat) "CanBitsModel" "left" "[I") ∈ TT := TT_4 (i := 175) rfl rfl
set_option maxRecDepth 100000 in
theorem kw_896 : (Jvm.Cond.fieldLink "CanBitsModel" (49 : Nat) "CanBitsModel" "sends" "[I") ∈ TT := TT_4 (i := 176) rfl rfl
set_option maxRecDepth 100000 in
theorem kw_897 : (Jvm.Cond.fieldLink "CanBitsModel" (52 : Nat) "CanBitsModel" "mask" "[I") ∈ TT := TT_4 (i := 177) rfl rfl
set_option maxRecDepth 100000 in
theorem kw_898 : (Jvm.Cond.fieldLink "CanBitsModel" (55 : Nat) "CanBitsModel" "match" "[I") ∈ TT := TT_4 (i := 178) rfl rfl
set_option maxRecDepth 100000 in
theorem kw_899 : (Jvm.Cond.fieldLink "CanBitsModel" (58 : Nat) "CanBitsModel" "seenCount" "[I") ∈ TT := TT_4 (i := 179) rfl rfl
set_option maxRecDepth 100000 in
theorem kw_900 : (Jvm.Cond.fieldLink "CanBitsModel" (62 : Nat) "CanBitsModel" "seen" "[B") ∈ TT := TT_4 (i := 180) rfl rfl
set_option maxRecDepth 100000 in
theorem kw_901 : (Jvm.Cond.fieldLink "CanBitsModel" (66 : Nat) "CanBitsModel" "flip" "[Z") ∈ TT := TT_4 (i := 181) rfl rfl
set_option maxRecDepth 100000 in
theorem kw_902 : (Jvm.Cond.fieldLink "CanBitsModel" (125 : Nat) "CanBitsModel" "takens" "I") ∈ TT := TT_4 (i := 182) rfl rfl
set_option maxRecDepth 100000 in
theorem kw_903 : (Jvm.Cond.fieldLink "CanBitsModel" (69 : Nat) "CanBitsModel" "takenNode" "[I") ∈ TT := TT_4 (i := 183) rfl rfl
set_option maxRecDepth 100000 in
theorem kw_904 : (Jvm.Cond.fieldLink "CanBitsModel" (72 : Nat) "CanBitsModel" "takenIdentifier" "[I") ∈ TT := TT_4 (i := 184) rfl rfl
set_option maxRecDepth 100000 in
theorem kw_905 : (Jvm.Cond.fieldLink "CanBitsModel" (75 : Nat) "CanBitsModel" "takenKind" "[B") ∈ TT := TT_4 (i := 185) rfl rfl
set_option maxRecDepth 100000 in
theorem kw_906 : (Jvm.Cond.fieldLink "CanBitsModel" (78 : Nat) "CanBitsModel" "takenLength" "[B") ∈ TT := TT_4 (i := 186) rfl rfl
set_option maxRecDepth 100000 in
theorem kw_907 : (Jvm.Cond.fieldLink "CanBitsModel" (81 : Nat) "CanBitsModel" "takenTime" "[I") ∈ TT := TT_4 (i := 187) rfl rfl
set_option maxRecDepth 100000 in
theorem kw_908 : (Jvm.Cond.fieldLink "CanBitsModel" (85 : Nat) "CanBitsModel" "takenOctets" "[B") ∈ TT := TT_4 (i := 188) rfl rfl
set_option maxRecDepth 100000 in
theorem kw_909 : (Jvm.Cond.fieldLink "CanBitsModel" (128 : Nat) "CanBitsModel" "errors" "I") ∈ TT := TT_4 (i := 189) rfl rfl
set_option maxRecDepth 100000 in
theorem kw_910 : (Jvm.Cond.fieldLink "CanBitsModel" (89 : Nat) "CanBitsModel" "errorKind" "[B") ∈ TT := TT_4 (i := 190) rfl rfl
set_option maxRecDepth 100000 in
theorem kw_911 : (Jvm.Cond.fieldLink "CanBitsModel" (92 : Nat) "CanBitsModel" "errorNode" "[B") ∈ TT := TT_4 (i := 191) rfl rfl
set_option maxRecDepth 100000 in
theorem kw_912 : (Jvm.Cond.fieldLink "CanBitsModel" (95 : Nat) "CanBitsModel" "errorTime" "[I") ∈ TT := TT_4 (i := 192) rfl rfl
set_option maxRecDepth 100000 in
theorem kw_913 : (Jvm.Cond.fieldLink "CanBitsModel" (98 : Nat) "CanBitsModel" "plain" "[B") ∈ TT := TT_4 (i := 193) rfl rfl
set_option maxRecDepth 100000 in
theorem kw_914 : (Jvm.Cond.fieldLink "CanBitsModel" (143 : Nat) "CanBitsModel" "plainCount" "I") ∈ TT := TT_4 (i := 194) rfl rfl
set_option maxRecDepth 100000 in
theorem kw_915 : (Jvm.Cond.fieldLink "CanBitsModel" (101 : Nat) "CanBitsModel" "row" "[B") ∈ TT := TT_4 (i := 195) rfl rfl
set_option maxRecDepth 100000 in
theorem kw_916 : (Jvm.Cond.fieldLink "CanBitsModel" (104 : Nat) "CanBitsModel" "stuff" "[Z") ∈ TT := TT_4 (i := 196) rfl rfl
set_option maxRecDepth 100000 in
theorem kw_917 : (Jvm.Cond.fieldLink "CanBitsModel" (156 : Nat) "CanBitsModel" "rowCount" "I") ∈ TT := TT_4 (i := 197) rfl rfl
set_option maxRecDepth 100000 in
theorem kw_918 : (Jvm.Cond.fieldLink "CanBitsModel" (177 : Nat) "CanBitsModel" "arbitration" "I") ∈ TT := TT_4 (i := 198) rfl rfl
set_option maxRecDepth 100000 in
theorem kw_919 : (Jvm.Cond.fieldLink "CanBitsModel" (107 : Nat) "CanBitsModel" "other" "[B") ∈ TT := TT_4 (i := 199) rfl rfl
set_option maxRecDepth 100000 in
theorem kw_920 : (Jvm.Cond.fieldLink "CanBitsModel" (110 : Nat) "CanBitsModel" "checked" "[B") ∈ TT := TT_4 (i := 200) rfl rfl
set_option maxRecDepth 100000 in
theorem kw_921 : (Jvm.Cond.fieldLink "CanBitsModel" (153 : Nat) "CanBitsModel" "checkedCount" "I") ∈ TT := TT_4 (i := 201) rfl rfl
set_option maxRecDepth 100000 in
theorem kw_922 : (Jvm.Cond.fieldLink "CanBitsModel" (206 : Nat) "CanBitsModel" "foundKind" "I") ∈ TT := TT_4 (i := 202) rfl rfl
set_option maxRecDepth 100000 in
theorem kw_923 : (Jvm.Cond.fieldLink "CanBitsModel" (209 : Nat) "CanBitsModel" "foundLength" "I") ∈ TT := TT_4 (i := 203) rfl rfl
set_option maxRecDepth 100000 in
theorem kw_924 : (Jvm.Cond.fieldLink "CanBitsModel" (215 : Nat) "CanBitsModel" "foundIdentifier" "I") ∈ TT := TT_4 (i := 204) rfl rfl
set_option maxRecDepth 100000 in
theorem kw_925 : (Jvm.Cond.fieldLink "CanBitsModel" (193 : Nat) "CanBitsModel" "bodyEnd" "I") ∈ TT := TT_4 (i := 205) rfl rfl
set_option maxRecDepth 100000 in
theorem kw_926 : (Jvm.Cond.fieldLink "CanBitsModel" (196 : Nat) "CanBitsModel" "stuffs" "I") ∈ TT := TT_4 (i := 206) rfl rfl
set_option maxRecDepth 100000 in
theorem kw_1022 : (Jvm.Cond.arrayClass Jvm.ClassFile.FieldType.boolean) ∈ TT := TT_5 (i := 62) rfl rfl
set_option maxRecDepth 100000 in
theorem kw_1023 : (Jvm.Cond.methodLink "CanBitsLaw" (81 : Nat) ({ cls := "CanBitsModel", name := "thrown", desc := "()I" } : Jvm.MethodName)) ∈ TT := TT_5 (i := 63) rfl rfl
set_option maxRecDepth 100000 in
theorem kw_1024 : (Jvm.Cond.instanceMethod ({ cls := "CanBitsModel", name := "thrown", desc := "()I" } : Jvm.MethodName)) ∈ TT := TT_5 (i := 64) rfl rfl
set_option maxRecDepth 100000 in
theorem kw_1025 : (Jvm.Cond.selects "CanBitsModel" ({ cls := "CanBitsModel", name := "thrown", desc := "()I" } : Jvm.MethodName) ({ cls := "CanBitsModel", name := "thrown", desc := "()I" } : Jvm.MethodName)) ∈ TT := TT_5 (i := 65) rfl rfl
set_option maxRecDepth 100000 in
theorem kw_1026 : (Jvm.Cond.code ({ cls := "CanBitsModel", name := "thrown", desc := "()I" } : Jvm.MethodName) prog_10_method_2_code (1 : Nat) (Option.some Jvm.ClassFile.FieldType.int)) ∈ TT := TT_5 (i := 66) rfl rfl
set_option maxRecDepth 100000 in
theorem kw_1027 : (Jvm.Cond.methodLink "CanBitsLaw" (80 : Nat) ({ cls := "CanBitsModel", name := "nodes", desc := "(I)V" } : Jvm.MethodName)) ∈ TT := TT_5 (i := 67) rfl rfl
set_option maxRecDepth 100000 in
theorem kw_1028 : (Jvm.Cond.instanceMethod ({ cls := "CanBitsModel", name := "nodes", desc := "(I)V" } : Jvm.MethodName)) ∈ TT := TT_5 (i := 68) rfl rfl
set_option maxRecDepth 100000 in
theorem kw_1029 : (Jvm.Cond.selects "CanBitsModel" ({ cls := "CanBitsModel", name := "nodes", desc := "(I)V" } : Jvm.MethodName) ({ cls := "CanBitsModel", name := "nodes", desc := "(I)V" } : Jvm.MethodName)) ∈ TT := TT_5 (i := 69) rfl rfl
set_option maxRecDepth 100000 in
theorem kw_1030 : (Jvm.Cond.code ({ cls := "CanBitsModel", name := "nodes", desc := "(I)V" } : Jvm.MethodName) prog_10_method_3_code (3 : Nat) (Option.none : Option Jvm.ClassFile.FieldType)) ∈ TT := TT_5 (i := 70) rfl rfl
set_option maxRecDepth 100000 in
theorem kw_1031 : (Jvm.Cond.methodLink "CanBitsLaw" (88 : Nat) ({ cls := "CanBitsModel", name := "send", desc := "(IIII)I" } : Jvm.MethodName)) ∈ TT := TT_5 (i := 71) rfl rfl
set_option maxRecDepth 100000 in
theorem kw_1032 : (Jvm.Cond.instanceMethod ({ cls := "CanBitsModel", name := "send", desc := "(IIII)I" } : Jvm.MethodName)) ∈ TT := TT_5 (i := 72) rfl rfl
set_option maxRecDepth 100000 in
theorem kw_1033 : (Jvm.Cond.selects "CanBitsModel" ({ cls := "CanBitsModel", name := "send", desc := "(IIII)I" } : Jvm.MethodName) ({ cls := "CanBitsModel", name := "send", desc := "(IIII)I" } : Jvm.MethodName)) ∈ TT := TT_5 (i := 73) rfl rfl
set_option maxRecDepth 100000 in
theorem kw_1034 : (Jvm.Cond.code ({ cls := "CanBitsModel", name := "send", desc := "(IIII)I" } : Jvm.MethodName) prog_10_method_6_code (7 : Nat) (Option.some Jvm.ClassFile.FieldType.int)) ∈ TT := TT_5 (i := 74) rfl rfl
set_option maxRecDepth 100000 in
theorem kw_1035 : (Jvm.Cond.constant "CanBitsModel" (131 : Nat) (536870912 : Int32)) ∈ TT := TT_5 (i := 75) rfl rfl
set_option maxRecDepth 100000 in
theorem kw_1036 : (Jvm.Cond.methodLink "CanBitsModel" (132 : Nat) ({ cls := "CanBitsModel", name := "noNode", desc := "(I)Z" } : Jvm.MethodName)) ∈ TT := TT_5 (i := 76) rfl rfl
set_option maxRecDepth 100000 in
theorem kw_1038 : (Jvm.Cond.instanceMethod ({ cls := "CanBitsModel", name := "noNode", desc := "(I)Z" } : Jvm.MethodName)) ∈ TT := TT_5 (i := 78) rfl rfl
set_option maxRecDepth 100000 in
theorem kw_1039 : (Jvm.Cond.code ({ cls := "CanBitsModel", name := "noNode", desc := "(I)Z" } : Jvm.MethodName) prog_10_method_5_code (2 : Nat) (Option.some Jvm.ClassFile.FieldType.boolean)) ∈ TT := TT_5 (i := 79) rfl rfl
set_option maxRecDepth 100000 in
theorem kw_1040 : (Jvm.Cond.methodLink "CanBitsLaw" (92 : Nat) ({ cls := "CanBitsModel", name := "octet", desc := "(III)V" } : Jvm.MethodName)) ∈ TT := TT_5 (i := 80) rfl rfl
set_option maxRecDepth 100000 in
theorem kw_1041 : (Jvm.Cond.instanceMethod ({ cls := "CanBitsModel", name := "octet", desc := "(III)V" } : Jvm.MethodName)) ∈ TT := TT_5 (i := 81) rfl rfl
set_option maxRecDepth 100000 in
theorem kw_1042 : (Jvm.Cond.selects "CanBitsModel" ({ cls := "CanBitsModel", name := "octet", desc := "(III)V" } : Jvm.MethodName) ({ cls := "CanBitsModel", name := "octet", desc := "(III)V" } : Jvm.MethodName)) ∈ TT := TT_5 (i := 82) rfl rfl
set_option maxRecDepth 100000 in
theorem kw_1043 : (Jvm.Cond.code ({ cls := "CanBitsModel", name := "octet", desc := "(III)V" } : Jvm.MethodName) prog_10_method_8_code (4 : Nat) (Option.none : Option Jvm.ClassFile.FieldType)) ∈ TT := TT_5 (i := 83) rfl rfl
set_option maxRecDepth 100000 in
theorem kw_1044 : (Jvm.Cond.methodLink "CanBitsModel" (136 : Nat) ({ cls := "CanBitsModel", name := "noFrame", desc := "(I)Z" } : Jvm.MethodName)) ∈ TT := TT_5 (i := 84) rfl rfl
set_option maxRecDepth 100000 in
theorem kw_1046 : (Jvm.Cond.instanceMethod ({ cls := "CanBitsModel", name := "noFrame", desc := "(I)Z" } : Jvm.MethodName)) ∈ TT := TT_5 (i := 86) rfl rfl
set_option maxRecDepth 100000 in
theorem kw_1047 : (Jvm.Cond.code ({ cls := "CanBitsModel", name := "noFrame", desc := "(I)Z" } : Jvm.MethodName) prog_10_method_7_code (2 : Nat) (Option.some Jvm.ClassFile.FieldType.boolean)) ∈ TT := TT_5 (i := 87) rfl rfl
set_option maxRecDepth 100000 in
theorem kw_1048 : (Jvm.Cond.methodLink "CanBitsModel" (139 : Nat) ({ cls := "CanBitsModel", name := "octetsOf", desc := "(II)I" } : Jvm.MethodName)) ∈ TT := TT_5 (i := 88) rfl rfl
set_option maxRecDepth 100000 in
theorem kw_1049 : (Jvm.Cond.static ({ cls := "CanBitsModel", name := "octetsOf", desc := "(II)I" } : Jvm.MethodName)) ∈ TT := TT_5 (i := 89) rfl rfl
set_option maxRecDepth 100000 in
theorem kw_1050 : (Jvm.Cond.code ({ cls := "CanBitsModel", name := "octetsOf", desc := "(II)I" } : Jvm.MethodName) prog_10_method_4_code (2 : Nat) (Option.some Jvm.ClassFile.FieldType.int)) ∈ TT := TT_5 (i := 90) rfl rfl
set_option maxRecDepth 100000 in
theorem kw_1051 : (Jvm.Cond.methodLink "CanBitsLaw" (96 : Nat) ({ cls := "CanBitsModel", name := "stuffed", desc := "(I)I" } : Jvm.MethodName)) ∈ TT := TT_5 (i := 91) rfl rfl
set_option maxRecDepth 100000 in
theorem kw_1052 : (Jvm.Cond.instanceMethod ({ cls := "CanBitsModel", name := "stuffed", desc := "(I)I" } : Jvm.MethodName)) ∈ TT := TT_5 (i := 92) rfl rfl
set_option maxRecDepth 100000 in
theorem kw_1053 : (Jvm.Cond.selects "CanBitsModel" ({ cls := "CanBitsModel", name := "stuffed", desc := "(I)I" } : Jvm.MethodName) ({ cls := "CanBitsModel", name := "stuffed", desc := "(I)I" } : Jvm.MethodName)) ∈ TT := TT_5 (i := 93) rfl rfl
set_option maxRecDepth 100000 in
theorem kw_1054 : (Jvm.Cond.code ({ cls := "CanBitsModel", name := "stuffed", desc := "(I)I" } : Jvm.MethodName) prog_10_method_19_code (2 : Nat) (Option.some Jvm.ClassFile.FieldType.int)) ∈ TT := TT_5 (i := 94) rfl rfl
set_option maxRecDepth 100000 in
theorem kw_1055 : (Jvm.Cond.methodLink "CanBitsModel" (190 : Nat) ({ cls := "CanBitsModel", name := "write", desc := "(I)V" } : Jvm.MethodName)) ∈ TT := TT_5 (i := 95) rfl rfl
set_option maxRecDepth 100000 in
theorem kw_1057 : (Jvm.Cond.instanceMethod ({ cls := "CanBitsModel", name := "write", desc := "(I)V" } : Jvm.MethodName)) ∈ TT := TT_5 (i := 97) rfl rfl
set_option maxRecDepth 100000 in
theorem kw_1058 : (Jvm.Cond.code ({ cls := "CanBitsModel", name := "write", desc := "(I)V" } : Jvm.MethodName) prog_10_method_17_code (9 : Nat) (Option.none : Option Jvm.ClassFile.FieldType)) ∈ TT := TT_5 (i := 98) rfl rfl
set_option maxRecDepth 100000 in
theorem kw_1059 : (Jvm.Cond.methodLink "CanBitsModel" (163 : Nat) ({ cls := "CanBitsModel", name := "writePlain", desc := "(I)V" } : Jvm.MethodName)) ∈ TT := TT_5 (i := 99) rfl rfl
set_option maxRecDepth 100000 in
theorem kw_1061 : (Jvm.Cond.instanceMethod ({ cls := "CanBitsModel", name := "writePlain", desc := "(I)V" } : Jvm.MethodName)) ∈ TT := TT_5 (i := 101) rfl rfl
set_option maxRecDepth 100000 in
theorem kw_1062 : (Jvm.Cond.code ({ cls := "CanBitsModel", name := "writePlain", desc := "(I)V" } : Jvm.MethodName) prog_10_method_10_code (6 : Nat) (Option.none : Option Jvm.ClassFile.FieldType)) ∈ TT := TT_5 (i := 102) rfl rfl
set_option maxRecDepth 100000 in
theorem kw_1063 : (Jvm.Cond.methodLink "CanBitsModel" (146 : Nat) ({ cls := "CanBitsModel", name := "bits", desc := "(II)V" } : Jvm.MethodName)) ∈ TT := TT_5 (i := 103) rfl rfl
set_option maxRecDepth 100000 in
theorem kw_1065 : (Jvm.Cond.instanceMethod ({ cls := "CanBitsModel", name := "bits", desc := "(II)V" } : Jvm.MethodName)) ∈ TT := TT_5 (i := 105) rfl rfl
set_option maxRecDepth 100000 in
theorem kw_1066 : (Jvm.Cond.code ({ cls := "CanBitsModel", name := "bits", desc := "(II)V" } : Jvm.MethodName) prog_10_method_9_code (4 : Nat) (Option.none : Option Jvm.ClassFile.FieldType)) ∈ TT := TT_5 (i := 106) rfl rfl
set_option maxRecDepth 100000 in
theorem kw_1067 : (Jvm.Cond.constant "CanBitsModel" (150 : Nat) (262143 : Int32)) ∈ TT := TT_5 (i := 107) rfl rfl
set_option maxRecDepth 100000 in
theorem kw_1068 : (Jvm.Cond.methodLink "CanBitsModel" (167 : Nat) ({ cls := "CanBitsModel", name := "check", desc := "(I)V" } : Jvm.MethodName)) ∈ TT := TT_5 (i := 108) rfl rfl
set_option maxRecDepth 100000 in
theorem kw_1070 : (Jvm.Cond.instanceMethod ({ cls := "CanBitsModel", name := "check", desc := "(I)V" } : Jvm.MethodName)) ∈ TT := TT_5 (i := 110) rfl rfl
set_option maxRecDepth 100000 in
theorem kw_1071 : (Jvm.Cond.code ({ cls := "CanBitsModel", name := "check", desc := "(I)V" } : Jvm.MethodName) prog_10_method_12_code (2 : Nat) (Option.none : Option Jvm.ClassFile.FieldType)) ∈ TT := TT_5 (i := 111) rfl rfl
set_option maxRecDepth 100000 in
theorem kw_1072 : (Jvm.Cond.methodLink "CanBitsModel" (170 : Nat) ({ cls := "CanBitsModel", name := "checkOf", desc := "(I)I" } : Jvm.MethodName)) ∈ TT := TT_5 (i := 112) rfl rfl
set_option maxRecDepth 100000 in
theorem kw_1074 : (Jvm.Cond.instanceMethod ({ cls := "CanBitsModel", name := "checkOf", desc := "(I)I" } : Jvm.MethodName)) ∈ TT := TT_5 (i := 114) rfl rfl
set_option maxRecDepth 100000 in
theorem kw_1075 : (Jvm.Cond.code ({ cls := "CanBitsModel", name := "checkOf", desc := "(I)I" } : Jvm.MethodName) prog_10_method_11_code (7 : Nat) (Option.some Jvm.ClassFile.FieldType.int)) ∈ TT := TT_5 (i := 115) rfl rfl
set_option maxRecDepth 100000 in
theorem kw_1076 : (Jvm.Cond.constant "CanBitsModel" (151 : Nat) (92251 : Int32)) ∈ TT := TT_5 (i := 116) rfl rfl
set_option maxRecDepth 100000 in
theorem kw_1077 : (Jvm.Cond.constant "CanBitsModel" (152 : Nat) (1058969 : Int32)) ∈ TT := TT_5 (i := 117) rfl rfl
set_option maxRecDepth 100000 in
theorem kw_1078 : (Jvm.Cond.methodLink "CanBitsModel" (173 : Nat) ({ cls := "CanBitsModel", name := "put", desc := "(IZ)V" } : Jvm.MethodName)) ∈ TT := TT_5 (i := 118) rfl rfl
set_option maxRecDepth 100000 in
theorem kw_1080 : (Jvm.Cond.instanceMethod ({ cls := "CanBitsModel", name := "put", desc := "(IZ)V" } : Jvm.MethodName)) ∈ TT := TT_5 (i := 120) rfl rfl
set_option maxRecDepth 100000 in
theorem kw_1081 : (Jvm.Cond.code ({ cls := "CanBitsModel", name := "put", desc := "(IZ)V" } : Jvm.MethodName) prog_10_method_13_code (3 : Nat) (Option.none : Option Jvm.ClassFile.FieldType)) ∈ TT := TT_5 (i := 121) rfl rfl
set_option maxRecDepth 100000 in
theorem kw_1082 : (Jvm.Cond.methodLink "CanBitsModel" (180 : Nat) ({ cls := "CanBitsModel", name := "five", desc := "()Z" } : Jvm.MethodName)) ∈ TT := TT_5 (i := 122) rfl rfl
set_option maxRecDepth 100000 in
theorem kw_1084 : (Jvm.Cond.instanceMethod ({ cls := "CanBitsModel", name := "five", desc := "()Z" } : Jvm.MethodName)) ∈ TT := TT_5 (i := 124) rfl rfl
set_option maxRecDepth 100000 in
theorem kw_1085 : (Jvm.Cond.code ({ cls := "CanBitsModel", name := "five", desc := "()Z" } : Jvm.MethodName) prog_10_method_14_code (3 : Nat) (Option.some Jvm.ClassFile.FieldType.boolean)) ∈ TT := TT_5 (i := 125) rfl rfl
set_option maxRecDepth 100000 in
theorem kw_1086 : (Jvm.Cond.methodLink "CanBitsModel" (184 : Nat) ({ cls := "CanBitsModel", name := "countOf", desc := "(I)I" } : Jvm.MethodName)) ∈ TT := TT_5 (i := 126) rfl rfl
set_option maxRecDepth 100000 in
theorem kw_1087 : (Jvm.Cond.static ({ cls := "CanBitsModel", name := "countOf", desc := "(I)I" } : Jvm.MethodName)) ∈ TT := TT_5 (i := 127) rfl rfl
set_option maxRecDepth 100000 in
theorem kw_1088 : (Jvm.Cond.code ({ cls := "CanBitsModel", name := "countOf", desc := "(I)I" } : Jvm.MethodName) prog_10_method_16_code (3 : Nat) (Option.some Jvm.ClassFile.FieldType.int)) ∈ TT := TT_5 (i := 128) rfl rfl
set_option maxRecDepth 100000 in
theorem kw_1089 : (Jvm.Cond.methodLink "CanBitsModel" (159 : Nat) ({ cls := "CanBitsModel", name := "parity", desc := "(I)I" } : Jvm.MethodName)) ∈ TT := TT_5 (i := 129) rfl rfl
set_option maxRecDepth 100000 in
theorem kw_1090 : (Jvm.Cond.static ({ cls := "CanBitsModel", name := "parity", desc := "(I)I" } : Jvm.MethodName)) ∈ TT := TT_5 (i := 130) rfl rfl
set_option maxRecDepth 100000 in
theorem kw_1091 : (Jvm.Cond.code ({ cls := "CanBitsModel", name := "parity", desc := "(I)I" } : Jvm.MethodName) prog_10_method_15_code (1 : Nat) (Option.some Jvm.ClassFile.FieldType.int)) ∈ TT := TT_5 (i := 131) rfl rfl
set_option maxRecDepth 100000 in
theorem kw_1092 : (Jvm.Cond.methodLink "CanBitsModel" (187 : Nat) ({ cls := "CanBitsModel", name := "writeTail", desc := "(II)V" } : Jvm.MethodName)) ∈ TT := TT_5 (i := 132) rfl rfl
set_option maxRecDepth 100000 in
theorem kw_1094 : (Jvm.Cond.instanceMethod ({ cls := "CanBitsModel", name := "writeTail", desc := "(II)V" } : Jvm.MethodName)) ∈ TT := TT_5 (i := 134) rfl rfl
set_option maxRecDepth 100000 in
theorem kw_1095 : (Jvm.Cond.code ({ cls := "CanBitsModel", name := "writeTail", desc := "(II)V" } : Jvm.MethodName) prog_10_method_18_code (5 : Nat) (Option.none : Option Jvm.ClassFile.FieldType)) ∈ TT := TT_5 (i := 135) rfl rfl
set_option maxRecDepth 100000 in
theorem kw_1096 : (Jvm.Cond.methodLink "CanBitsLaw" (123 : Nat) ({ cls := "CanBitsModel", name := "waiting", desc := "(I)I" } : Jvm.MethodName)) ∈ TT := TT_5 (i := 136) rfl rfl
set_option maxRecDepth 100000 in
theorem kw_1097 : (Jvm.Cond.instanceMethod ({ cls := "CanBitsModel", name := "waiting", desc := "(I)I" } : Jvm.MethodName)) ∈ TT := TT_5 (i := 137) rfl rfl
set_option maxRecDepth 100000 in
theorem kw_1098 : (Jvm.Cond.selects "CanBitsModel" ({ cls := "CanBitsModel", name := "waiting", desc := "(I)I" } : Jvm.MethodName) ({ cls := "CanBitsModel", name := "waiting", desc := "(I)I" } : Jvm.MethodName)) ∈ TT := TT_5 (i := 138) rfl rfl
set_option maxRecDepth 100000 in
theorem kw_1099 : (Jvm.Cond.code ({ cls := "CanBitsModel", name := "waiting", desc := "(I)I" } : Jvm.MethodName) prog_10_method_21_code (4 : Nat) (Option.some Jvm.ClassFile.FieldType.int)) ∈ TT := TT_5 (i := 139) rfl rfl
set_option maxRecDepth 100000 in
theorem kw_1100 : (Jvm.Cond.methodLink "CanBitsLaw" (99 : Nat) ({ cls := "CanBitsModel", name := "filter", desc := "(III)V" } : Jvm.MethodName)) ∈ TT := TT_5 (i := 140) rfl rfl
set_option maxRecDepth 100000 in
theorem kw_1101 : (Jvm.Cond.instanceMethod ({ cls := "CanBitsModel", name := "filter", desc := "(III)V" } : Jvm.MethodName)) ∈ TT := TT_5 (i := 141) rfl rfl
set_option maxRecDepth 100000 in
theorem kw_1102 : (Jvm.Cond.selects "CanBitsModel" ({ cls := "CanBitsModel", name := "filter", desc := "(III)V" } : Jvm.MethodName) ({ cls := "CanBitsModel", name := "filter", desc := "(III)V" } : Jvm.MethodName)) ∈ TT := TT_5 (i := 142) rfl rfl
set_option maxRecDepth 100000 in
theorem kw_1103 : (Jvm.Cond.code ({ cls := "CanBitsModel", name := "filter", desc := "(III)V" } : Jvm.MethodName) prog_10_method_22_code (4 : Nat) (Option.none : Option Jvm.ClassFile.FieldType)) ∈ TT := TT_5 (i := 143) rfl rfl
set_option maxRecDepth 100000 in
theorem kw_1104 : (Jvm.Cond.methodLink "CanBitsLaw" (103 : Nat) ({ cls := "CanBitsModel", name := "flip", desc := "(II)V" } : Jvm.MethodName)) ∈ TT := TT_5 (i := 144) rfl rfl
set_option maxRecDepth 100000 in
theorem kw_1105 : (Jvm.Cond.instanceMethod ({ cls := "CanBitsModel", name := "flip", desc := "(II)V" } : Jvm.MethodName)) ∈ TT := TT_5 (i := 145) rfl rfl
set_option maxRecDepth 100000 in
theorem kw_1106 : (Jvm.Cond.selects "CanBitsModel" ({ cls := "CanBitsModel", name := "flip", desc := "(II)V" } : Jvm.MethodName) ({ cls := "CanBitsModel", name := "flip", desc := "(II)V" } : Jvm.MethodName)) ∈ TT := TT_5 (i := 146) rfl rfl
set_option maxRecDepth 100000 in
theorem kw_1107 : (Jvm.Cond.code ({ cls := "CanBitsModel", name := "flip", desc := "(II)V" } : Jvm.MethodName) prog_10_method_23_code (3 : Nat) (Option.none : Option Jvm.ClassFile.FieldType)) ∈ TT := TT_5 (i := 147) rfl rfl
set_option maxRecDepth 100000 in
theorem kw_1108 : (Jvm.Cond.methodLink "CanBitsLaw" (106 : Nat) ({ cls := "CanBitsModel", name := "run", desc := "(I)I" } : Jvm.MethodName)) ∈ TT := TT_5 (i := 148) rfl rfl
set_option maxRecDepth 100000 in
theorem kw_1109 : (Jvm.Cond.instanceMethod ({ cls := "CanBitsModel", name := "run", desc := "(I)I" } : Jvm.MethodName)) ∈ TT := TT_5 (i := 149) rfl rfl
set_option maxRecDepth 100000 in
theorem kw_1110 : (Jvm.Cond.selects "CanBitsModel" ({ cls := "CanBitsModel", name := "run", desc := "(I)I" } : Jvm.MethodName) ({ cls := "CanBitsModel", name := "run", desc := "(I)I" } : Jvm.MethodName)) ∈ TT := TT_5 (i := 150) rfl rfl
set_option maxRecDepth 100000 in
theorem kw_1111 : (Jvm.Cond.code ({ cls := "CanBitsModel", name := "run", desc := "(I)I" } : Jvm.MethodName) prog_10_method_41_code (6 : Nat) (Option.some Jvm.ClassFile.FieldType.int)) ∈ TT := TT_5 (i := 151) rfl rfl
set_option maxRecDepth 100000 in
theorem kw_1112 : (Jvm.Cond.methodLink "CanBitsModel" (260 : Nat) ({ cls := "CanBitsModel", name := "puts", desc := "(I)I" } : Jvm.MethodName)) ∈ TT := TT_5 (i := 152) rfl rfl
set_option maxRecDepth 100000 in
theorem kw_1114 : (Jvm.Cond.instanceMethod ({ cls := "CanBitsModel", name := "puts", desc := "(I)I" } : Jvm.MethodName)) ∈ TT := TT_5 (i := 154) rfl rfl
set_option maxRecDepth 100000 in
theorem kw_1115 : (Jvm.Cond.code ({ cls := "CanBitsModel", name := "puts", desc := "(I)I" } : Jvm.MethodName) prog_10_method_34_code (2 : Nat) (Option.some Jvm.ClassFile.FieldType.int)) ∈ TT := TT_5 (i := 155) rfl rfl
set_option maxRecDepth 100000 in
theorem kw_1116 : (Jvm.Cond.methodLink "CanBitsModel" (232 : Nat) ({ cls := "CanBitsModel", name := "first", desc := "(I)I" } : Jvm.MethodName)) ∈ TT := TT_5 (i := 156) rfl rfl
set_option maxRecDepth 100000 in
theorem kw_1118 : (Jvm.Cond.instanceMethod ({ cls := "CanBitsModel", name := "first", desc := "(I)I" } : Jvm.MethodName)) ∈ TT := TT_5 (i := 158) rfl rfl
set_option maxRecDepth 100000 in
theorem kw_1119 : (Jvm.Cond.code ({ cls := "CanBitsModel", name := "first", desc := "(I)I" } : Jvm.MethodName) prog_10_method_20_code (8 : Nat) (Option.some Jvm.ClassFile.FieldType.int)) ∈ TT := TT_5 (i := 159) rfl rfl
set_option maxRecDepth 100000 in
theorem kw_1120 : (Jvm.Cond.methodLink "CanBitsModel" (235 : Nat) ({ cls := "CanBitsModel", name := "answers", desc := "(I)Z" } : Jvm.MethodName)) ∈ TT := TT_5 (i := 160) rfl rfl
set_option maxRecDepth 100000 in
theorem kw_1122 : (Jvm.Cond.instanceMethod ({ cls := "CanBitsModel", name := "answers", desc := "(I)Z" } : Jvm.MethodName)) ∈ TT := TT_5 (i := 162) rfl rfl
set_option maxRecDepth 100000 in
theorem kw_1123 : (Jvm.Cond.code ({ cls := "CanBitsModel", name := "answers", desc := "(I)Z" } : Jvm.MethodName) prog_10_method_32_code (3 : Nat) (Option.some Jvm.ClassFile.FieldType.boolean)) ∈ TT := TT_5 (i := 163) rfl rfl
set_option maxRecDepth 100000 in
theorem kw_1124 : (Jvm.Cond.methodLink "CanBitsModel" (226 : Nat) ({ cls := "CanBitsModel", name := "body", desc := "(I)I" } : Jvm.MethodName)) ∈ TT := TT_5 (i := 164) rfl rfl
set_option maxRecDepth 100000 in
theorem kw_1126 : (Jvm.Cond.instanceMethod ({ cls := "CanBitsModel", name := "body", desc := "(I)I" } : Jvm.MethodName)) ∈ TT := TT_5 (i := 166) rfl rfl
set_option maxRecDepth 100000 in
theorem kw_1127 : (Jvm.Cond.code ({ cls := "CanBitsModel", name := "body", desc := "(I)I" } : Jvm.MethodName) prog_10_method_25_code (13 : Nat) (Option.some Jvm.ClassFile.FieldType.int)) ∈ TT := TT_5 (i := 167) rfl rfl
set_option maxRecDepth 100000 in
theorem kw_1128 : (Jvm.Cond.methodLink "CanBitsModel" (199 : Nat) ({ cls := "CanBitsModel", name := "bitAt", desc := "(II)I" } : Jvm.MethodName)) ∈ TT := TT_5 (i := 168) rfl rfl
set_option maxRecDepth 100000 in
theorem kw_1130 : (Jvm.Cond.instanceMethod ({ cls := "CanBitsModel", name := "bitAt", desc := "(II)I" } : Jvm.MethodName)) ∈ TT := TT_5 (i := 170) rfl rfl
set_option maxRecDepth 100000 in
theorem kw_1131 : (Jvm.Cond.code ({ cls := "CanBitsModel", name := "bitAt", desc := "(II)I" } : Jvm.MethodName) prog_10_method_24_code (3 : Nat) (Option.some Jvm.ClassFile.FieldType.int)) ∈ TT := TT_5 (i := 171) rfl rfl
set_option maxRecDepth 100000 in
theorem kw_1132 : (Jvm.Cond.methodLink "CanBitsModel" (202 : Nat) ({ cls := "CanBitsModel", name := "find", desc := "(ZZI)V" } : Jvm.MethodName)) ∈ TT := TT_5 (i := 172) rfl rfl
set_option maxRecDepth 100000 in
theorem kw_1134 : (Jvm.Cond.instanceMethod ({ cls := "CanBitsModel", name := "find", desc := "(ZZI)V" } : Jvm.MethodName)) ∈ TT := TT_5 (i := 174) rfl rfl
set_option maxRecDepth 100000 in
theorem kw_1135 : (Jvm.Cond.code ({ cls := "CanBitsModel", name := "find", desc := "(ZZI)V" } : Jvm.MethodName) prog_10_method_27_code (5 : Nat) (Option.none : Option Jvm.ClassFile.FieldType)) ∈ TT := TT_5 (i := 175) rfl rfl
set_option maxRecDepth 100000 in
theorem kw_1136 : (Jvm.Cond.methodLink "CanBitsModel" (212 : Nat) ({ cls := "CanBitsModel", name := "number", desc := "(II)I" } : Jvm.MethodName)) ∈ TT := TT_5 (i := 176) rfl rfl
set_option maxRecDepth 100000 in
theorem kw_1138 : (Jvm.Cond.instanceMethod ({ cls := "CanBitsModel", name := "number", desc := "(II)I" } : Jvm.MethodName)) ∈ TT := TT_5 (i := 178) rfl rfl
set_option maxRecDepth 100000 in
theorem kw_1139 : (Jvm.Cond.code ({ cls := "CanBitsModel", name := "number", desc := "(II)I" } : Jvm.MethodName) prog_10_method_26_code (5 : Nat) (Option.some Jvm.ClassFile.FieldType.int)) ∈ TT := TT_5 (i := 179) rfl rfl
set_option maxRecDepth 100000 in
theorem kw_1140 : (Jvm.Cond.constant "CanBitsModel" (218 : Nat) (262144 : Int32)) ∈ TT := TT_5 (i := 180) rfl rfl
set_option maxRecDepth 100000 in
theorem kw_1141 : (Jvm.Cond.methodLink "CanBitsModel" (223 : Nat) ({ cls := "CanBitsModel", name := "tail", desc := "()I" } : Jvm.MethodName)) ∈ TT := TT_5 (i := 181) rfl rfl
set_option maxRecDepth 100000 in
theorem kw_1143 : (Jvm.Cond.instanceMethod ({ cls := "CanBitsModel", name := "tail", desc := "()I" } : Jvm.MethodName)) ∈ TT := TT_5 (i := 183) rfl rfl
set_option maxRecDepth 100000 in
theorem kw_1144 : (Jvm.Cond.code ({ cls := "CanBitsModel", name := "tail", desc := "()I" } : Jvm.MethodName) prog_10_method_28_code (2 : Nat) (Option.some Jvm.ClassFile.FieldType.int)) ∈ TT := TT_5 (i := 184) rfl rfl
set_option maxRecDepth 100000 in
theorem kw_1145 : (Jvm.Cond.methodLink "CanBitsModel" (219 : Nat) ({ cls := "CanBitsModel", name := "width", desc := "()I" } : Jvm.MethodName)) ∈ TT := TT_5 (i := 185) rfl rfl
set_option maxRecDepth 100000 in
theorem kw_1147 : (Jvm.Cond.instanceMethod ({ cls := "CanBitsModel", name := "width", desc := "()I" } : Jvm.MethodName)) ∈ TT := TT_5 (i := 187) rfl rfl
set_option maxRecDepth 100000 in
theorem kw_1148 : (Jvm.Cond.code ({ cls := "CanBitsModel", name := "width", desc := "()I" } : Jvm.MethodName) prog_10_method_29_code (1 : Nat) (Option.some Jvm.ClassFile.FieldType.int)) ∈ TT := TT_5 (i := 188) rfl rfl
set_option maxRecDepth 100000 in
theorem kw_1149 : (Jvm.Cond.methodLink "CanBitsModel" (229 : Nat) ({ cls := "CanBitsModel", name := "right", desc := "(I)Z" } : Jvm.MethodName)) ∈ TT := TT_5 (i := 189) rfl rfl
set_option maxRecDepth 100000 in
theorem kw_1151 : (Jvm.Cond.instanceMethod ({ cls := "CanBitsModel", name := "right", desc := "(I)Z" } : Jvm.MethodName)) ∈ TT := TT_5 (i := 191) rfl rfl
set_option maxRecDepth 100000 in
theorem kw_1152 : (Jvm.Cond.code ({ cls := "CanBitsModel", name := "right", desc := "(I)Z" } : Jvm.MethodName) prog_10_method_30_code (7 : Nat) (Option.some Jvm.ClassFile.FieldType.boolean)) ∈ TT := TT_5 (i := 192) rfl rfl
set_option maxRecDepth 100000 in
theorem kw_1153 : (Jvm.Cond.methodLink "CanBitsModel" (263 : Nat) ({ cls := "CanBitsModel", name := "sees", desc := "(II)V" } : Jvm.MethodName)) ∈ TT := TT_5 (i := 193) rfl rfl
set_option maxRecDepth 100000 in
theorem kw_1155 : (Jvm.Cond.instanceMethod ({ cls := "CanBitsModel", name := "sees", desc := "(II)V" } : Jvm.MethodName)) ∈ TT := TT_5 (i := 195) rfl rfl
set_option maxRecDepth 100000 in
theorem kw_1156 : (Jvm.Cond.code ({ cls := "CanBitsModel", name := "sees", desc := "(II)V" } : Jvm.MethodName) prog_10_method_38_code (4 : Nat) (Option.none : Option Jvm.ClassFile.FieldType)) ∈ TT := TT_5 (i := 196) rfl rfl
set_option maxRecDepth 100000 in
theorem kw_1157 : (Jvm.Cond.methodLink "CanBitsModel" (238 : Nat) ({ cls := "CanBitsModel", name := "sent", desc := "(II)V" } : Jvm.MethodName)) ∈ TT := TT_5 (i := 197) rfl rfl
set_option maxRecDepth 100000 in
theorem kw_1159 : (Jvm.Cond.instanceMethod ({ cls := "CanBitsModel", name := "sent", desc := "(II)V" } : Jvm.MethodName)) ∈ TT := TT_5 (i := 199) rfl rfl
set_option maxRecDepth 100000 in
theorem kw_1160 : (Jvm.Cond.code ({ cls := "CanBitsModel", name := "sent", desc := "(II)V" } : Jvm.MethodName) prog_10_method_40_code (7 : Nat) (Option.none : Option Jvm.ClassFile.FieldType)) ∈ TT := TT_5 (i := 200) rfl rfl
set_option maxRecDepth 100000 in
theorem kw_1161 : (Jvm.Cond.methodLink "CanBitsModel" (241 : Nat) ({ cls := "CanBitsModel", name := "see", desc := "(II)V" } : Jvm.MethodName)) ∈ TT := TT_5 (i := 201) rfl rfl
set_option maxRecDepth 100000 in
theorem kw_1163 : (Jvm.Cond.instanceMethod ({ cls := "CanBitsModel", name := "see", desc := "(II)V" } : Jvm.MethodName)) ∈ TT := TT_5 (i := 203) rfl rfl
set_option maxRecDepth 100000 in
theorem kw_1164 : (Jvm.Cond.code ({ cls := "CanBitsModel", name := "see", desc := "(II)V" } : Jvm.MethodName) prog_10_method_35_code (3 : Nat) (Option.none : Option Jvm.ClassFile.FieldType)) ∈ TT := TT_5 (i := 204) rfl rfl
set_option maxRecDepth 100000 in
theorem kw_1165 : (Jvm.Cond.methodLink "CanBitsModel" (254 : Nat) ({ cls := "CanBitsModel", name := "wrong", desc := "(II)V" } : Jvm.MethodName)) ∈ TT := TT_5 (i := 205) rfl rfl
set_option maxRecDepth 100000 in
theorem kw_1167 : (Jvm.Cond.instanceMethod ({ cls := "CanBitsModel", name := "wrong", desc := "(II)V" } : Jvm.MethodName)) ∈ TT := TT_5 (i := 207) rfl rfl
set_option maxRecDepth 100000 in
theorem kw_1168 : (Jvm.Cond.code ({ cls := "CanBitsModel", name := "wrong", desc := "(II)V" } : Jvm.MethodName) prog_10_method_36_code (3 : Nat) (Option.none : Option Jvm.ClassFile.FieldType)) ∈ TT := TT_5 (i := 208) rfl rfl
set_option maxRecDepth 100000 in
theorem kw_1169 : (Jvm.Cond.methodLink "CanBitsModel" (250 : Nat) ({ cls := "CanBitsModel", name := "go", desc := "(III)V" } : Jvm.MethodName)) ∈ TT := TT_5 (i := 209) rfl rfl
set_option maxRecDepth 100000 in
theorem kw_1171 : (Jvm.Cond.instanceMethod ({ cls := "CanBitsModel", name := "go", desc := "(III)V" } : Jvm.MethodName)) ∈ TT := TT_5 (i := 211) rfl rfl
set_option maxRecDepth 100000 in
theorem kw_1172 : (Jvm.Cond.code ({ cls := "CanBitsModel", name := "go", desc := "(III)V" } : Jvm.MethodName) prog_10_method_37_code (4 : Nat) (Option.none : Option Jvm.ClassFile.FieldType)) ∈ TT := TT_5 (i := 212) rfl rfl
set_option maxRecDepth 100000 in
theorem kw_1173 : (Jvm.Cond.methodLink "CanBitsModel" (244 : Nat) ({ cls := "CanBitsModel", name := "read", desc := "(I)I" } : Jvm.MethodName)) ∈ TT := TT_5 (i := 213) rfl rfl
set_option maxRecDepth 100000 in
theorem kw_1175 : (Jvm.Cond.instanceMethod ({ cls := "CanBitsModel", name := "read", desc := "(I)I" } : Jvm.MethodName)) ∈ TT := TT_5 (i := 215) rfl rfl
set_option maxRecDepth 100000 in
theorem kw_1176 : (Jvm.Cond.code ({ cls := "CanBitsModel", name := "read", desc := "(I)I" } : Jvm.MethodName) prog_10_method_31_code (8 : Nat) (Option.some Jvm.ClassFile.FieldType.int)) ∈ TT := TT_5 (i := 216) rfl rfl
set_option maxRecDepth 100000 in
theorem kw_1177 : (Jvm.Cond.methodLink "CanBitsModel" (247 : Nat) ({ cls := "CanBitsModel", name := "take", desc := "(I)V" } : Jvm.MethodName)) ∈ TT := TT_5 (i := 217) rfl rfl
set_option maxRecDepth 100000 in
theorem kw_1179 : (Jvm.Cond.instanceMethod ({ cls := "CanBitsModel", name := "take", desc := "(I)V" } : Jvm.MethodName)) ∈ TT := TT_5 (i := 219) rfl rfl
set_option maxRecDepth 100000 in
theorem kw_1180 : (Jvm.Cond.code ({ cls := "CanBitsModel", name := "take", desc := "(I)V" } : Jvm.MethodName) prog_10_method_33_code (6 : Nat) (Option.none : Option Jvm.ClassFile.FieldType)) ∈ TT := TT_5 (i := 220) rfl rfl
set_option maxRecDepth 100000 in
theorem kw_1181 : (Jvm.Cond.methodLink "CanBitsModel" (257 : Nat) ({ cls := "CanBitsModel", name := "pauses", desc := "(II)V" } : Jvm.MethodName)) ∈ TT := TT_5 (i := 221) rfl rfl
set_option maxRecDepth 100000 in
theorem kw_1183 : (Jvm.Cond.instanceMethod ({ cls := "CanBitsModel", name := "pauses", desc := "(II)V" } : Jvm.MethodName)) ∈ TT := TT_5 (i := 223) rfl rfl
set_option maxRecDepth 100000 in
theorem kw_1184 : (Jvm.Cond.code ({ cls := "CanBitsModel", name := "pauses", desc := "(II)V" } : Jvm.MethodName) prog_10_method_39_code (3 : Nat) (Option.none : Option Jvm.ClassFile.FieldType)) ∈ TT := TT_5 (i := 224) rfl rfl
set_option maxRecDepth 100000 in
theorem kw_1185 : (Jvm.Cond.methodLink "CanBitsLaw" (110 : Nat) ({ cls := "CanBitsModel", name := "time", desc := "()I" } : Jvm.MethodName)) ∈ TT := TT_5 (i := 225) rfl rfl
set_option maxRecDepth 100000 in
theorem kw_1186 : (Jvm.Cond.instanceMethod ({ cls := "CanBitsModel", name := "time", desc := "()I" } : Jvm.MethodName)) ∈ TT := TT_5 (i := 226) rfl rfl
set_option maxRecDepth 100000 in
theorem kw_1187 : (Jvm.Cond.selects "CanBitsModel" ({ cls := "CanBitsModel", name := "time", desc := "()I" } : Jvm.MethodName) ({ cls := "CanBitsModel", name := "time", desc := "()I" } : Jvm.MethodName)) ∈ TT := TT_5 (i := 227) rfl rfl
set_option maxRecDepth 100000 in
theorem kw_1188 : (Jvm.Cond.code ({ cls := "CanBitsModel", name := "time", desc := "()I" } : Jvm.MethodName) prog_10_method_42_code (1 : Nat) (Option.some Jvm.ClassFile.FieldType.int)) ∈ TT := TT_5 (i := 228) rfl rfl
set_option maxRecDepth 100000 in
theorem kw_1189 : (Jvm.Cond.methodLink "CanBitsLaw" (113 : Nat) ({ cls := "CanBitsModel", name := "bit", desc := "(I)I" } : Jvm.MethodName)) ∈ TT := TT_5 (i := 229) rfl rfl
set_option maxRecDepth 100000 in
theorem kw_1190 : (Jvm.Cond.instanceMethod ({ cls := "CanBitsModel", name := "bit", desc := "(I)I" } : Jvm.MethodName)) ∈ TT := TT_5 (i := 230) rfl rfl
set_option maxRecDepth 100000 in
theorem kw_1191 : (Jvm.Cond.selects "CanBitsModel" ({ cls := "CanBitsModel", name := "bit", desc := "(I)I" } : Jvm.MethodName) ({ cls := "CanBitsModel", name := "bit", desc := "(I)I" } : Jvm.MethodName)) ∈ TT := TT_5 (i := 231) rfl rfl
set_option maxRecDepth 100000 in
theorem kw_1192 : (Jvm.Cond.code ({ cls := "CanBitsModel", name := "bit", desc := "(I)I" } : Jvm.MethodName) prog_10_method_43_code (2 : Nat) (Option.some Jvm.ClassFile.FieldType.int)) ∈ TT := TT_5 (i := 232) rfl rfl
set_option maxRecDepth 100000 in
theorem kw_1193 : (Jvm.Cond.methodLink "CanBitsLaw" (117 : Nat) ({ cls := "CanBitsModel", name := "check", desc := "(III)I" } : Jvm.MethodName)) ∈ TT := TT_5 (i := 233) rfl rfl
set_option maxRecDepth 100000 in
theorem kw_1194 : (Jvm.Cond.instanceMethod ({ cls := "CanBitsModel", name := "check", desc := "(III)I" } : Jvm.MethodName)) ∈ TT := TT_5 (i := 234) rfl rfl
set_option maxRecDepth 100000 in
theorem kw_1195 : (Jvm.Cond.selects "CanBitsModel" ({ cls := "CanBitsModel", name := "check", desc := "(III)I" } : Jvm.MethodName) ({ cls := "CanBitsModel", name := "check", desc := "(III)I" } : Jvm.MethodName)) ∈ TT := TT_5 (i := 235) rfl rfl
set_option maxRecDepth 100000 in
theorem kw_1196 : (Jvm.Cond.code ({ cls := "CanBitsModel", name := "check", desc := "(III)I" } : Jvm.MethodName) prog_10_method_44_code (9 : Nat) (Option.some Jvm.ClassFile.FieldType.int)) ∈ TT := TT_5 (i := 236) rfl rfl
set_option maxRecDepth 100000 in
theorem kw_1197 : (Jvm.Cond.methodLink "CanBitsLaw" (120 : Nat) ({ cls := "CanBitsModel", name := "state", desc := "(I)I" } : Jvm.MethodName)) ∈ TT := TT_5 (i := 237) rfl rfl
set_option maxRecDepth 100000 in
theorem kw_1198 : (Jvm.Cond.instanceMethod ({ cls := "CanBitsModel", name := "state", desc := "(I)I" } : Jvm.MethodName)) ∈ TT := TT_5 (i := 238) rfl rfl
set_option maxRecDepth 100000 in
theorem kw_1199 : (Jvm.Cond.selects "CanBitsModel" ({ cls := "CanBitsModel", name := "state", desc := "(I)I" } : Jvm.MethodName) ({ cls := "CanBitsModel", name := "state", desc := "(I)I" } : Jvm.MethodName)) ∈ TT := TT_5 (i := 239) rfl rfl
set_option maxRecDepth 100000 in
theorem kw_1200 : (Jvm.Cond.code ({ cls := "CanBitsModel", name := "state", desc := "(I)I" } : Jvm.MethodName) prog_10_method_45_code (2 : Nat) (Option.some Jvm.ClassFile.FieldType.int)) ∈ TT := TT_6 (i := 0) rfl rfl
set_option maxRecDepth 100000 in
theorem kw_1201 : (Jvm.Cond.methodLink "CanBitsLaw" (127 : Nat) ({ cls := "CanBitsModel", name := "done", desc := "(II)I" } : Jvm.MethodName)) ∈ TT := TT_6 (i := 1) rfl rfl
set_option maxRecDepth 100000 in
theorem kw_1202 : (Jvm.Cond.instanceMethod ({ cls := "CanBitsModel", name := "done", desc := "(II)I" } : Jvm.MethodName)) ∈ TT := TT_6 (i := 2) rfl rfl
set_option maxRecDepth 100000 in
theorem kw_1203 : (Jvm.Cond.selects "CanBitsModel" ({ cls := "CanBitsModel", name := "done", desc := "(II)I" } : Jvm.MethodName) ({ cls := "CanBitsModel", name := "done", desc := "(II)I" } : Jvm.MethodName)) ∈ TT := TT_6 (i := 3) rfl rfl
set_option maxRecDepth 100000 in
theorem kw_1204 : (Jvm.Cond.code ({ cls := "CanBitsModel", name := "done", desc := "(II)I" } : Jvm.MethodName) prog_10_method_46_code (3 : Nat) (Option.some Jvm.ClassFile.FieldType.int)) ∈ TT := TT_6 (i := 4) rfl rfl
set_option maxRecDepth 100000 in
theorem kw_1205 : (Jvm.Cond.methodLink "CanBitsLaw" (130 : Nat) ({ cls := "CanBitsModel", name := "taken", desc := "(III)I" } : Jvm.MethodName)) ∈ TT := TT_6 (i := 5) rfl rfl
set_option maxRecDepth 100000 in
theorem kw_1206 : (Jvm.Cond.instanceMethod ({ cls := "CanBitsModel", name := "taken", desc := "(III)I" } : Jvm.MethodName)) ∈ TT := TT_6 (i := 6) rfl rfl
set_option maxRecDepth 100000 in
theorem kw_1207 : (Jvm.Cond.selects "CanBitsModel" ({ cls := "CanBitsModel", name := "taken", desc := "(III)I" } : Jvm.MethodName) ({ cls := "CanBitsModel", name := "taken", desc := "(III)I" } : Jvm.MethodName)) ∈ TT := TT_6 (i := 7) rfl rfl
set_option maxRecDepth 100000 in
theorem kw_1208 : (Jvm.Cond.code ({ cls := "CanBitsModel", name := "taken", desc := "(III)I" } : Jvm.MethodName) prog_10_method_48_code (6 : Nat) (Option.some Jvm.ClassFile.FieldType.int)) ∈ TT := TT_6 (i := 8) rfl rfl
set_option maxRecDepth 100000 in
theorem kw_1209 : (Jvm.Cond.methodLink "CanBitsModel" (266 : Nat) ({ cls := "CanBitsModel", name := "took", desc := "(II)I" } : Jvm.MethodName)) ∈ TT := TT_6 (i := 9) rfl rfl
set_option maxRecDepth 100000 in
theorem kw_1211 : (Jvm.Cond.instanceMethod ({ cls := "CanBitsModel", name := "took", desc := "(II)I" } : Jvm.MethodName)) ∈ TT := TT_6 (i := 11) rfl rfl
set_option maxRecDepth 100000 in
theorem kw_1212 : (Jvm.Cond.code ({ cls := "CanBitsModel", name := "took", desc := "(II)I" } : Jvm.MethodName) prog_10_method_47_code (5 : Nat) (Option.some Jvm.ClassFile.FieldType.int)) ∈ TT := TT_6 (i := 12) rfl rfl
set_option maxRecDepth 100000 in
theorem kw_1213 : (Jvm.Cond.methodLink "CanBitsLaw" (133 : Nat) ({ cls := "CanBitsModel", name := "takenOctet", desc := "(III)I" } : Jvm.MethodName)) ∈ TT := TT_6 (i := 13) rfl rfl
set_option maxRecDepth 100000 in
theorem kw_1214 : (Jvm.Cond.instanceMethod ({ cls := "CanBitsModel", name := "takenOctet", desc := "(III)I" } : Jvm.MethodName)) ∈ TT := TT_6 (i := 14) rfl rfl
set_option maxRecDepth 100000 in
theorem kw_1215 : (Jvm.Cond.selects "CanBitsModel" ({ cls := "CanBitsModel", name := "takenOctet", desc := "(III)I" } : Jvm.MethodName) ({ cls := "CanBitsModel", name := "takenOctet", desc := "(III)I" } : Jvm.MethodName)) ∈ TT := TT_6 (i := 15) rfl rfl
set_option maxRecDepth 100000 in
theorem kw_1216 : (Jvm.Cond.code ({ cls := "CanBitsModel", name := "takenOctet", desc := "(III)I" } : Jvm.MethodName) prog_10_method_49_code (5 : Nat) (Option.some Jvm.ClassFile.FieldType.int)) ∈ TT := TT_6 (i := 16) rfl rfl
set_option maxRecDepth 100000 in
theorem kw_1217 : (Jvm.Cond.methodLink "CanBitsLaw" (136 : Nat) ({ cls := "CanBitsModel", name := "error", desc := "(II)I" } : Jvm.MethodName)) ∈ TT := TT_6 (i := 17) rfl rfl
set_option maxRecDepth 100000 in
theorem kw_1218 : (Jvm.Cond.instanceMethod ({ cls := "CanBitsModel", name := "error", desc := "(II)I" } : Jvm.MethodName)) ∈ TT := TT_6 (i := 18) rfl rfl
set_option maxRecDepth 100000 in
theorem kw_1219 : (Jvm.Cond.selects "CanBitsModel" ({ cls := "CanBitsModel", name := "error", desc := "(II)I" } : Jvm.MethodName) ({ cls := "CanBitsModel", name := "error", desc := "(II)I" } : Jvm.MethodName)) ∈ TT := TT_6 (i := 19) rfl rfl
set_option maxRecDepth 100000 in
theorem kw_1220 : (Jvm.Cond.code ({ cls := "CanBitsModel", name := "error", desc := "(II)I" } : Jvm.MethodName) prog_10_method_50_code (3 : Nat) (Option.some Jvm.ClassFile.FieldType.int)) ∈ TT := TT_6 (i := 20) rfl rfl
set_option maxRecDepth 100000 in
theorem kw_1221 : (Jvm.Cond.arrayClass Jvm.ClassFile.FieldType.long) ∈ TT := TT_6 (i := 21) rfl rfl
theorem kp_0 : Cond.selects "CanBits" ⟨"CanBits", "begin", "(I)V"⟩ ⟨"CanBits", "begin", "(I)V"⟩ ∈ TT := TT_p (i := 0) (q := (lw_privs.getD 0 (⟨"", "", ""⟩, 0))) (by decide +kernel) (by decide +kernel)
theorem kp_1 : Cond.selects "CanBits$Node" ⟨"CanBits$Node", "enter", "(I)V"⟩ ⟨"CanBits$Node", "enter", "(I)V"⟩ ∈ TT := TT_p (i := 1) (q := (lw_privs.getD 1 (⟨"", "", ""⟩, 0))) (by decide +kernel) (by decide +kernel)
theorem kp_2 : Cond.selects "java/lang/Throwable" ⟨"java/lang/Throwable", "fillInStackTrace", "(I)Ljava/lang/Throwable;"⟩ ⟨"java/lang/Throwable", "fillInStackTrace", "(I)Ljava/lang/Throwable;"⟩ ∈ TT := TT_p (i := 2) (q := (lw_privs.getD 2 (⟨"", "", ""⟩, 0))) (by decide +kernel) (by decide +kernel)
theorem kp_3 : Cond.selects "CanBits" ⟨"CanBits", "needNode", "(I)V"⟩ ⟨"CanBits", "needNode", "(I)V"⟩ ∈ TT := TT_p (i := 3) (q := (lw_privs.getD 3 (⟨"", "", ""⟩, 0))) (by decide +kernel) (by decide +kernel)
theorem kp_4 : Cond.selects "CanBits$Writer" ⟨"CanBits$Writer", "begin", "()V"⟩ ⟨"CanBits$Writer", "begin", "()V"⟩ ∈ TT := TT_p (i := 4) (q := (lw_privs.getD 4 (⟨"", "", ""⟩, 0))) (by decide +kernel) (by decide +kernel)
theorem kp_5 : Cond.selects "CanBits$Writer" ⟨"CanBits$Writer", "writePlain", "(LCanBits$Frame;IZ)V"⟩ ⟨"CanBits$Writer", "writePlain", "(LCanBits$Frame;IZ)V"⟩ ∈ TT := TT_p (i := 5) (q := (lw_privs.getD 5 (⟨"", "", ""⟩, 0))) (by decide +kernel) (by decide +kernel)
theorem kp_6 : Cond.selects "CanBits$Writer" ⟨"CanBits$Writer", "writeStuffBit", "(LCanBits$Frame;)V"⟩ ⟨"CanBits$Writer", "writeStuffBit", "(LCanBits$Frame;)V"⟩ ∈ TT := TT_p (i := 6) (q := (lw_privs.getD 6 (⟨"", "", ""⟩, 0))) (by decide +kernel) (by decide +kernel)
theorem kp_7 : Cond.selects "CanBits$Writer" ⟨"CanBits$Writer", "writeNumber", "(LCanBits$Frame;II)V"⟩ ⟨"CanBits$Writer", "writeNumber", "(LCanBits$Frame;II)V"⟩ ∈ TT := TT_p (i := 7) (q := (lw_privs.getD 7 (⟨"", "", ""⟩, 0))) (by decide +kernel) (by decide +kernel)
theorem kp_8 : Cond.selects "CanBits$Writer" ⟨"CanBits$Writer", "writeFixed", "(LCanBits$Frame;)V"⟩ ⟨"CanBits$Writer", "writeFixed", "(LCanBits$Frame;)V"⟩ ∈ TT := TT_p (i := 8) (q := (lw_privs.getD 8 (⟨"", "", ""⟩, 0))) (by decide +kernel) (by decide +kernel)
theorem kp_9 : Cond.selects "CanBits" ⟨"CanBits", "firstOf", "(I)LCanBits$Frame;"⟩ ⟨"CanBits", "firstOf", "(I)LCanBits$Frame;"⟩ ∈ TT := TT_p (i := 9) (q := (lw_privs.getD 9 (⟨"", "", ""⟩, 0))) (by decide +kernel) (by decide +kernel)
theorem kp_10 : Cond.selects "CanBits" ⟨"CanBits", "needFrame", "(I)V"⟩ ⟨"CanBits", "needFrame", "(I)V"⟩ ∈ TT := TT_p (i := 10) (q := (lw_privs.getD 10 (⟨"", "", ""⟩, 0))) (by decide +kernel) (by decide +kernel)
theorem kp_11 : Cond.selects "CanBits" ⟨"CanBits", "putByAll", "()I"⟩ ⟨"CanBits", "putByAll", "()I"⟩ ∈ TT := TT_p (i := 11) (q := (lw_privs.getD 11 (⟨"", "", ""⟩, 0))) (by decide +kernel) (by decide +kernel)
theorem kp_12 : Cond.selects "CanBits$Node" ⟨"CanBits$Node", "startSending", "(I)V"⟩ ⟨"CanBits$Node", "startSending", "(I)V"⟩ ∈ TT := TT_p (i := 12) (q := (lw_privs.getD 12 (⟨"", "", ""⟩, 0))) (by decide +kernel) (by decide +kernel)
theorem kp_13 : Cond.selects "CanBits$Node" ⟨"CanBits$Node", "turnToListening", "()V"⟩ ⟨"CanBits$Node", "turnToListening", "()V"⟩ ∈ TT := TT_p (i := 13) (q := (lw_privs.getD 13 (⟨"", "", ""⟩, 0))) (by decide +kernel) (by decide +kernel)
theorem kp_14 : Cond.selects "CanBits$Listener" ⟨"CanBits$Listener", "hearTail", "(I)I"⟩ ⟨"CanBits$Listener", "hearTail", "(I)I"⟩ ∈ TT := TT_p (i := 14) (q := (lw_privs.getD 14 (⟨"", "", ""⟩, 0))) (by decide +kernel) (by decide +kernel)
theorem kp_15 : Cond.selects "CanBits$Listener" ⟨"CanBits$Listener", "hearFixed", "(I)I"⟩ ⟨"CanBits$Listener", "hearFixed", "(I)I"⟩ ∈ TT := TT_p (i := 15) (q := (lw_privs.getD 15 (⟨"", "", ""⟩, 0))) (by decide +kernel) (by decide +kernel)
theorem kp_16 : Cond.selects "CanBits$Listener" ⟨"CanBits$Listener", "endCount", "()I"⟩ ⟨"CanBits$Listener", "endCount", "()I"⟩ ∈ TT := TT_p (i := 16) (q := (lw_privs.getD 16 (⟨"", "", ""⟩, 0))) (by decide +kernel) (by decide +kernel)
theorem kp_17 : Cond.selects "CanBits$Listener" ⟨"CanBits$Listener", "hearStuffBit", "(I)I"⟩ ⟨"CanBits$Listener", "hearStuffBit", "(I)I"⟩ ∈ TT := TT_p (i := 17) (q := (lw_privs.getD 17 (⟨"", "", ""⟩, 0))) (by decide +kernel) (by decide +kernel)
theorem kp_18 : Cond.selects "CanBits$Listener" ⟨"CanBits$Listener", "hearPlain", "(I)I"⟩ ⟨"CanBits$Listener", "hearPlain", "(I)I"⟩ ∈ TT := TT_p (i := 18) (q := (lw_privs.getD 18 (⟨"", "", ""⟩, 0))) (by decide +kernel) (by decide +kernel)
theorem kp_19 : Cond.selects "CanBits$Listener" ⟨"CanBits$Listener", "hearHead", "(II)V"⟩ ⟨"CanBits$Listener", "hearHead", "(II)V"⟩ ∈ TT := TT_p (i := 19) (q := (lw_privs.getD 19 (⟨"", "", ""⟩, 0))) (by decide +kernel) (by decide +kernel)
theorem kp_20 : Cond.selects "CanBits$Listener" ⟨"CanBits$Listener", "hearOctet", "(II)V"⟩ ⟨"CanBits$Listener", "hearOctet", "(II)V"⟩ ∈ TT := TT_p (i := 20) (q := (lw_privs.getD 20 (⟨"", "", ""⟩, 0))) (by decide +kernel) (by decide +kernel)
theorem kp_21 : Cond.selects "CanBits$Listener" ⟨"CanBits$Listener", "endPlain", "()V"⟩ ⟨"CanBits$Listener", "endPlain", "()V"⟩ ∈ TT := TT_p (i := 21) (q := (lw_privs.getD 21 (⟨"", "", ""⟩, 0))) (by decide +kernel) (by decide +kernel)
theorem kp_22 : Cond.selects "CanBits$Node" ⟨"CanBits$Node", "seeSending", "(I)I"⟩ ⟨"CanBits$Node", "seeSending", "(I)I"⟩ ∈ TT := TT_p (i := 22) (q := (lw_privs.getD 22 (⟨"", "", ""⟩, 0))) (by decide +kernel) (by decide +kernel)
theorem kp_23 : Cond.selects "CanBits$Node" ⟨"CanBits$Node", "seeFlagging", "()V"⟩ ⟨"CanBits$Node", "seeFlagging", "()V"⟩ ∈ TT := TT_p (i := 23) (q := (lw_privs.getD 23 (⟨"", "", ""⟩, 0))) (by decide +kernel) (by decide +kernel)
theorem kp_24 : Cond.selects "CanBits$Node" ⟨"CanBits$Node", "seeClearing", "(I)I"⟩ ⟨"CanBits$Node", "seeClearing", "(I)I"⟩ ∈ TT := TT_p (i := 24) (q := (lw_privs.getD 24 (⟨"", "", ""⟩, 0))) (by decide +kernel) (by decide +kernel)
theorem kp_25 : Cond.selects "CanBits$Node" ⟨"CanBits$Node", "seePausing", "(I)I"⟩ ⟨"CanBits$Node", "seePausing", "(I)I"⟩ ∈ TT := TT_p (i := 25) (q := (lw_privs.getD 25 (⟨"", "", ""⟩, 0))) (by decide +kernel) (by decide +kernel)
theorem kp_26 : Cond.selects "CanBits$Node" ⟨"CanBits$Node", "settle", "(II)I"⟩ ⟨"CanBits$Node", "settle", "(II)I"⟩ ∈ TT := TT_p (i := 26) (q := (lw_privs.getD 26 (⟨"", "", ""⟩, 0))) (by decide +kernel) (by decide +kernel)
theorem kp_27 : Cond.selects "CanBits" ⟨"CanBits", "keep", "(II)V"⟩ ⟨"CanBits", "keep", "(II)V"⟩ ∈ TT := TT_p (i := 27) (q := (lw_privs.getD 27 (⟨"", "", ""⟩, 0))) (by decide +kernel) (by decide +kernel)
theorem kp_28 : Cond.selects "CanBits" ⟨"CanBits", "finish", "(I)V"⟩ ⟨"CanBits", "finish", "(I)V"⟩ ∈ TT := TT_p (i := 28) (q := (lw_privs.getD 28 (⟨"", "", ""⟩, 0))) (by decide +kernel) (by decide +kernel)
theorem kp_29 : Cond.selects "CanBitsModel" ⟨"CanBitsModel", "noNode", "(I)Z"⟩ ⟨"CanBitsModel", "noNode", "(I)Z"⟩ ∈ TT := TT_p (i := 29) (q := (lw_privs.getD 29 (⟨"", "", ""⟩, 0))) (by decide +kernel) (by decide +kernel)
theorem kp_30 : Cond.selects "CanBitsModel" ⟨"CanBitsModel", "noFrame", "(I)Z"⟩ ⟨"CanBitsModel", "noFrame", "(I)Z"⟩ ∈ TT := TT_p (i := 30) (q := (lw_privs.getD 30 (⟨"", "", ""⟩, 0))) (by decide +kernel) (by decide +kernel)
theorem kp_31 : Cond.selects "CanBitsModel" ⟨"CanBitsModel", "write", "(I)V"⟩ ⟨"CanBitsModel", "write", "(I)V"⟩ ∈ TT := TT_p (i := 31) (q := (lw_privs.getD 31 (⟨"", "", ""⟩, 0))) (by decide +kernel) (by decide +kernel)
theorem kp_32 : Cond.selects "CanBitsModel" ⟨"CanBitsModel", "writePlain", "(I)V"⟩ ⟨"CanBitsModel", "writePlain", "(I)V"⟩ ∈ TT := TT_p (i := 32) (q := (lw_privs.getD 32 (⟨"", "", ""⟩, 0))) (by decide +kernel) (by decide +kernel)
theorem kp_33 : Cond.selects "CanBitsModel" ⟨"CanBitsModel", "bits", "(II)V"⟩ ⟨"CanBitsModel", "bits", "(II)V"⟩ ∈ TT := TT_p (i := 33) (q := (lw_privs.getD 33 (⟨"", "", ""⟩, 0))) (by decide +kernel) (by decide +kernel)
theorem kp_34 : Cond.selects "CanBitsModel" ⟨"CanBitsModel", "check", "(I)V"⟩ ⟨"CanBitsModel", "check", "(I)V"⟩ ∈ TT := TT_p (i := 34) (q := (lw_privs.getD 34 (⟨"", "", ""⟩, 0))) (by decide +kernel) (by decide +kernel)
theorem kp_35 : Cond.selects "CanBitsModel" ⟨"CanBitsModel", "checkOf", "(I)I"⟩ ⟨"CanBitsModel", "checkOf", "(I)I"⟩ ∈ TT := TT_p (i := 35) (q := (lw_privs.getD 35 (⟨"", "", ""⟩, 0))) (by decide +kernel) (by decide +kernel)
theorem kp_36 : Cond.selects "CanBitsModel" ⟨"CanBitsModel", "put", "(IZ)V"⟩ ⟨"CanBitsModel", "put", "(IZ)V"⟩ ∈ TT := TT_p (i := 36) (q := (lw_privs.getD 36 (⟨"", "", ""⟩, 0))) (by decide +kernel) (by decide +kernel)
theorem kp_37 : Cond.selects "CanBitsModel" ⟨"CanBitsModel", "five", "()Z"⟩ ⟨"CanBitsModel", "five", "()Z"⟩ ∈ TT := TT_p (i := 37) (q := (lw_privs.getD 37 (⟨"", "", ""⟩, 0))) (by decide +kernel) (by decide +kernel)
theorem kp_38 : Cond.selects "CanBitsModel" ⟨"CanBitsModel", "writeTail", "(II)V"⟩ ⟨"CanBitsModel", "writeTail", "(II)V"⟩ ∈ TT := TT_p (i := 38) (q := (lw_privs.getD 38 (⟨"", "", ""⟩, 0))) (by decide +kernel) (by decide +kernel)
theorem kp_39 : Cond.selects "CanBitsModel" ⟨"CanBitsModel", "puts", "(I)I"⟩ ⟨"CanBitsModel", "puts", "(I)I"⟩ ∈ TT := TT_p (i := 39) (q := (lw_privs.getD 39 (⟨"", "", ""⟩, 0))) (by decide +kernel) (by decide +kernel)
theorem kp_40 : Cond.selects "CanBitsModel" ⟨"CanBitsModel", "first", "(I)I"⟩ ⟨"CanBitsModel", "first", "(I)I"⟩ ∈ TT := TT_p (i := 40) (q := (lw_privs.getD 40 (⟨"", "", ""⟩, 0))) (by decide +kernel) (by decide +kernel)
theorem kp_41 : Cond.selects "CanBitsModel" ⟨"CanBitsModel", "answers", "(I)Z"⟩ ⟨"CanBitsModel", "answers", "(I)Z"⟩ ∈ TT := TT_p (i := 41) (q := (lw_privs.getD 41 (⟨"", "", ""⟩, 0))) (by decide +kernel) (by decide +kernel)
theorem kp_42 : Cond.selects "CanBitsModel" ⟨"CanBitsModel", "body", "(I)I"⟩ ⟨"CanBitsModel", "body", "(I)I"⟩ ∈ TT := TT_p (i := 42) (q := (lw_privs.getD 42 (⟨"", "", ""⟩, 0))) (by decide +kernel) (by decide +kernel)
theorem kp_43 : Cond.selects "CanBitsModel" ⟨"CanBitsModel", "bitAt", "(II)I"⟩ ⟨"CanBitsModel", "bitAt", "(II)I"⟩ ∈ TT := TT_p (i := 43) (q := (lw_privs.getD 43 (⟨"", "", ""⟩, 0))) (by decide +kernel) (by decide +kernel)
theorem kp_44 : Cond.selects "CanBitsModel" ⟨"CanBitsModel", "find", "(ZZI)V"⟩ ⟨"CanBitsModel", "find", "(ZZI)V"⟩ ∈ TT := TT_p (i := 44) (q := (lw_privs.getD 44 (⟨"", "", ""⟩, 0))) (by decide +kernel) (by decide +kernel)
theorem kp_45 : Cond.selects "CanBitsModel" ⟨"CanBitsModel", "number", "(II)I"⟩ ⟨"CanBitsModel", "number", "(II)I"⟩ ∈ TT := TT_p (i := 45) (q := (lw_privs.getD 45 (⟨"", "", ""⟩, 0))) (by decide +kernel) (by decide +kernel)
theorem kp_46 : Cond.selects "CanBitsModel" ⟨"CanBitsModel", "tail", "()I"⟩ ⟨"CanBitsModel", "tail", "()I"⟩ ∈ TT := TT_p (i := 46) (q := (lw_privs.getD 46 (⟨"", "", ""⟩, 0))) (by decide +kernel) (by decide +kernel)
theorem kp_47 : Cond.selects "CanBitsModel" ⟨"CanBitsModel", "width", "()I"⟩ ⟨"CanBitsModel", "width", "()I"⟩ ∈ TT := TT_p (i := 47) (q := (lw_privs.getD 47 (⟨"", "", ""⟩, 0))) (by decide +kernel) (by decide +kernel)
theorem kp_48 : Cond.selects "CanBitsModel" ⟨"CanBitsModel", "right", "(I)Z"⟩ ⟨"CanBitsModel", "right", "(I)Z"⟩ ∈ TT := TT_p (i := 48) (q := (lw_privs.getD 48 (⟨"", "", ""⟩, 0))) (by decide +kernel) (by decide +kernel)
theorem kp_49 : Cond.selects "CanBitsModel" ⟨"CanBitsModel", "sees", "(II)V"⟩ ⟨"CanBitsModel", "sees", "(II)V"⟩ ∈ TT := TT_p (i := 49) (q := (lw_privs.getD 49 (⟨"", "", ""⟩, 0))) (by decide +kernel) (by decide +kernel)
theorem kp_50 : Cond.selects "CanBitsModel" ⟨"CanBitsModel", "sent", "(II)V"⟩ ⟨"CanBitsModel", "sent", "(II)V"⟩ ∈ TT := TT_p (i := 50) (q := (lw_privs.getD 50 (⟨"", "", ""⟩, 0))) (by decide +kernel) (by decide +kernel)
theorem kp_51 : Cond.selects "CanBitsModel" ⟨"CanBitsModel", "see", "(II)V"⟩ ⟨"CanBitsModel", "see", "(II)V"⟩ ∈ TT := TT_p (i := 51) (q := (lw_privs.getD 51 (⟨"", "", ""⟩, 0))) (by decide +kernel) (by decide +kernel)
theorem kp_52 : Cond.selects "CanBitsModel" ⟨"CanBitsModel", "wrong", "(II)V"⟩ ⟨"CanBitsModel", "wrong", "(II)V"⟩ ∈ TT := TT_p (i := 52) (q := (lw_privs.getD 52 (⟨"", "", ""⟩, 0))) (by decide +kernel) (by decide +kernel)
theorem kp_53 : Cond.selects "CanBitsModel" ⟨"CanBitsModel", "go", "(III)V"⟩ ⟨"CanBitsModel", "go", "(III)V"⟩ ∈ TT := TT_p (i := 53) (q := (lw_privs.getD 53 (⟨"", "", ""⟩, 0))) (by decide +kernel) (by decide +kernel)
theorem kp_54 : Cond.selects "CanBitsModel" ⟨"CanBitsModel", "read", "(I)I"⟩ ⟨"CanBitsModel", "read", "(I)I"⟩ ∈ TT := TT_p (i := 54) (q := (lw_privs.getD 54 (⟨"", "", ""⟩, 0))) (by decide +kernel) (by decide +kernel)
theorem kp_55 : Cond.selects "CanBitsModel" ⟨"CanBitsModel", "take", "(I)V"⟩ ⟨"CanBitsModel", "take", "(I)V"⟩ ∈ TT := TT_p (i := 55) (q := (lw_privs.getD 55 (⟨"", "", ""⟩, 0))) (by decide +kernel) (by decide +kernel)
theorem kp_56 : Cond.selects "CanBitsModel" ⟨"CanBitsModel", "pauses", "(II)V"⟩ ⟨"CanBitsModel", "pauses", "(II)V"⟩ ∈ TT := TT_p (i := 56) (q := (lw_privs.getD 56 (⟨"", "", ""⟩, 0))) (by decide +kernel) (by decide +kernel)
theorem kp_57 : Cond.selects "CanBitsModel" ⟨"CanBitsModel", "took", "(II)I"⟩ ⟨"CanBitsModel", "took", "(II)I"⟩ ∈ TT := TT_p (i := 57) (q := (lw_privs.getD 57 (⟨"", "", ""⟩, 0))) (by decide +kernel) (by decide +kernel)
theorem inT0 : ∀ w ∈ u_ws RX0 TX0 9, w ∈ TT := fun w hw => List.mem_filter.mpr ⟨List.mem_append_right _ ((by decide +kernel : ∀ w ∈ u_ws RX0 TX0 9, w ∈ tables_1) w hw), (by decide +kernel : ∀ w ∈ u_ws RX0 TX0 9, goodWord w = true) w hw⟩
theorem inT1 : ∀ w ∈ u_ws RX1 TX1 17, w ∈ TT := fun w hw => List.mem_filter.mpr ⟨List.mem_append_right _ ((by decide +kernel : ∀ w ∈ u_ws RX1 TX1 17, w ∈ tables_1) w hw), (by decide +kernel : ∀ w ∈ u_ws RX1 TX1 17, goodWord w = true) w hw⟩
theorem inT2 : ∀ w ∈ u_ws RX2 TX2 10, w ∈ TT := fun w hw => List.mem_filter.mpr ⟨List.mem_append_right _ ((by decide +kernel : ∀ w ∈ u_ws RX2 TX2 10, w ∈ tables_1) w hw), (by decide +kernel : ∀ w ∈ u_ws RX2 TX2 10, goodWord w = true) w hw⟩
theorem inT3 : ∀ w ∈ u_ws RX3 TX3 4, w ∈ TT := fun w hw => List.mem_filter.mpr ⟨List.mem_append_right _ ((by decide +kernel : ∀ w ∈ u_ws RX3 TX3 4, w ∈ tables_1) w hw), (by decide +kernel : ∀ w ∈ u_ws RX3 TX3 4, goodWord w = true) w hw⟩
theorem inT4 : ∀ w ∈ u_ws RX4 TX4 3, w ∈ TT := fun w hw => List.mem_filter.mpr ⟨List.mem_append_right _ ((by decide +kernel : ∀ w ∈ u_ws RX4 TX4 3, w ∈ tables_1) w hw), (by decide +kernel : ∀ w ∈ u_ws RX4 TX4 3, goodWord w = true) w hw⟩
theorem inT5 : ∀ w ∈ u_ws RX5 TX5 4, w ∈ TT := fun w hw => List.mem_filter.mpr ⟨List.mem_append_right _ ((by decide +kernel : ∀ w ∈ u_ws RX5 TX5 4, w ∈ tables_1) w hw), (by decide +kernel : ∀ w ∈ u_ws RX5 TX5 4, goodWord w = true) w hw⟩
theorem inT6 : ∀ w ∈ u_ws RX6 TX6 4, w ∈ TT := fun w hw => List.mem_filter.mpr ⟨List.mem_append_right _ ((by decide +kernel : ∀ w ∈ u_ws RX6 TX6 4, w ∈ tables_1) w hw), (by decide +kernel : ∀ w ∈ u_ws RX6 TX6 4, goodWord w = true) w hw⟩
theorem inT7 : ∀ w ∈ u_ws RX7 TX7 14, w ∈ TT := fun w hw => List.mem_filter.mpr ⟨List.mem_append_right _ ((by decide +kernel : ∀ w ∈ u_ws RX7 TX7 14, w ∈ tables_1) w hw), (by decide +kernel : ∀ w ∈ u_ws RX7 TX7 14, goodWord w = true) w hw⟩
theorem inT8 : ∀ w ∈ u_ws RX8 TX8 47, w ∈ TT := fun w hw => List.mem_filter.mpr ⟨List.mem_append_right _ ((by decide +kernel : ∀ w ∈ u_ws RX8 TX8 47, w ∈ tables_1) w hw), (by decide +kernel : ∀ w ∈ u_ws RX8 TX8 47, goodWord w = true) w hw⟩
