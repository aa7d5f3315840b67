/-! The tables' words that may be handed to a callee, each by its place. Made by wip/tools/gen_names.py out of the Statement's tables. -/
def tb : List Cond := lw_tbl.filter goodWord
theorem tb_of {w : Cond} (h : w ∈ tables_1) (g : goodWord w = true) : w ∈ tb := List.mem_filter.mpr ⟨List.mem_append_right _ h, g⟩
theorem tb_sel {w : Cond} (h : w ∈ k2_sels lw_privs) (g : goodWord w = true) : w ∈ tb := List.mem_filter.mpr ⟨List.mem_append_left _ h, g⟩
theorem tb_1 {w : Cond} (h : w ∈ tables_1_1) : w ∈ tables_1 := (List.mem_append_left _ h)
theorem tb_2 {w : Cond} (h : w ∈ tables_1_2) : w ∈ tables_1 := (List.mem_append_right _ (List.mem_append_left _ h))
theorem tb_3 {w : Cond} (h : w ∈ tables_1_3) : w ∈ tables_1 := (List.mem_append_right _ (List.mem_append_right _ (List.mem_append_left _ h)))
theorem tb_4 {w : Cond} (h : w ∈ tables_1_4) : w ∈ tables_1 := (List.mem_append_right _ (List.mem_append_right _ (List.mem_append_right _ (List.mem_append_left _ h))))
theorem tb_5 {w : Cond} (h : w ∈ tables_1_5) : w ∈ tables_1 := (List.mem_append_right _ (List.mem_append_right _ (List.mem_append_right _ (List.mem_append_right _ (List.mem_append_left _ h)))))
theorem tb_6 {w : Cond} (h : w ∈ tables_1_6) : w ∈ tables_1 := (List.mem_append_right _ (List.mem_append_right _ (List.mem_append_right _ (List.mem_append_right _ (List.mem_append_right _ h)))))
theorem tb_good {w : Cond} (h : w ∈ tb) : (w.onTables && w.keeps) = true ∨ ∃ ty, w = .arrayClass ty := good_of_word (List.mem_filter.mp h).2
theorem good_c {y : MethodName} {b : ByteArray} {n : Nat} {r : Option FieldType} (h : Cond.code y b n r ∈ tb) : GoodIn tb (.code y b n r :: tb) := fun w hw => by
  rcases List.mem_cons.mp hw with rfl | hw
  · exact ⟨h, tb_good h⟩
  · exact ⟨hw, tb_good hw⟩
theorem good_V {own C : String} {i : Nat} {y : MethodName} {b : ByteArray} {n : Nat} {r : Option FieldType} (h1 : Cond.methodLink own i y ∈ tb) (h2 : Cond.instanceMethod y ∈ tb) (h3 : Cond.selects C y y ∈ tb) (h4 : Cond.initialized C ∈ tb) (h : Cond.code y b n r ∈ tb) : GoodIn tb (wsV own i C y (.code y b n r :: tb)) := fun w hw => by
  rcases List.mem_append.mp hw with hw | hw
  · have hm : w ∈ tb := by
      simp only [List.mem_cons, List.not_mem_nil, or_false] at hw
      rcases hw with rfl | rfl | rfl | rfl <;> assumption
    exact ⟨hm, tb_good hm⟩
  · exact good_c h w hw
theorem good_S {own : String} {i : Nat} {y : MethodName} {b : ByteArray} {n : Nat} {r : Option FieldType} (h1 : Cond.methodLink own i y ∈ tb) (h2 : Cond.static y ∈ tb) (h4 : Cond.initialized y.cls ∈ tb) (h : Cond.code y b n r ∈ tb) : GoodIn tb (va_wsS own i y (.code y b n r :: tb)) := fun w hw => by
  rcases List.mem_append.mp hw with hw | hw
  · have hm : w ∈ tb := by
      simp only [List.mem_cons, List.not_mem_nil, or_false] at hw
      rcases hw with rfl | rfl | rfl <;> assumption
    exact ⟨hm, tb_good hm⟩
  · exact good_c h w hw
theorem k_0 : (Cond.initialized "ChipDeskLaw") ∈ tb := tb_of (tb_1 (List.mem_of_getElem? (i := 0) rfl)) rfl
theorem k_1 : (Cond.initialized "ChipDesk") ∈ tb := tb_of (tb_1 (List.mem_of_getElem? (i := 1) rfl)) rfl
theorem k_2 : (Cond.initialized "ChipDesk$Text") ∈ tb := tb_of (tb_1 (List.mem_of_getElem? (i := 2) rfl)) rfl
theorem k_3 : (Cond.initialized "ChipDesk$Fault") ∈ tb := tb_of (tb_1 (List.mem_of_getElem? (i := 3) rfl)) rfl
theorem k_4 : (Cond.initialized "ChipDesk$Parser") ∈ tb := tb_of (tb_1 (List.mem_of_getElem? (i := 4) rfl)) rfl
theorem k_5 : (Cond.initialized "java/util/AbstractCollection") ∈ tb := tb_of (tb_1 (List.mem_of_getElem? (i := 5) rfl)) rfl
theorem k_6 : (Cond.initialized "java/util/AbstractList") ∈ tb := tb_of (tb_1 (List.mem_of_getElem? (i := 6) rfl)) rfl
theorem k_7 : (Cond.initialized "java/util/ArrayList") ∈ tb := tb_of (tb_1 (List.mem_of_getElem? (i := 7) rfl)) rfl
theorem k_8 : (Cond.initialized "ChipDesk$Checker") ∈ tb := tb_of (tb_1 (List.mem_of_getElem? (i := 8) rfl)) rfl
theorem k_9 : (Cond.initialized "ChipDesk$Chip") ∈ tb := tb_of (tb_1 (List.mem_of_getElem? (i := 9) rfl)) rfl
theorem k_10 : (Cond.initialized "ChipDesk$Name") ∈ tb := tb_of (tb_1 (List.mem_of_getElem? (i := 10) rfl)) rfl
theorem k_11 : (Cond.initialized "ChipDesk$Wire") ∈ tb := tb_of (tb_1 (List.mem_of_getElem? (i := 11) rfl)) rfl
theorem k_12 : (Cond.initialized "jdk/internal/util/ArraysSupport") ∈ tb := tb_of (tb_1 (List.mem_of_getElem? (i := 12) rfl)) rfl
theorem k_13 : (Cond.initialized "java/lang/Math") ∈ tb := tb_of (tb_1 (List.mem_of_getElem? (i := 13) rfl)) rfl
theorem k_14 : (Cond.initialized "java/util/Arrays") ∈ tb := tb_of (tb_1 (List.mem_of_getElem? (i := 14) rfl)) rfl
theorem k_15 : (Cond.initialized "java/lang/System") ∈ tb := tb_of (tb_1 (List.mem_of_getElem? (i := 15) rfl)) rfl
theorem k_16 : (Cond.initialized "java/util/Objects") ∈ tb := tb_of (tb_1 (List.mem_of_getElem? (i := 16) rfl)) rfl
theorem k_17 : (Cond.initialized "jdk/internal/util/Preconditions") ∈ tb := tb_of (tb_1 (List.mem_of_getElem? (i := 17) rfl)) rfl
theorem k_18 : (Cond.initialized "ChipDesk$Board") ∈ tb := tb_of (tb_1 (List.mem_of_getElem? (i := 18) rfl)) rfl
theorem k_19 : (Cond.initialized "ChipDeskModel") ∈ tb := tb_of (tb_1 (List.mem_of_getElem? (i := 19) rfl)) rfl
theorem k_20 : (Cond.initialized "ChipDesk$Part") ∈ tb := tb_of (tb_1 (List.mem_of_getElem? (i := 20) rfl)) rfl
theorem k_21 : (Cond.initialized "ChipDesk$Side") ∈ tb := tb_of (tb_1 (List.mem_of_getElem? (i := 21) rfl)) rfl
theorem k_22 : (Cond.initialized "ChipDesk$Link") ∈ tb := tb_of (tb_1 (List.mem_of_getElem? (i := 22) rfl)) rfl
theorem k_23 : (Cond.classLink "ChipDeskLaw" 7 "ChipDesk") ∈ tb := tb_of (tb_1 (List.mem_of_getElem? (i := 23) rfl)) rfl
theorem k_24 : (Cond.instantiable "ChipDesk" 5) ∈ tb := tb_of (tb_1 (List.mem_of_getElem? (i := 24) rfl)) rfl
theorem k_25 : (Cond.methodLink "ChipDeskLaw" 9 (⟨"ChipDesk", "<init>", "()V"⟩ : MethodName)) ∈ tb := tb_of (tb_1 (List.mem_of_getElem? (i := 25) rfl)) rfl
theorem k_26 : (Cond.instanceMethod (⟨"ChipDesk", "<init>", "()V"⟩ : MethodName)) ∈ tb := tb_of (tb_1 (List.mem_of_getElem? (i := 26) rfl)) rfl
theorem k_27 : (Cond.code (⟨"ChipDesk", "<init>", "()V"⟩ : MethodName) prog_1_method_1_code 1 (Option.none : Option ClassFile.FieldType)) ∈ tb := tb_of (tb_1 (List.mem_of_getElem? (i := 27) rfl)) rfl
theorem k_28 : (Cond.methodLink "ChipDesk" 1 (⟨"java/lang/Object", "<init>", "()V"⟩ : MethodName)) ∈ tb := tb_of (tb_1 (List.mem_of_getElem? (i := 28) rfl)) rfl
theorem k_29 : (Cond.instanceMethod (⟨"java/lang/Object", "<init>", "()V"⟩ : MethodName)) ∈ tb := tb_of (tb_1 (List.mem_of_getElem? (i := 29) rfl)) rfl
theorem k_30 : (Cond.code (⟨"java/lang/Object", "<init>", "()V"⟩ : MethodName) object_method_1_code 1 (Option.none : Option ClassFile.FieldType)) ∈ tb := tb_of (tb_1 (List.mem_of_getElem? (i := 30) rfl)) rfl
theorem k_31 : (Cond.classLink "ChipDesk" 7 "ChipDesk$Text") ∈ tb := tb_of (tb_1 (List.mem_of_getElem? (i := 31) rfl)) rfl
theorem k_32 : (Cond.instantiable "ChipDesk$Text" 7) ∈ tb := tb_of (tb_1 (List.mem_of_getElem? (i := 32) rfl)) rfl
theorem k_34 : (Cond.instanceMethod (⟨"ChipDesk$Text", "<init>", "()V"⟩ : MethodName)) ∈ tb := tb_of (tb_1 (List.mem_of_getElem? (i := 34) rfl)) rfl
theorem k_35 : (Cond.code (⟨"ChipDesk$Text", "<init>", "()V"⟩ : MethodName) prog_11_method_1_code 1 (Option.none : Option ClassFile.FieldType)) ∈ tb := tb_of (tb_1 (List.mem_of_getElem? (i := 35) rfl)) rfl
theorem k_36 : (Cond.methodLink "ChipDesk$Text" 1 (⟨"java/lang/Object", "<init>", "()V"⟩ : MethodName)) ∈ tb := tb_of (tb_1 (List.mem_of_getElem? (i := 36) rfl)) rfl
theorem k_37 : (Cond.fieldLink "ChipDesk$Text" 9 "ChipDesk$Text" "bytes" "[B") ∈ tb := tb_of (tb_1 (List.mem_of_getElem? (i := 37) rfl)) rfl
theorem k_38 : (Cond.fieldLink "ChipDesk$Text" 13 "ChipDesk$Text" "length" "I") ∈ tb := tb_of (tb_1 (List.mem_of_getElem? (i := 38) rfl)) rfl
theorem k_39 : (Cond.fieldLink "ChipDesk" 94 "ChipDesk$Text" "length" "I") ∈ tb := tb_of (tb_1 (List.mem_of_getElem? (i := 39) rfl)) rfl
theorem k_40 : (Cond.fieldLink "ChipDesk$Text" 17 "ChipDesk$Text" "kind" "[I") ∈ tb := tb_of (tb_1 (List.mem_of_getElem? (i := 40) rfl)) rfl
theorem k_41 : (Cond.fieldLink "ChipDesk$Parser" 170 "ChipDesk$Text" "kind" "[I") ∈ tb := tb_of (tb_1 (List.mem_of_getElem? (i := 41) rfl)) rfl
theorem k_42 : (Cond.fieldLink "ChipDesk$Text" 21 "ChipDesk$Text" "place" "[I") ∈ tb := tb_of (tb_1 (List.mem_of_getElem? (i := 42) rfl)) rfl
theorem k_43 : (Cond.fieldLink "ChipDesk$Parser" 96 "ChipDesk$Text" "place" "[I") ∈ tb := tb_of (tb_1 (List.mem_of_getElem? (i := 43) rfl)) rfl
theorem k_44 : (Cond.fieldLink "ChipDesk$Text" 24 "ChipDesk$Text" "number" "[I") ∈ tb := tb_of (tb_1 (List.mem_of_getElem? (i := 44) rfl)) rfl
theorem k_45 : (Cond.fieldLink "ChipDesk$Parser" 92 "ChipDesk$Text" "number" "[I") ∈ tb := tb_of (tb_1 (List.mem_of_getElem? (i := 45) rfl)) rfl
theorem k_46 : (Cond.fieldLink "ChipDesk$Text" 27 "ChipDesk$Text" "head" "[J") ∈ tb := tb_of (tb_1 (List.mem_of_getElem? (i := 46) rfl)) rfl
theorem k_47 : (Cond.fieldLink "ChipDesk$Parser" 173 "ChipDesk$Text" "head" "[J") ∈ tb := tb_of (tb_1 (List.mem_of_getElem? (i := 47) rfl)) rfl
theorem k_48 : (Cond.fieldLink "ChipDesk$Text" 31 "ChipDesk$Text" "tail" "[J") ∈ tb := tb_of (tb_1 (List.mem_of_getElem? (i := 48) rfl)) rfl
theorem k_49 : (Cond.fieldLink "ChipDesk$Parser" 177 "ChipDesk$Text" "tail" "[J") ∈ tb := tb_of (tb_1 (List.mem_of_getElem? (i := 49) rfl)) rfl
theorem k_50 : (Cond.laysFinal "ChipDesk$Text" "ChipDesk$Text" "bytes" "[B") ∈ tb := tb_of (tb_1 (List.mem_of_getElem? (i := 50) rfl)) rfl
theorem k_52 : (Cond.lays "ChipDesk$Text" "ChipDesk$Text" "length" "I") ∈ tb := tb_of (tb_1 (List.mem_of_getElem? (i := 52) rfl)) rfl
theorem k_54 : (Cond.laysFinal "ChipDesk$Text" "ChipDesk$Text" "kind" "[I") ∈ tb := tb_of (tb_1 (List.mem_of_getElem? (i := 54) rfl)) rfl
theorem k_56 : (Cond.laysFinal "ChipDesk$Text" "ChipDesk$Text" "place" "[I") ∈ tb := tb_of (tb_1 (List.mem_of_getElem? (i := 56) rfl)) rfl
theorem k_58 : (Cond.laysFinal "ChipDesk$Text" "ChipDesk$Text" "number" "[I") ∈ tb := tb_of (tb_1 (List.mem_of_getElem? (i := 58) rfl)) rfl
theorem k_60 : (Cond.laysFinal "ChipDesk$Text" "ChipDesk$Text" "head" "[J") ∈ tb := tb_of (tb_1 (List.mem_of_getElem? (i := 60) rfl)) rfl
theorem k_62 : (Cond.laysFinal "ChipDesk$Text" "ChipDesk$Text" "tail" "[J") ∈ tb := tb_of (tb_1 (List.mem_of_getElem? (i := 62) rfl)) rfl
theorem k_64 : (Cond.superclass "ChipDesk$Text" "java/lang/Object") ∈ tb := tb_of (tb_1 (List.mem_of_getElem? (i := 64) rfl)) rfl
theorem k_65 : (Cond.arrayClass ClassFile.FieldType.byte) ∈ tb := tb_of (tb_1 (List.mem_of_getElem? (i := 65) rfl)) rfl
theorem k_66 : (Cond.arrayClass ClassFile.FieldType.int) ∈ tb := tb_of (tb_1 (List.mem_of_getElem? (i := 66) rfl)) rfl
theorem k_67 : (Cond.arrayClass ClassFile.FieldType.long) ∈ tb := tb_of (tb_1 (List.mem_of_getElem? (i := 67) rfl)) rfl
theorem k_68 : (Cond.classLink "ChipDesk" 16 "ChipDesk$Fault") ∈ tb := tb_of (tb_1 (List.mem_of_getElem? (i := 68) rfl)) rfl
theorem k_69 : (Cond.instantiable "ChipDesk$Fault" 2) ∈ tb := tb_of (tb_1 (List.mem_of_getElem? (i := 69) rfl)) rfl
theorem k_71 : (Cond.instanceMethod (⟨"ChipDesk$Fault", "<init>", "()V"⟩ : MethodName)) ∈ tb := tb_of (tb_1 (List.mem_of_getElem? (i := 71) rfl)) rfl
theorem k_72 : (Cond.code (⟨"ChipDesk$Fault", "<init>", "()V"⟩ : MethodName) prog_5_method_1_code 1 (Option.none : Option ClassFile.FieldType)) ∈ tb := tb_of (tb_1 (List.mem_of_getElem? (i := 72) rfl)) rfl
theorem k_73 : (Cond.methodLink "ChipDesk$Fault" 1 (⟨"java/lang/Object", "<init>", "()V"⟩ : MethodName)) ∈ tb := tb_of (tb_1 (List.mem_of_getElem? (i := 73) rfl)) rfl
theorem k_74 : (Cond.fieldLink "ChipDesk$Fault" 9 "ChipDesk$Fault" "kind" "I") ∈ tb := tb_of (tb_1 (List.mem_of_getElem? (i := 74) rfl)) rfl
theorem k_75 : (Cond.fieldLink "ChipDesk" 74 "ChipDesk$Fault" "kind" "I") ∈ tb := tb_of (tb_1 (List.mem_of_getElem? (i := 75) rfl)) rfl
theorem k_76 : (Cond.fieldLink "ChipDesk$Fault" 13 "ChipDesk$Fault" "place" "I") ∈ tb := tb_of (tb_1 (List.mem_of_getElem? (i := 76) rfl)) rfl
theorem k_77 : (Cond.fieldLink "ChipDesk" 101 "ChipDesk$Fault" "place" "I") ∈ tb := tb_of (tb_1 (List.mem_of_getElem? (i := 77) rfl)) rfl
theorem k_78 : (Cond.lays "ChipDesk$Fault" "ChipDesk$Fault" "kind" "I") ∈ tb := tb_of (tb_1 (List.mem_of_getElem? (i := 78) rfl)) rfl
theorem k_80 : (Cond.lays "ChipDesk$Fault" "ChipDesk$Fault" "place" "I") ∈ tb := tb_of (tb_1 (List.mem_of_getElem? (i := 80) rfl)) rfl
theorem k_82 : (Cond.superclass "ChipDesk$Fault" "java/lang/Object") ∈ tb := tb_of (tb_1 (List.mem_of_getElem? (i := 82) rfl)) rfl
theorem k_83 : (Cond.classLink "ChipDesk" 23 "ChipDesk$Parser") ∈ tb := tb_of (tb_1 (List.mem_of_getElem? (i := 83) rfl)) rfl
theorem k_84 : (Cond.instantiable "ChipDesk$Parser" 4) ∈ tb := tb_of (tb_1 (List.mem_of_getElem? (i := 84) rfl)) rfl
theorem k_85 : (Cond.methodLink "ChipDesk" 25 (⟨"ChipDesk$Parser", "<init>", "(LChipDesk$Text;LChipDesk$Fault;)V"⟩ : MethodName)) ∈ tb := tb_of (tb_1 (List.mem_of_getElem? (i := 85) rfl)) rfl
theorem k_86 : (Cond.instanceMethod (⟨"ChipDesk$Parser", "<init>", "(LChipDesk$Text;LChipDesk$Fault;)V"⟩ : MethodName)) ∈ tb := tb_of (tb_1 (List.mem_of_getElem? (i := 86) rfl)) rfl
theorem k_87 : (Cond.code (⟨"ChipDesk$Parser", "<init>", "(LChipDesk$Text;LChipDesk$Fault;)V"⟩ : MethodName) prog_8_method_1_code 3 (Option.none : Option ClassFile.FieldType)) ∈ tb := tb_of (tb_1 (List.mem_of_getElem? (i := 87) rfl)) rfl
theorem k_88 : (Cond.methodLink "ChipDesk$Parser" 1 (⟨"java/lang/Object", "<init>", "()V"⟩ : MethodName)) ∈ tb := tb_of (tb_1 (List.mem_of_getElem? (i := 88) rfl)) rfl
theorem k_89 : (Cond.classLink "ChipDesk$Parser" 7 "java/util/ArrayList") ∈ tb := tb_of (tb_1 (List.mem_of_getElem? (i := 89) rfl)) rfl
theorem k_90 : (Cond.instantiable "java/util/ArrayList" 3) ∈ tb := tb_of (tb_1 (List.mem_of_getElem? (i := 90) rfl)) rfl
theorem k_91 : (Cond.methodLink "ChipDesk$Parser" 9 (⟨"java/util/ArrayList", "<init>", "()V"⟩ : MethodName)) ∈ tb := tb_of (tb_1 (List.mem_of_getElem? (i := 91) rfl)) rfl
theorem k_92 : (Cond.instanceMethod (⟨"java/util/ArrayList", "<init>", "()V"⟩ : MethodName)) ∈ tb := tb_of (tb_1 (List.mem_of_getElem? (i := 92) rfl)) rfl
theorem k_93 : (Cond.code (⟨"java/util/ArrayList", "<init>", "()V"⟩ : MethodName) prog_22_method_2_code 1 (Option.none : Option ClassFile.FieldType)) ∈ tb := tb_of (tb_1 (List.mem_of_getElem? (i := 93) rfl)) rfl
theorem k_94 : (Cond.methodLink "java/util/ArrayList" 1 (⟨"java/util/AbstractList", "<init>", "()V"⟩ : MethodName)) ∈ tb := tb_of (tb_1 (List.mem_of_getElem? (i := 94) rfl)) rfl
theorem k_95 : (Cond.instanceMethod (⟨"java/util/AbstractList", "<init>", "()V"⟩ : MethodName)) ∈ tb := tb_of (tb_1 (List.mem_of_getElem? (i := 95) rfl)) rfl
theorem k_96 : (Cond.code (⟨"java/util/AbstractList", "<init>", "()V"⟩ : MethodName) prog_21_method_1_code 1 (Option.none : Option ClassFile.FieldType)) ∈ tb := tb_of (tb_1 (List.mem_of_getElem? (i := 96) rfl)) rfl
theorem k_97 : (Cond.methodLink "java/util/AbstractList" 1 (⟨"java/util/AbstractCollection", "<init>", "()V"⟩ : MethodName)) ∈ tb := tb_of (tb_1 (List.mem_of_getElem? (i := 97) rfl)) rfl
theorem k_98 : (Cond.instanceMethod (⟨"java/util/AbstractCollection", "<init>", "()V"⟩ : MethodName)) ∈ tb := tb_of (tb_1 (List.mem_of_getElem? (i := 98) rfl)) rfl
theorem k_99 : (Cond.code (⟨"java/util/AbstractCollection", "<init>", "()V"⟩ : MethodName) prog_20_method_1_code 1 (Option.none : Option ClassFile.FieldType)) ∈ tb := tb_of (tb_1 (List.mem_of_getElem? (i := 99) rfl)) rfl
theorem k_100 : (Cond.methodLink "java/util/AbstractCollection" 1 (⟨"java/lang/Object", "<init>", "()V"⟩ : MethodName)) ∈ tb := tb_of (tb_1 (List.mem_of_getElem? (i := 100) rfl)) rfl
theorem k_101 : (Cond.fieldLink "java/util/ArrayList" 39 "java/util/ArrayList" "DEFAULTCAPACITY_EMPTY_ELEMENTDATA" "[Ljava/lang/Object;") ∈ tb := tb_of (tb_1 (List.mem_of_getElem? (i := 101) rfl)) rfl
theorem k_103 : (Cond.fieldLink "java/util/ArrayList" 9 "java/util/ArrayList" "elementData" "[Ljava/lang/Object;") ∈ tb := tb_of (tb_1 (List.mem_of_getElem? (i := 103) rfl)) rfl
theorem k_104 : (Cond.fieldLink "java/util/ArrayList" 48 "java/util/ArrayList" "size" "I") ∈ tb := tb_of (tb_1 (List.mem_of_getElem? (i := 104) rfl)) rfl
theorem k_105 : (Cond.fieldLink "java/util/AbstractList" 7 "java/util/AbstractList" "modCount" "I") ∈ tb := tb_of (tb_1 (List.mem_of_getElem? (i := 105) rfl)) rfl
theorem k_106 : (Cond.fieldLink "java/util/ArrayList" 63 "java/util/ArrayList" "modCount" "I") ∈ tb := tb_of (tb_1 (List.mem_of_getElem? (i := 106) rfl)) rfl
theorem k_107 : (Cond.sameField "java/util/ArrayList" "java/util/AbstractList" "modCount" "I") ∈ tb := tb_of (tb_1 (List.mem_of_getElem? (i := 107) rfl)) rfl
theorem k_108 : (Cond.lays "java/util/ArrayList" "java/util/ArrayList" "elementData" "[Ljava/lang/Object;") ∈ tb := tb_of (tb_1 (List.mem_of_getElem? (i := 108) rfl)) rfl
theorem k_110 : (Cond.lays "java/util/ArrayList" "java/util/ArrayList" "size" "I") ∈ tb := tb_of (tb_1 (List.mem_of_getElem? (i := 110) rfl)) rfl
theorem k_112 : (Cond.lays "java/util/ArrayList" "java/util/AbstractList" "modCount" "I") ∈ tb := tb_of (tb_1 (List.mem_of_getElem? (i := 112) rfl)) rfl
theorem k_114 : (Cond.superclass "java/util/ArrayList" "java/util/AbstractList") ∈ tb := tb_of (tb_1 (List.mem_of_getElem? (i := 114) rfl)) rfl
theorem k_115 : (Cond.fieldLink "ChipDesk$Parser" 10 "ChipDesk$Parser" "chips" "Ljava/util/ArrayList;") ∈ tb := tb_of (tb_1 (List.mem_of_getElem? (i := 115) rfl)) rfl
theorem k_116 : (Cond.fieldLink "ChipDesk" 34 "ChipDesk$Parser" "chips" "Ljava/util/ArrayList;") ∈ tb := tb_of (tb_1 (List.mem_of_getElem? (i := 116) rfl)) rfl
theorem k_117 : (Cond.fieldLink "ChipDesk$Parser" 20 "ChipDesk$Parser" "text" "LChipDesk$Text;") ∈ tb := tb_of (tb_1 (List.mem_of_getElem? (i := 117) rfl)) rfl
theorem k_118 : (Cond.fieldLink "ChipDesk$Parser" 24 "ChipDesk$Parser" "fault" "LChipDesk$Fault;") ∈ tb := tb_of (tb_1 (List.mem_of_getElem? (i := 118) rfl)) rfl
theorem k_119 : (Cond.fieldLink "ChipDesk$Parser" 16 "ChipDesk$Parser" "at" "I") ∈ tb := tb_of (tb_1 (List.mem_of_getElem? (i := 119) rfl)) rfl
theorem k_120 : (Cond.laysFinal "ChipDesk$Parser" "ChipDesk$Parser" "chips" "Ljava/util/ArrayList;") ∈ tb := tb_of (tb_1 (List.mem_of_getElem? (i := 120) rfl)) rfl
theorem k_122 : (Cond.laysFinal "ChipDesk$Parser" "ChipDesk$Parser" "text" "LChipDesk$Text;") ∈ tb := tb_of (tb_1 (List.mem_of_getElem? (i := 122) rfl)) rfl
theorem k_124 : (Cond.laysFinal "ChipDesk$Parser" "ChipDesk$Parser" "fault" "LChipDesk$Fault;") ∈ tb := tb_of (tb_1 (List.mem_of_getElem? (i := 124) rfl)) rfl
theorem k_126 : (Cond.lays "ChipDesk$Parser" "ChipDesk$Parser" "at" "I") ∈ tb := tb_of (tb_1 (List.mem_of_getElem? (i := 126) rfl)) rfl
theorem k_128 : (Cond.superclass "ChipDesk$Parser" "java/lang/Object") ∈ tb := tb_of (tb_1 (List.mem_of_getElem? (i := 128) rfl)) rfl
theorem k_129 : (Cond.classLink "ChipDesk" 32 "ChipDesk$Checker") ∈ tb := tb_of (tb_1 (List.mem_of_getElem? (i := 129) rfl)) rfl
theorem k_130 : (Cond.instantiable "ChipDesk$Checker" 5) ∈ tb := tb_of (tb_1 (List.mem_of_getElem? (i := 130) rfl)) rfl
theorem k_131 : (Cond.methodLink "ChipDesk" 38 (⟨"ChipDesk$Checker", "<init>", "(Ljava/util/ArrayList;LChipDesk$Fault;)V"⟩ : MethodName)) ∈ tb := tb_of (tb_1 (List.mem_of_getElem? (i := 131) rfl)) rfl
theorem k_132 : (Cond.instanceMethod (⟨"ChipDesk$Checker", "<init>", "(Ljava/util/ArrayList;LChipDesk$Fault;)V"⟩ : MethodName)) ∈ tb := tb_of (tb_1 (List.mem_of_getElem? (i := 132) rfl)) rfl
theorem k_133 : (Cond.code (⟨"ChipDesk$Checker", "<init>", "(Ljava/util/ArrayList;LChipDesk$Fault;)V"⟩ : MethodName) prog_3_method_1_code 3 (Option.none : Option ClassFile.FieldType)) ∈ tb := tb_of (tb_1 (List.mem_of_getElem? (i := 133) rfl)) rfl
theorem k_134 : (Cond.methodLink "ChipDesk$Checker" 1 (⟨"java/lang/Object", "<init>", "()V"⟩ : MethodName)) ∈ tb := tb_of (tb_1 (List.mem_of_getElem? (i := 134) rfl)) rfl
theorem k_135 : (Cond.methodLink "ChipDesk$Checker" 7 (⟨"ChipDesk$Chip", "nand", "()LChipDesk$Chip;"⟩ : MethodName)) ∈ tb := tb_of (tb_1 (List.mem_of_getElem? (i := 135) rfl)) rfl
theorem k_136 : (Cond.static (⟨"ChipDesk$Chip", "nand", "()LChipDesk$Chip;"⟩ : MethodName)) ∈ tb := tb_of (tb_1 (List.mem_of_getElem? (i := 136) rfl)) rfl
theorem k_137 : (Cond.code (⟨"ChipDesk$Chip", "nand", "()LChipDesk$Chip;"⟩ : MethodName) prog_4_method_2_code 1 (Option.some (ClassFile.FieldType.object "ChipDesk$Chip"))) ∈ tb := tb_of (tb_1 (List.mem_of_getElem? (i := 137) rfl)) rfl
theorem k_138 : (Cond.classLink "ChipDesk$Chip" 11 "ChipDesk$Chip") ∈ tb := tb_of (tb_1 (List.mem_of_getElem? (i := 138) rfl)) rfl
theorem k_139 : (Cond.instantiable "ChipDesk$Chip" 9) ∈ tb := tb_of (tb_1 (List.mem_of_getElem? (i := 139) rfl)) rfl
theorem k_140 : (Cond.classLink "ChipDesk$Chip" 42 "ChipDesk$Name") ∈ tb := tb_of (tb_1 (List.mem_of_getElem? (i := 140) rfl)) rfl
theorem k_141 : (Cond.instantiable "ChipDesk$Name" 3) ∈ tb := tb_of (tb_1 (List.mem_of_getElem? (i := 141) rfl)) rfl
theorem k_142 : (Cond.constantLong "ChipDesk$Chip" 44 1315008100) ∈ tb := tb_of (tb_1 (List.mem_of_getElem? (i := 142) rfl)) rfl
theorem k_143 : (Cond.methodLink "ChipDesk$Chip" 48 (⟨"ChipDesk$Name", "<init>", "(JJI)V"⟩ : MethodName)) ∈ tb := tb_of (tb_1 (List.mem_of_getElem? (i := 143) rfl)) rfl
theorem k_144 : (Cond.instanceMethod (⟨"ChipDesk$Name", "<init>", "(JJI)V"⟩ : MethodName)) ∈ tb := tb_of (tb_1 (List.mem_of_getElem? (i := 144) rfl)) rfl
theorem k_145 : (Cond.code (⟨"ChipDesk$Name", "<init>", "(JJI)V"⟩ : MethodName) prog_7_method_1_code 6 (Option.none : Option ClassFile.FieldType)) ∈ tb := tb_of (tb_1 (List.mem_of_getElem? (i := 145) rfl)) rfl
theorem k_146 : (Cond.methodLink "ChipDesk$Name" 1 (⟨"java/lang/Object", "<init>", "()V"⟩ : MethodName)) ∈ tb := tb_of (tb_1 (List.mem_of_getElem? (i := 146) rfl)) rfl
theorem k_147 : (Cond.fieldLink "ChipDesk$Name" 7 "ChipDesk$Name" "head" "J") ∈ tb := tb_of (tb_1 (List.mem_of_getElem? (i := 147) rfl)) rfl
theorem k_148 : (Cond.fieldLink "ChipDesk$Name" 13 "ChipDesk$Name" "tail" "J") ∈ tb := tb_of (tb_1 (List.mem_of_getElem? (i := 148) rfl)) rfl
theorem k_149 : (Cond.fieldLink "ChipDesk$Name" 16 "ChipDesk$Name" "place" "I") ∈ tb := tb_of (tb_1 (List.mem_of_getElem? (i := 149) rfl)) rfl
theorem k_150 : (Cond.fieldLink "ChipDesk$Checker" 57 "ChipDesk$Name" "place" "I") ∈ tb := tb_of (tb_1 (List.mem_of_getElem? (i := 150) rfl)) rfl
theorem k_151 : (Cond.fieldLink "ChipDesk$Parser" 146 "ChipDesk$Name" "place" "I") ∈ tb := tb_of (tb_1 (List.mem_of_getElem? (i := 151) rfl)) rfl
theorem k_152 : (Cond.laysFinal "ChipDesk$Name" "ChipDesk$Name" "head" "J") ∈ tb := tb_of (tb_1 (List.mem_of_getElem? (i := 152) rfl)) rfl
theorem k_154 : (Cond.laysFinal "ChipDesk$Name" "ChipDesk$Name" "tail" "J") ∈ tb := tb_of (tb_1 (List.mem_of_getElem? (i := 154) rfl)) rfl
theorem k_156 : (Cond.laysFinal "ChipDesk$Name" "ChipDesk$Name" "place" "I") ∈ tb := tb_of (tb_1 (List.mem_of_getElem? (i := 156) rfl)) rfl
theorem k_158 : (Cond.superclass "ChipDesk$Name" "java/lang/Object") ∈ tb := tb_of (tb_1 (List.mem_of_getElem? (i := 158) rfl)) rfl
theorem k_159 : (Cond.methodLink "ChipDesk$Chip" 51 (⟨"ChipDesk$Chip", "<init>", "(LChipDesk$Name;II)V"⟩ : MethodName)) ∈ tb := tb_of (tb_1 (List.mem_of_getElem? (i := 159) rfl)) rfl
theorem k_160 : (Cond.instanceMethod (⟨"ChipDesk$Chip", "<init>", "(LChipDesk$Name;II)V"⟩ : MethodName)) ∈ tb := tb_of (tb_1 (List.mem_of_getElem? (i := 160) rfl)) rfl
theorem k_161 : (Cond.code (⟨"ChipDesk$Chip", "<init>", "(LChipDesk$Name;II)V"⟩ : MethodName) prog_4_method_1_code 4 (Option.none : Option ClassFile.FieldType)) ∈ tb := tb_of (tb_1 (List.mem_of_getElem? (i := 161) rfl)) rfl
theorem k_162 : (Cond.methodLink "ChipDesk$Chip" 1 (⟨"java/lang/Object", "<init>", "()V"⟩ : MethodName)) ∈ tb := tb_of (tb_1 (List.mem_of_getElem? (i := 162) rfl)) rfl
theorem k_163 : (Cond.classLink "ChipDesk$Chip" 7 "java/util/ArrayList") ∈ tb := tb_of (tb_1 (List.mem_of_getElem? (i := 163) rfl)) rfl
theorem k_164 : (Cond.methodLink "ChipDesk$Chip" 9 (⟨"java/util/ArrayList", "<init>", "()V"⟩ : MethodName)) ∈ tb := tb_of (tb_1 (List.mem_of_getElem? (i := 164) rfl)) rfl
theorem k_165 : (Cond.fieldLink "ChipDesk$Chip" 32 "ChipDesk$Chip" "name" "LChipDesk$Name;") ∈ tb := tb_of (tb_1 (List.mem_of_getElem? (i := 165) rfl)) rfl
theorem k_166 : (Cond.fieldLink "ChipDesk$Checker" 47 "ChipDesk$Chip" "name" "LChipDesk$Name;") ∈ tb := tb_of (tb_1 (List.mem_of_getElem? (i := 166) rfl)) rfl
theorem k_167 : (Cond.fieldLink "ChipDesk$Chip" 36 "ChipDesk$Chip" "gate" "I") ∈ tb := tb_of (tb_1 (List.mem_of_getElem? (i := 167) rfl)) rfl
theorem k_168 : (Cond.fieldLink "ChipDesk$Board" 128 "ChipDesk$Chip" "gate" "I") ∈ tb := tb_of (tb_1 (List.mem_of_getElem? (i := 168) rfl)) rfl
theorem k_169 : (Cond.fieldLink "ChipDesk$Checker" 194 "ChipDesk$Chip" "gate" "I") ∈ tb := tb_of (tb_1 (List.mem_of_getElem? (i := 169) rfl)) rfl
theorem k_170 : (Cond.fieldLink "ChipDesk$Chip" 39 "ChipDesk$Chip" "index" "I") ∈ tb := tb_of (tb_1 (List.mem_of_getElem? (i := 170) rfl)) rfl
theorem k_171 : (Cond.fieldLink "ChipDesk$Checker" 197 "ChipDesk$Chip" "index" "I") ∈ tb := tb_of (tb_1 (List.mem_of_getElem? (i := 171) rfl)) rfl
theorem k_172 : (Cond.fieldLink "ChipDesk$Chip" 10 "ChipDesk$Chip" "pins" "Ljava/util/ArrayList;") ∈ tb := tb_of (tb_1 (List.mem_of_getElem? (i := 172) rfl)) rfl
theorem k_173 : (Cond.fieldLink "ChipDesk$Checker" 103 "ChipDesk$Chip" "pins" "Ljava/util/ArrayList;") ∈ tb := tb_of (tb_1 (List.mem_of_getElem? (i := 173) rfl)) rfl
theorem k_174 : (Cond.fieldLink "ChipDesk$Parser" 82 "ChipDesk$Chip" "pins" "Ljava/util/ArrayList;") ∈ tb := tb_of (tb_1 (List.mem_of_getElem? (i := 174) rfl)) rfl
theorem k_175 : (Cond.fieldLink "ChipDesk$Board" 192 "ChipDesk$Chip" "pins" "Ljava/util/ArrayList;") ∈ tb := tb_of (tb_1 (List.mem_of_getElem? (i := 175) rfl)) rfl
theorem k_176 : (Cond.fieldLink "ChipDesk$Chip" 16 "ChipDesk$Chip" "inner" "Ljava/util/ArrayList;") ∈ tb := tb_of (tb_1 (List.mem_of_getElem? (i := 176) rfl)) rfl
theorem k_177 : (Cond.fieldLink "ChipDesk$Parser" 158 "ChipDesk$Chip" "inner" "Ljava/util/ArrayList;") ∈ tb := tb_of (tb_1 (List.mem_of_getElem? (i := 177) rfl)) rfl
theorem k_178 : (Cond.fieldLink "ChipDesk$Chip" 19 "ChipDesk$Chip" "parts" "Ljava/util/ArrayList;") ∈ tb := tb_of (tb_1 (List.mem_of_getElem? (i := 178) rfl)) rfl
theorem k_179 : (Cond.fieldLink "ChipDesk$Checker" 89 "ChipDesk$Chip" "parts" "Ljava/util/ArrayList;") ∈ tb := tb_of (tb_1 (List.mem_of_getElem? (i := 179) rfl)) rfl
theorem k_180 : (Cond.fieldLink "ChipDesk$Board" 102 "ChipDesk$Chip" "parts" "Ljava/util/ArrayList;") ∈ tb := tb_of (tb_1 (List.mem_of_getElem? (i := 180) rfl)) rfl
theorem k_181 : (Cond.fieldLink "ChipDesk$Parser" 103 "ChipDesk$Chip" "parts" "Ljava/util/ArrayList;") ∈ tb := tb_of (tb_1 (List.mem_of_getElem? (i := 181) rfl)) rfl
theorem k_182 : (Cond.fieldLink "ChipDesk$Chip" 22 "ChipDesk$Chip" "inPins" "I") ∈ tb := tb_of (tb_1 (List.mem_of_getElem? (i := 182) rfl)) rfl
theorem k_183 : (Cond.fieldLink "ChipDesk$Board" 189 "ChipDesk$Chip" "inPins" "I") ∈ tb := tb_of (tb_1 (List.mem_of_getElem? (i := 183) rfl)) rfl
theorem k_184 : (Cond.fieldLink "ChipDesk$Chip" 26 "ChipDesk$Chip" "inBits" "I") ∈ tb := tb_of (tb_1 (List.mem_of_getElem? (i := 184) rfl)) rfl
theorem k_185 : (Cond.fieldLink "ChipDesk$Board" 74 "ChipDesk$Chip" "inBits" "I") ∈ tb := tb_of (tb_1 (List.mem_of_getElem? (i := 185) rfl)) rfl
theorem k_186 : (Cond.fieldLink "ChipDesk$Chip" 29 "ChipDesk$Chip" "bits" "I") ∈ tb := tb_of (tb_1 (List.mem_of_getElem? (i := 186) rfl)) rfl
theorem k_187 : (Cond.fieldLink "ChipDesk$Board" 99 "ChipDesk$Chip" "bits" "I") ∈ tb := tb_of (tb_1 (List.mem_of_getElem? (i := 187) rfl)) rfl
theorem k_188 : (Cond.laysFinal "ChipDesk$Chip" "ChipDesk$Chip" "name" "LChipDesk$Name;") ∈ tb := tb_of (tb_1 (List.mem_of_getElem? (i := 188) rfl)) rfl
theorem k_190 : (Cond.laysFinal "ChipDesk$Chip" "ChipDesk$Chip" "gate" "I") ∈ tb := tb_of (tb_1 (List.mem_of_getElem? (i := 190) rfl)) rfl
theorem k_192 : (Cond.laysFinal "ChipDesk$Chip" "ChipDesk$Chip" "index" "I") ∈ tb := tb_of (tb_1 (List.mem_of_getElem? (i := 192) rfl)) rfl
theorem k_194 : (Cond.laysFinal "ChipDesk$Chip" "ChipDesk$Chip" "pins" "Ljava/util/ArrayList;") ∈ tb := tb_of (tb_1 (List.mem_of_getElem? (i := 194) rfl)) rfl
theorem k_196 : (Cond.laysFinal "ChipDesk$Chip" "ChipDesk$Chip" "inner" "Ljava/util/ArrayList;") ∈ tb := tb_of (tb_1 (List.mem_of_getElem? (i := 196) rfl)) rfl
theorem k_198 : (Cond.laysFinal "ChipDesk$Chip" "ChipDesk$Chip" "parts" "Ljava/util/ArrayList;") ∈ tb := tb_of (tb_1 (List.mem_of_getElem? (i := 198) rfl)) rfl
theorem k_200 : (Cond.lays "ChipDesk$Chip" "ChipDesk$Chip" "inPins" "I") ∈ tb := tb_of (tb_1 (List.mem_of_getElem? (i := 200) rfl)) rfl
theorem k_202 : (Cond.lays "ChipDesk$Chip" "ChipDesk$Chip" "inBits" "I") ∈ tb := tb_of (tb_1 (List.mem_of_getElem? (i := 202) rfl)) rfl
theorem k_204 : (Cond.lays "ChipDesk$Chip" "ChipDesk$Chip" "bits" "I") ∈ tb := tb_of (tb_1 (List.mem_of_getElem? (i := 204) rfl)) rfl
theorem k_206 : (Cond.superclass "ChipDesk$Chip" "java/lang/Object") ∈ tb := tb_of (tb_1 (List.mem_of_getElem? (i := 206) rfl)) rfl
theorem k_207 : (Cond.classLink "ChipDesk$Chip" 54 "ChipDesk$Wire") ∈ tb := tb_of (tb_1 (List.mem_of_getElem? (i := 207) rfl)) rfl
theorem k_208 : (Cond.instantiable "ChipDesk$Wire" 7) ∈ tb := tb_of (tb_1 (List.mem_of_getElem? (i := 208) rfl)) rfl
theorem k_209 : (Cond.constantLong "ChipDesk$Chip" 56 97) ∈ tb := tb_of (tb_1 (List.mem_of_getElem? (i := 209) rfl)) rfl
theorem k_210 : (Cond.methodLink "ChipDesk$Chip" 58 (⟨"ChipDesk$Wire", "<init>", "(LChipDesk$Name;I)V"⟩ : MethodName)) ∈ tb := tb_of (tb_1 (List.mem_of_getElem? (i := 210) rfl)) rfl
theorem k_211 : (Cond.instanceMethod (⟨"ChipDesk$Wire", "<init>", "(LChipDesk$Name;I)V"⟩ : MethodName)) ∈ tb := tb_of (tb_1 (List.mem_of_getElem? (i := 211) rfl)) rfl
theorem k_212 : (Cond.code (⟨"ChipDesk$Wire", "<init>", "(LChipDesk$Name;I)V"⟩ : MethodName) prog_12_method_1_code 3 (Option.none : Option ClassFile.FieldType)) ∈ tb := tb_of (tb_1 (List.mem_of_getElem? (i := 212) rfl)) rfl
theorem k_213 : (Cond.methodLink "ChipDesk$Wire" 1 (⟨"java/lang/Object", "<init>", "()V"⟩ : MethodName)) ∈ tb := tb_of (tb_1 (List.mem_of_getElem? (i := 213) rfl)) rfl
theorem k_214 : (Cond.fieldLink "ChipDesk$Wire" 28 "ChipDesk$Wire" "name" "LChipDesk$Name;") ∈ tb := tb_of (tb_1 (List.mem_of_getElem? (i := 214) rfl)) rfl
theorem k_215 : (Cond.fieldLink "ChipDesk$Chip" 95 "ChipDesk$Wire" "name" "LChipDesk$Name;") ∈ tb := tb_of (tb_1 (List.mem_of_getElem? (i := 215) rfl)) rfl
theorem k_216 : (Cond.fieldLink "ChipDesk$Checker" 147 "ChipDesk$Wire" "name" "LChipDesk$Name;") ∈ tb := tb_of (tb_1 (List.mem_of_getElem? (i := 216) rfl)) rfl
theorem k_217 : (Cond.fieldLink "ChipDesk$Wire" 32 "ChipDesk$Wire" "kind" "I") ∈ tb := tb_of (tb_1 (List.mem_of_getElem? (i := 217) rfl)) rfl
theorem k_218 : (Cond.fieldLink "ChipDesk$Chip" 84 "ChipDesk$Wire" "kind" "I") ∈ tb := tb_of (tb_1 (List.mem_of_getElem? (i := 218) rfl)) rfl
theorem k_219 : (Cond.fieldLink "ChipDesk$Checker" 128 "ChipDesk$Wire" "kind" "I") ∈ tb := tb_of (tb_1 (List.mem_of_getElem? (i := 219) rfl)) rfl
theorem k_220 : (Cond.fieldLink "ChipDesk$Board" 170 "ChipDesk$Wire" "kind" "I") ∈ tb := tb_of (tb_1 (List.mem_of_getElem? (i := 220) rfl)) rfl
theorem k_221 : (Cond.fieldLink "ChipDesk$Wire" 7 "ChipDesk$Wire" "width" "I") ∈ tb := tb_of (tb_1 (List.mem_of_getElem? (i := 221) rfl)) rfl
theorem k_222 : (Cond.fieldLink "ChipDesk$Checker" 137 "ChipDesk$Wire" "width" "I") ∈ tb := tb_of (tb_1 (List.mem_of_getElem? (i := 222) rfl)) rfl
theorem k_223 : (Cond.fieldLink "ChipDesk$Board" 154 "ChipDesk$Wire" "width" "I") ∈ tb := tb_of (tb_1 (List.mem_of_getElem? (i := 223) rfl)) rfl
theorem k_224 : (Cond.fieldLink "ChipDesk$Chip" 109 "ChipDesk$Wire" "width" "I") ∈ tb := tb_of (tb_1 (List.mem_of_getElem? (i := 224) rfl)) rfl
theorem k_225 : (Cond.fieldLink "ChipDesk$Wire" 15 "ChipDesk$Wire" "badWidthPlace" "I") ∈ tb := tb_of (tb_1 (List.mem_of_getElem? (i := 225) rfl)) rfl
theorem k_226 : (Cond.fieldLink "ChipDesk$Checker" 148 "ChipDesk$Wire" "badWidthPlace" "I") ∈ tb := tb_of (tb_1 (List.mem_of_getElem? (i := 226) rfl)) rfl
theorem k_227 : (Cond.fieldLink "ChipDesk$Wire" 18 "ChipDesk$Wire" "offset" "I") ∈ tb := tb_of (tb_1 (List.mem_of_getElem? (i := 227) rfl)) rfl
theorem k_228 : (Cond.fieldLink "ChipDesk$Board" 142 "ChipDesk$Wire" "offset" "I") ∈ tb := tb_of (tb_1 (List.mem_of_getElem? (i := 228) rfl)) rfl
theorem k_229 : (Cond.fieldLink "ChipDesk$Chip" 106 "ChipDesk$Wire" "offset" "I") ∈ tb := tb_of (tb_1 (List.mem_of_getElem? (i := 229) rfl)) rfl
theorem k_230 : (Cond.fieldLink "ChipDesk$Wire" 21 "ChipDesk$Wire" "linkedBits" "I") ∈ tb := tb_of (tb_1 (List.mem_of_getElem? (i := 230) rfl)) rfl
theorem k_231 : (Cond.fieldLink "ChipDesk$Chip" 100 "ChipDesk$Wire" "linkedBits" "I") ∈ tb := tb_of (tb_1 (List.mem_of_getElem? (i := 231) rfl)) rfl
theorem k_232 : (Cond.fieldLink "ChipDesk$Checker" 171 "ChipDesk$Wire" "linkedBits" "I") ∈ tb := tb_of (tb_1 (List.mem_of_getElem? (i := 232) rfl)) rfl
theorem k_233 : (Cond.fieldLink "ChipDesk$Wire" 24 "ChipDesk$Wire" "given" "Z") ∈ tb := tb_of (tb_1 (List.mem_of_getElem? (i := 233) rfl)) rfl
theorem k_234 : (Cond.fieldLink "ChipDesk$Checker" 133 "ChipDesk$Wire" "given" "Z") ∈ tb := tb_of (tb_1 (List.mem_of_getElem? (i := 234) rfl)) rfl
theorem k_235 : (Cond.laysFinal "ChipDesk$Wire" "ChipDesk$Wire" "name" "LChipDesk$Name;") ∈ tb := tb_of (tb_1 (List.mem_of_getElem? (i := 235) rfl)) rfl
theorem k_237 : (Cond.laysFinal "ChipDesk$Wire" "ChipDesk$Wire" "kind" "I") ∈ tb := tb_of (tb_1 (List.mem_of_getElem? (i := 237) rfl)) rfl
theorem k_239 : (Cond.lays "ChipDesk$Wire" "ChipDesk$Wire" "width" "I") ∈ tb := tb_of (tb_1 (List.mem_of_getElem? (i := 239) rfl)) rfl
theorem k_241 : (Cond.lays "ChipDesk$Wire" "ChipDesk$Wire" "badWidthPlace" "I") ∈ tb := tb_of (tb_2 (List.mem_of_getElem? (i := 1) rfl)) rfl
theorem k_243 : (Cond.lays "ChipDesk$Wire" "ChipDesk$Wire" "offset" "I") ∈ tb := tb_of (tb_2 (List.mem_of_getElem? (i := 3) rfl)) rfl
theorem k_245 : (Cond.lays "ChipDesk$Wire" "ChipDesk$Wire" "linkedBits" "I") ∈ tb := tb_of (tb_2 (List.mem_of_getElem? (i := 5) rfl)) rfl
theorem k_247 : (Cond.lays "ChipDesk$Wire" "ChipDesk$Wire" "given" "Z") ∈ tb := tb_of (tb_2 (List.mem_of_getElem? (i := 7) rfl)) rfl
theorem k_249 : (Cond.superclass "ChipDesk$Wire" "java/lang/Object") ∈ tb := tb_of (tb_2 (List.mem_of_getElem? (i := 9) rfl)) rfl
theorem k_250 : (Cond.methodLink "ChipDesk$Chip" 61 (⟨"ChipDesk$Chip", "addPin", "(LChipDesk$Wire;)V"⟩ : MethodName)) ∈ tb := tb_of (tb_2 (List.mem_of_getElem? (i := 10) rfl)) rfl
theorem k_251 : (Cond.instanceMethod (⟨"ChipDesk$Chip", "addPin", "(LChipDesk$Wire;)V"⟩ : MethodName)) ∈ tb := tb_of (tb_2 (List.mem_of_getElem? (i := 11) rfl)) rfl
theorem k_252 : (Cond.selects "ChipDesk$Chip" (⟨"ChipDesk$Chip", "addPin", "(LChipDesk$Wire;)V"⟩ : MethodName) (⟨"ChipDesk$Chip", "addPin", "(LChipDesk$Wire;)V"⟩ : MethodName)) ∈ tb := tb_of (tb_2 (List.mem_of_getElem? (i := 12) rfl)) rfl
theorem k_253 : (Cond.code (⟨"ChipDesk$Chip", "addPin", "(LChipDesk$Wire;)V"⟩ : MethodName) prog_4_method_5_code 2 (Option.none : Option ClassFile.FieldType)) ∈ tb := tb_of (tb_2 (List.mem_of_getElem? (i := 13) rfl)) rfl
theorem k_254 : (Cond.methodLink "ChipDesk$Chip" 80 (⟨"java/util/ArrayList", "add", "(Ljava/lang/Object;)Z"⟩ : MethodName)) ∈ tb := tb_of (tb_2 (List.mem_of_getElem? (i := 14) rfl)) rfl
theorem k_255 : (Cond.instanceMethod (⟨"java/util/ArrayList", "add", "(Ljava/lang/Object;)Z"⟩ : MethodName)) ∈ tb := tb_of (tb_2 (List.mem_of_getElem? (i := 15) rfl)) rfl
theorem k_256 : (Cond.selects "java/util/ArrayList" (⟨"java/util/ArrayList", "add", "(Ljava/lang/Object;)Z"⟩ : MethodName) (⟨"java/util/ArrayList", "add", "(Ljava/lang/Object;)Z"⟩ : MethodName)) ∈ tb := tb_of (tb_2 (List.mem_of_getElem? (i := 16) rfl)) rfl
theorem k_257 : (Cond.code (⟨"java/util/ArrayList", "add", "(Ljava/lang/Object;)Z"⟩ : MethodName) prog_22_method_25_code 2 (Option.some ClassFile.FieldType.boolean)) ∈ tb := tb_of (tb_2 (List.mem_of_getElem? (i := 17) rfl)) rfl
theorem k_258 : (Cond.methodLink "java/util/ArrayList" 131 (⟨"java/util/ArrayList", "add", "(Ljava/lang/Object;[Ljava/lang/Object;I)V"⟩ : MethodName)) ∈ tb := tb_of (tb_2 (List.mem_of_getElem? (i := 18) rfl)) rfl
theorem k_260 : (Cond.instanceMethod (⟨"java/util/ArrayList", "add", "(Ljava/lang/Object;[Ljava/lang/Object;I)V"⟩ : MethodName)) ∈ tb := tb_of (tb_2 (List.mem_of_getElem? (i := 20) rfl)) rfl
theorem k_261 : (Cond.code (⟨"java/util/ArrayList", "add", "(Ljava/lang/Object;[Ljava/lang/Object;I)V"⟩ : MethodName) prog_22_method_24_code 4 (Option.none : Option ClassFile.FieldType)) ∈ tb := tb_of (tb_2 (List.mem_of_getElem? (i := 21) rfl)) rfl
theorem k_262 : (Cond.methodLink "java/util/ArrayList" 129 (⟨"java/util/ArrayList", "grow", "()[Ljava/lang/Object;"⟩ : MethodName)) ∈ tb := tb_of (tb_2 (List.mem_of_getElem? (i := 22) rfl)) rfl
theorem k_264 : (Cond.instanceMethod (⟨"java/util/ArrayList", "grow", "()[Ljava/lang/Object;"⟩ : MethodName)) ∈ tb := tb_of (tb_2 (List.mem_of_getElem? (i := 24) rfl)) rfl
theorem k_265 : (Cond.code (⟨"java/util/ArrayList", "grow", "()[Ljava/lang/Object;"⟩ : MethodName) prog_22_method_7_code 1 (Option.some (ClassFile.FieldType.array (ClassFile.FieldType.object "java/lang/Object")))) ∈ tb := tb_of (tb_2 (List.mem_of_getElem? (i := 25) rfl)) rfl
theorem k_266 : (Cond.methodLink "java/util/ArrayList" 69 (⟨"java/util/ArrayList", "grow", "(I)[Ljava/lang/Object;"⟩ : MethodName)) ∈ tb := tb_of (tb_2 (List.mem_of_getElem? (i := 26) rfl)) rfl
theorem k_268 : (Cond.instanceMethod (⟨"java/util/ArrayList", "grow", "(I)[Ljava/lang/Object;"⟩ : MethodName)) ∈ tb := tb_of (tb_2 (List.mem_of_getElem? (i := 28) rfl)) rfl
theorem k_269 : (Cond.code (⟨"java/util/ArrayList", "grow", "(I)[Ljava/lang/Object;"⟩ : MethodName) prog_22_method_6_code 4 (Option.some (ClassFile.FieldType.array (ClassFile.FieldType.object "java/lang/Object")))) ∈ tb := tb_of (tb_2 (List.mem_of_getElem? (i := 29) rfl)) rfl
theorem k_270 : (Cond.methodLink "java/util/ArrayList" 73 (⟨"jdk/internal/util/ArraysSupport", "newLength", "(III)I"⟩ : MethodName)) ∈ tb := tb_of (tb_2 (List.mem_of_getElem? (i := 30) rfl)) rfl
theorem k_271 : (Cond.static (⟨"jdk/internal/util/ArraysSupport", "newLength", "(III)I"⟩ : MethodName)) ∈ tb := tb_of (tb_2 (List.mem_of_getElem? (i := 31) rfl)) rfl
theorem k_272 : (Cond.code (⟨"jdk/internal/util/ArraysSupport", "newLength", "(III)I"⟩ : MethodName) prog_29_method_27_code 4 (Option.some ClassFile.FieldType.int)) ∈ tb := tb_of (tb_2 (List.mem_of_getElem? (i := 32) rfl)) rfl
theorem k_273 : (Cond.methodLink "jdk/internal/util/ArraysSupport" 194 (⟨"java/lang/Math", "max", "(II)I"⟩ : MethodName)) ∈ tb := tb_of (tb_2 (List.mem_of_getElem? (i := 33) rfl)) rfl
theorem k_274 : (Cond.static (⟨"java/lang/Math", "max", "(II)I"⟩ : MethodName)) ∈ tb := tb_of (tb_2 (List.mem_of_getElem? (i := 34) rfl)) rfl
theorem k_275 : (Cond.code (⟨"java/lang/Math", "max", "(II)I"⟩ : MethodName) prog_18_method_65_code 2 (Option.some ClassFile.FieldType.int)) ∈ tb := tb_of (tb_2 (List.mem_of_getElem? (i := 35) rfl)) rfl
theorem k_276 : (Cond.constant "jdk/internal/util/ArraysSupport" 200 2147483639) ∈ tb := tb_of (tb_2 (List.mem_of_getElem? (i := 36) rfl)) rfl
theorem k_277 : (Cond.methodLink "jdk/internal/util/ArraysSupport" 201 (⟨"jdk/internal/util/ArraysSupport", "hugeLength", "(II)I"⟩ : MethodName)) ∈ tb := tb_of (tb_2 (List.mem_of_getElem? (i := 37) rfl)) rfl
theorem k_278 : (Cond.static (⟨"jdk/internal/util/ArraysSupport", "hugeLength", "(II)I"⟩ : MethodName)) ∈ tb := tb_of (tb_2 (List.mem_of_getElem? (i := 38) rfl)) rfl
theorem k_279 : (Cond.code (⟨"jdk/internal/util/ArraysSupport", "hugeLength", "(II)I"⟩ : MethodName) prog_29_method_28_code 3 (Option.some ClassFile.FieldType.int)) ∈ tb := tb_of (tb_2 (List.mem_of_getElem? (i := 39) rfl)) rfl
theorem k_280 : (Cond.methodLink "java/util/ArrayList" 66 (⟨"java/util/Arrays", "copyOf", "([Ljava/lang/Object;I)[Ljava/lang/Object;"⟩ : MethodName)) ∈ tb := tb_of (tb_2 (List.mem_of_getElem? (i := 40) rfl)) rfl
theorem k_281 : (Cond.static (⟨"java/util/Arrays", "copyOf", "([Ljava/lang/Object;I)[Ljava/lang/Object;"⟩ : MethodName)) ∈ tb := tb_of (tb_2 (List.mem_of_getElem? (i := 41) rfl)) rfl
theorem k_282 : (Cond.code (⟨"java/util/Arrays", "copyOf", "([Ljava/lang/Object;I)[Ljava/lang/Object;"⟩ : MethodName) prog_23_method_119_code 2 (Option.some (ClassFile.FieldType.array (ClassFile.FieldType.object "java/lang/Object")))) ∈ tb := tb_of (tb_2 (List.mem_of_getElem? (i := 42) rfl)) rfl
theorem k_283 : (Cond.methodLink "java/util/Arrays" 86 (⟨"java/lang/Object", "getClass", "()Ljava/lang/Class;"⟩ : MethodName)) ∈ tb := tb_of (tb_2 (List.mem_of_getElem? (i := 43) rfl)) rfl
theorem k_284 : (Cond.instanceMethod (⟨"java/lang/Object", "getClass", "()Ljava/lang/Class;"⟩ : MethodName)) ∈ tb := tb_of (tb_2 (List.mem_of_getElem? (i := 44) rfl)) rfl
theorem k_285 : (Cond.sameMethod "java/lang/Object" "java/lang/Object" "getClass" "()Ljava/lang/Class;") ∈ tb := tb_of (tb_2 (List.mem_of_getElem? (i := 45) rfl)) rfl
theorem k_286 : (Cond.selects "ChipDesk" (⟨"java/lang/Object", "getClass", "()Ljava/lang/Class;"⟩ : MethodName) (⟨"java/lang/Object", "getClass", "()Ljava/lang/Class;"⟩ : MethodName)) ∈ tb := tb_of (tb_2 (List.mem_of_getElem? (i := 46) rfl)) rfl
theorem k_287 : (Cond.selects "ChipDesk$Board" (⟨"java/lang/Object", "getClass", "()Ljava/lang/Class;"⟩ : MethodName) (⟨"java/lang/Object", "getClass", "()Ljava/lang/Class;"⟩ : MethodName)) ∈ tb := tb_of (tb_2 (List.mem_of_getElem? (i := 47) rfl)) rfl
theorem k_288 : (Cond.selects "ChipDesk$Checker" (⟨"java/lang/Object", "getClass", "()Ljava/lang/Class;"⟩ : MethodName) (⟨"java/lang/Object", "getClass", "()Ljava/lang/Class;"⟩ : MethodName)) ∈ tb := tb_of (tb_2 (List.mem_of_getElem? (i := 48) rfl)) rfl
theorem k_289 : (Cond.selects "ChipDesk$Chip" (⟨"java/lang/Object", "getClass", "()Ljava/lang/Class;"⟩ : MethodName) (⟨"java/lang/Object", "getClass", "()Ljava/lang/Class;"⟩ : MethodName)) ∈ tb := tb_of (tb_2 (List.mem_of_getElem? (i := 49) rfl)) rfl
theorem k_290 : (Cond.selects "ChipDesk$Fault" (⟨"java/lang/Object", "getClass", "()Ljava/lang/Class;"⟩ : MethodName) (⟨"java/lang/Object", "getClass", "()Ljava/lang/Class;"⟩ : MethodName)) ∈ tb := tb_of (tb_2 (List.mem_of_getElem? (i := 50) rfl)) rfl
theorem k_291 : (Cond.selects "ChipDesk$Link" (⟨"java/lang/Object", "getClass", "()Ljava/lang/Class;"⟩ : MethodName) (⟨"java/lang/Object", "getClass", "()Ljava/lang/Class;"⟩ : MethodName)) ∈ tb := tb_of (tb_2 (List.mem_of_getElem? (i := 51) rfl)) rfl
theorem k_292 : (Cond.selects "ChipDesk$Name" (⟨"java/lang/Object", "getClass", "()Ljava/lang/Class;"⟩ : MethodName) (⟨"java/lang/Object", "getClass", "()Ljava/lang/Class;"⟩ : MethodName)) ∈ tb := tb_of (tb_2 (List.mem_of_getElem? (i := 52) rfl)) rfl
theorem k_293 : (Cond.selects "ChipDesk$Parser" (⟨"java/lang/Object", "getClass", "()Ljava/lang/Class;"⟩ : MethodName) (⟨"java/lang/Object", "getClass", "()Ljava/lang/Class;"⟩ : MethodName)) ∈ tb := tb_of (tb_2 (List.mem_of_getElem? (i := 53) rfl)) rfl
theorem k_294 : (Cond.selects "ChipDesk$Part" (⟨"java/lang/Object", "getClass", "()Ljava/lang/Class;"⟩ : MethodName) (⟨"java/lang/Object", "getClass", "()Ljava/lang/Class;"⟩ : MethodName)) ∈ tb := tb_of (tb_2 (List.mem_of_getElem? (i := 54) rfl)) rfl
theorem k_295 : (Cond.selects "ChipDesk$Side" (⟨"java/lang/Object", "getClass", "()Ljava/lang/Class;"⟩ : MethodName) (⟨"java/lang/Object", "getClass", "()Ljava/lang/Class;"⟩ : MethodName)) ∈ tb := tb_of (tb_2 (List.mem_of_getElem? (i := 55) rfl)) rfl
theorem k_296 : (Cond.selects "ChipDesk$Text" (⟨"java/lang/Object", "getClass", "()Ljava/lang/Class;"⟩ : MethodName) (⟨"java/lang/Object", "getClass", "()Ljava/lang/Class;"⟩ : MethodName)) ∈ tb := tb_of (tb_2 (List.mem_of_getElem? (i := 56) rfl)) rfl
theorem k_297 : (Cond.selects "ChipDesk$Wire" (⟨"java/lang/Object", "getClass", "()Ljava/lang/Class;"⟩ : MethodName) (⟨"java/lang/Object", "getClass", "()Ljava/lang/Class;"⟩ : MethodName)) ∈ tb := tb_of (tb_2 (List.mem_of_getElem? (i := 57) rfl)) rfl
theorem k_298 : (Cond.selects "ChipDeskModel" (⟨"java/lang/Object", "getClass", "()Ljava/lang/Class;"⟩ : MethodName) (⟨"java/lang/Object", "getClass", "()Ljava/lang/Class;"⟩ : MethodName)) ∈ tb := tb_of (tb_2 (List.mem_of_getElem? (i := 58) rfl)) rfl
theorem k_299 : (Cond.selects "java/util/ArrayList" (⟨"java/lang/Object", "getClass", "()Ljava/lang/Class;"⟩ : MethodName) (⟨"java/lang/Object", "getClass", "()Ljava/lang/Class;"⟩ : MethodName)) ∈ tb := tb_of (tb_2 (List.mem_of_getElem? (i := 59) rfl)) rfl
theorem k_301 : (Cond.methodLink "java/util/Arrays" 300 (⟨"java/util/Arrays", "copyOf", "([Ljava/lang/Object;ILjava/lang/Class;)[Ljava/lang/Object;"⟩ : MethodName)) ∈ tb := tb_of (tb_2 (List.mem_of_getElem? (i := 61) rfl)) rfl
theorem k_302 : (Cond.static (⟨"java/util/Arrays", "copyOf", "([Ljava/lang/Object;ILjava/lang/Class;)[Ljava/lang/Object;"⟩ : MethodName)) ∈ tb := tb_of (tb_2 (List.mem_of_getElem? (i := 62) rfl)) rfl
theorem k_303 : (Cond.code (⟨"java/util/Arrays", "copyOf", "([Ljava/lang/Object;ILjava/lang/Class;)[Ljava/lang/Object;"⟩ : MethodName) prog_23_method_120_code 4 (Option.some (ClassFile.FieldType.array (ClassFile.FieldType.object "java/lang/Object")))) ∈ tb := tb_of (tb_2 (List.mem_of_getElem? (i := 63) rfl)) rfl
theorem k_304 : (Cond.classLink "java/util/Arrays" 110 "[Ljava/lang/Object;") ∈ tb := tb_of (tb_2 (List.mem_of_getElem? (i := 64) rfl)) rfl
theorem k_306 : (Cond.classLink "java/util/Arrays" 2 "java/lang/Object") ∈ tb := tb_of (tb_2 (List.mem_of_getElem? (i := 66) rfl)) rfl
theorem k_307 : (Cond.methodLink "java/util/Arrays" 304 (⟨"java/lang/Math", "min", "(II)I"⟩ : MethodName)) ∈ tb := tb_of (tb_2 (List.mem_of_getElem? (i := 67) rfl)) rfl
theorem k_308 : (Cond.static (⟨"java/lang/Math", "min", "(II)I"⟩ : MethodName)) ∈ tb := tb_of (tb_2 (List.mem_of_getElem? (i := 68) rfl)) rfl
theorem k_309 : (Cond.code (⟨"java/lang/Math", "min", "(II)I"⟩ : MethodName) prog_18_method_69_code 2 (Option.some ClassFile.FieldType.int)) ∈ tb := tb_of (tb_2 (List.mem_of_getElem? (i := 69) rfl)) rfl
theorem k_310 : (Cond.methodLink "java/util/Arrays" 150 (⟨"java/lang/System", "arraycopy", "(Ljava/lang/Object;ILjava/lang/Object;II)V"⟩ : MethodName)) ∈ tb := tb_of (tb_2 (List.mem_of_getElem? (i := 70) rfl)) rfl
theorem k_311 : (Cond.static (⟨"java/lang/System", "arraycopy", "(Ljava/lang/Object;ILjava/lang/Object;II)V"⟩ : MethodName)) ∈ tb := tb_of (tb_2 (List.mem_of_getElem? (i := 71) rfl)) rfl
theorem k_313 : (Cond.methodLink "java/util/ArrayList" 79 (⟨"java/lang/Math", "max", "(II)I"⟩ : MethodName)) ∈ tb := tb_of (tb_2 (List.mem_of_getElem? (i := 73) rfl)) rfl
theorem k_314 : (Cond.classLink "java/util/ArrayList" 7 "java/lang/Object") ∈ tb := tb_of (tb_2 (List.mem_of_getElem? (i := 74) rfl)) rfl
theorem k_315 : (Cond.constantLong "ChipDesk$Chip" 65 98) ∈ tb := tb_of (tb_2 (List.mem_of_getElem? (i := 75) rfl)) rfl
theorem k_316 : (Cond.methodLink "ChipDesk$Chip" 67 (⟨"ChipDesk$Chip", "outOfGate", "()LChipDesk$Wire;"⟩ : MethodName)) ∈ tb := tb_of (tb_2 (List.mem_of_getElem? (i := 76) rfl)) rfl
theorem k_317 : (Cond.static (⟨"ChipDesk$Chip", "outOfGate", "()LChipDesk$Wire;"⟩ : MethodName)) ∈ tb := tb_of (tb_2 (List.mem_of_getElem? (i := 77) rfl)) rfl
theorem k_318 : (Cond.code (⟨"ChipDesk$Chip", "outOfGate", "()LChipDesk$Wire;"⟩ : MethodName) prog_4_method_4_code 0 (Option.some (ClassFile.FieldType.object "ChipDesk$Wire"))) ∈ tb := tb_of (tb_2 (List.mem_of_getElem? (i := 78) rfl)) rfl
theorem k_319 : (Cond.constantLong "ChipDesk$Chip" 78 7304564) ∈ tb := tb_of (tb_2 (List.mem_of_getElem? (i := 79) rfl)) rfl
theorem k_320 : (Cond.methodLink "ChipDesk$Chip" 71 (⟨"ChipDesk$Chip", "setOffsets", "()V"⟩ : MethodName)) ∈ tb := tb_of (tb_2 (List.mem_of_getElem? (i := 80) rfl)) rfl
theorem k_321 : (Cond.instanceMethod (⟨"ChipDesk$Chip", "setOffsets", "()V"⟩ : MethodName)) ∈ tb := tb_of (tb_2 (List.mem_of_getElem? (i := 81) rfl)) rfl
theorem k_322 : (Cond.selects "ChipDesk$Chip" (⟨"ChipDesk$Chip", "setOffsets", "()V"⟩ : MethodName) (⟨"ChipDesk$Chip", "setOffsets", "()V"⟩ : MethodName)) ∈ tb := tb_of (tb_2 (List.mem_of_getElem? (i := 82) rfl)) rfl
theorem k_323 : (Cond.code (⟨"ChipDesk$Chip", "setOffsets", "()V"⟩ : MethodName) prog_4_method_8_code 2 (Option.none : Option ClassFile.FieldType)) ∈ tb := tb_of (tb_2 (List.mem_of_getElem? (i := 83) rfl)) rfl
theorem k_324 : (Cond.methodLink "ChipDesk$Chip" 87 (⟨"java/util/ArrayList", "size", "()I"⟩ : MethodName)) ∈ tb := tb_of (tb_2 (List.mem_of_getElem? (i := 84) rfl)) rfl
theorem k_325 : (Cond.instanceMethod (⟨"java/util/ArrayList", "size", "()I"⟩ : MethodName)) ∈ tb := tb_of (tb_2 (List.mem_of_getElem? (i := 85) rfl)) rfl
theorem k_326 : (Cond.selects "java/util/ArrayList" (⟨"java/util/ArrayList", "size", "()I"⟩ : MethodName) (⟨"java/util/ArrayList", "size", "()I"⟩ : MethodName)) ∈ tb := tb_of (tb_2 (List.mem_of_getElem? (i := 86) rfl)) rfl
theorem k_327 : (Cond.code (⟨"java/util/ArrayList", "size", "()I"⟩ : MethodName) prog_22_method_8_code 1 (Option.some ClassFile.FieldType.int)) ∈ tb := tb_of (tb_2 (List.mem_of_getElem? (i := 87) rfl)) rfl
theorem k_328 : (Cond.methodLink "ChipDesk$Chip" 91 (⟨"java/util/ArrayList", "get", "(I)Ljava/lang/Object;"⟩ : MethodName)) ∈ tb := tb_of (tb_2 (List.mem_of_getElem? (i := 88) rfl)) rfl
theorem k_329 : (Cond.instanceMethod (⟨"java/util/ArrayList", "get", "(I)Ljava/lang/Object;"⟩ : MethodName)) ∈ tb := tb_of (tb_2 (List.mem_of_getElem? (i := 89) rfl)) rfl
theorem k_330 : (Cond.selects "java/util/ArrayList" (⟨"java/util/ArrayList", "get", "(I)Ljava/lang/Object;"⟩ : MethodName) (⟨"java/util/ArrayList", "get", "(I)Ljava/lang/Object;"⟩ : MethodName)) ∈ tb := tb_of (tb_2 (List.mem_of_getElem? (i := 90) rfl)) rfl
theorem k_331 : (Cond.code (⟨"java/util/ArrayList", "get", "(I)Ljava/lang/Object;"⟩ : MethodName) prog_22_method_20_code 2 (Option.some (ClassFile.FieldType.object "java/lang/Object"))) ∈ tb := tb_of (tb_2 (List.mem_of_getElem? (i := 91) rfl)) rfl
theorem k_332 : (Cond.methodLink "java/util/ArrayList" 118 (⟨"java/util/Objects", "checkIndex", "(II)I"⟩ : MethodName)) ∈ tb := tb_of (tb_2 (List.mem_of_getElem? (i := 92) rfl)) rfl
theorem k_333 : (Cond.static (⟨"java/util/Objects", "checkIndex", "(II)I"⟩ : MethodName)) ∈ tb := tb_of (tb_2 (List.mem_of_getElem? (i := 93) rfl)) rfl
theorem k_334 : (Cond.code (⟨"java/util/Objects", "checkIndex", "(II)I"⟩ : MethodName) prog_26_method_17_code 2 (Option.some ClassFile.FieldType.int)) ∈ tb := tb_of (tb_2 (List.mem_of_getElem? (i := 94) rfl)) rfl
theorem k_335 : (Cond.methodLink "java/util/Objects" 105 (⟨"jdk/internal/util/Preconditions", "checkIndex", "(IILjava/util/function/BiFunction;)I"⟩ : MethodName)) ∈ tb := tb_of (tb_2 (List.mem_of_getElem? (i := 95) rfl)) rfl
theorem k_336 : (Cond.static (⟨"jdk/internal/util/Preconditions", "checkIndex", "(IILjava/util/function/BiFunction;)I"⟩ : MethodName)) ∈ tb := tb_of (tb_2 (List.mem_of_getElem? (i := 96) rfl)) rfl
theorem k_337 : (Cond.code (⟨"jdk/internal/util/Preconditions", "checkIndex", "(IILjava/util/function/BiFunction;)I"⟩ : MethodName) prog_30_method_11_code 3 (Option.some ClassFile.FieldType.int)) ∈ tb := tb_of (tb_2 (List.mem_of_getElem? (i := 97) rfl)) rfl
theorem k_338 : (Cond.methodLink "java/util/ArrayList" 123 (⟨"java/util/ArrayList", "elementData", "(I)Ljava/lang/Object;"⟩ : MethodName)) ∈ tb := tb_of (tb_2 (List.mem_of_getElem? (i := 98) rfl)) rfl
theorem k_339 : (Cond.instanceMethod (⟨"java/util/ArrayList", "elementData", "(I)Ljava/lang/Object;"⟩ : MethodName)) ∈ tb := tb_of (tb_2 (List.mem_of_getElem? (i := 99) rfl)) rfl
theorem k_340 : (Cond.selects "java/util/ArrayList" (⟨"java/util/ArrayList", "elementData", "(I)Ljava/lang/Object;"⟩ : MethodName) (⟨"java/util/ArrayList", "elementData", "(I)Ljava/lang/Object;"⟩ : MethodName)) ∈ tb := tb_of (tb_2 (List.mem_of_getElem? (i := 100) rfl)) rfl
theorem k_341 : (Cond.code (⟨"java/util/ArrayList", "elementData", "(I)Ljava/lang/Object;"⟩ : MethodName) prog_22_method_18_code 2 (Option.some (ClassFile.FieldType.object "java/lang/Object"))) ∈ tb := tb_of (tb_2 (List.mem_of_getElem? (i := 101) rfl)) rfl
theorem k_342 : (Cond.methodLink "ChipDesk$Chip" 103 (⟨"ChipDesk$Chip", "setOffset", "(LChipDesk$Wire;)V"⟩ : MethodName)) ∈ tb := tb_of (tb_2 (List.mem_of_getElem? (i := 102) rfl)) rfl
theorem k_344 : (Cond.instanceMethod (⟨"ChipDesk$Chip", "setOffset", "(LChipDesk$Wire;)V"⟩ : MethodName)) ∈ tb := tb_of (tb_2 (List.mem_of_getElem? (i := 104) rfl)) rfl
theorem k_345 : (Cond.code (⟨"ChipDesk$Chip", "setOffset", "(LChipDesk$Wire;)V"⟩ : MethodName) prog_4_method_9_code 2 (Option.none : Option ClassFile.FieldType)) ∈ tb := tb_of (tb_2 (List.mem_of_getElem? (i := 105) rfl)) rfl
theorem k_346 : (Cond.methodLink "ChipDesk$Checker" 18 (⟨"ChipDesk$Chip", "dff", "()LChipDesk$Chip;"⟩ : MethodName)) ∈ tb := tb_of (tb_2 (List.mem_of_getElem? (i := 106) rfl)) rfl
theorem k_347 : (Cond.static (⟨"ChipDesk$Chip", "dff", "()LChipDesk$Chip;"⟩ : MethodName)) ∈ tb := tb_of (tb_2 (List.mem_of_getElem? (i := 107) rfl)) rfl
theorem k_348 : (Cond.code (⟨"ChipDesk$Chip", "dff", "()LChipDesk$Chip;"⟩ : MethodName) prog_4_method_3_code 1 (Option.some (ClassFile.FieldType.object "ChipDesk$Chip"))) ∈ tb := tb_of (tb_2 (List.mem_of_getElem? (i := 108) rfl)) rfl
theorem k_349 : (Cond.constantLong "ChipDesk$Chip" 74 4482662) ∈ tb := tb_of (tb_2 (List.mem_of_getElem? (i := 109) rfl)) rfl
theorem k_350 : (Cond.constantLong "ChipDesk$Chip" 76 26990) ∈ tb := tb_of (tb_2 (List.mem_of_getElem? (i := 110) rfl)) rfl
theorem k_351 : (Cond.fieldLink "ChipDesk$Checker" 29 "ChipDesk$Checker" "chips" "Ljava/util/ArrayList;") ∈ tb := tb_of (tb_2 (List.mem_of_getElem? (i := 111) rfl)) rfl
theorem k_352 : (Cond.fieldLink "ChipDesk$Checker" 33 "ChipDesk$Checker" "fault" "LChipDesk$Fault;") ∈ tb := tb_of (tb_2 (List.mem_of_getElem? (i := 112) rfl)) rfl
theorem k_353 : (Cond.fieldLink "ChipDesk$Checker" 13 "ChipDesk$Checker" "nand" "LChipDesk$Chip;") ∈ tb := tb_of (tb_2 (List.mem_of_getElem? (i := 113) rfl)) rfl
theorem k_354 : (Cond.fieldLink "ChipDesk$Checker" 21 "ChipDesk$Checker" "dff" "LChipDesk$Chip;") ∈ tb := tb_of (tb_2 (List.mem_of_getElem? (i := 114) rfl)) rfl
theorem k_355 : (Cond.fieldLink "ChipDesk$Checker" 25 "ChipDesk$Checker" "inside" "[I") ∈ tb := tb_of (tb_2 (List.mem_of_getElem? (i := 115) rfl)) rfl
theorem k_356 : (Cond.laysFinal "ChipDesk$Checker" "ChipDesk$Checker" "chips" "Ljava/util/ArrayList;") ∈ tb := tb_of (tb_2 (List.mem_of_getElem? (i := 116) rfl)) rfl
theorem k_358 : (Cond.laysFinal "ChipDesk$Checker" "ChipDesk$Checker" "fault" "LChipDesk$Fault;") ∈ tb := tb_of (tb_2 (List.mem_of_getElem? (i := 118) rfl)) rfl
theorem k_360 : (Cond.laysFinal "ChipDesk$Checker" "ChipDesk$Checker" "nand" "LChipDesk$Chip;") ∈ tb := tb_of (tb_2 (List.mem_of_getElem? (i := 120) rfl)) rfl
theorem k_362 : (Cond.laysFinal "ChipDesk$Checker" "ChipDesk$Checker" "dff" "LChipDesk$Chip;") ∈ tb := tb_of (tb_2 (List.mem_of_getElem? (i := 122) rfl)) rfl
theorem k_364 : (Cond.laysFinal "ChipDesk$Checker" "ChipDesk$Checker" "inside" "[I") ∈ tb := tb_of (tb_2 (List.mem_of_getElem? (i := 124) rfl)) rfl
theorem k_366 : (Cond.superclass "ChipDesk$Checker" "java/lang/Object") ∈ tb := tb_of (tb_2 (List.mem_of_getElem? (i := 126) rfl)) rfl
theorem k_367 : (Cond.classLink "ChipDesk" 45 "ChipDesk$Board") ∈ tb := tb_of (tb_2 (List.mem_of_getElem? (i := 127) rfl)) rfl
theorem k_368 : (Cond.instantiable "ChipDesk$Board" 19) ∈ tb := tb_of (tb_2 (List.mem_of_getElem? (i := 128) rfl)) rfl
theorem k_370 : (Cond.instanceMethod (⟨"ChipDesk$Board", "<init>", "()V"⟩ : MethodName)) ∈ tb := tb_of (tb_2 (List.mem_of_getElem? (i := 130) rfl)) rfl
theorem k_371 : (Cond.code (⟨"ChipDesk$Board", "<init>", "()V"⟩ : MethodName) prog_2_method_1_code 1 (Option.none : Option ClassFile.FieldType)) ∈ tb := tb_of (tb_2 (List.mem_of_getElem? (i := 131) rfl)) rfl
theorem k_372 : (Cond.methodLink "ChipDesk$Board" 7 (⟨"java/lang/Object", "<init>", "()V"⟩ : MethodName)) ∈ tb := tb_of (tb_2 (List.mem_of_getElem? (i := 132) rfl)) rfl
theorem k_373 : (Cond.fieldLink "ChipDesk$Board" 13 "ChipDesk$Board" "chip" "LChipDesk$Chip;") ∈ tb := tb_of (tb_2 (List.mem_of_getElem? (i := 133) rfl)) rfl
theorem k_374 : (Cond.fieldLink "ChipDesk$Board" 17 "ChipDesk$Board" "chipCount" "I") ∈ tb := tb_of (tb_2 (List.mem_of_getElem? (i := 134) rfl)) rfl
theorem k_375 : (Cond.fieldLink "ChipDesk$Board" 21 "ChipDesk$Board" "from" "[I") ∈ tb := tb_of (tb_2 (List.mem_of_getElem? (i := 135) rfl)) rfl
theorem k_376 : (Cond.fieldLink "ChipDesk$Board" 25 "ChipDesk$Board" "bits" "I") ∈ tb := tb_of (tb_2 (List.mem_of_getElem? (i := 136) rfl)) rfl
theorem k_377 : (Cond.fieldLink "ChipDesk$Board" 28 "ChipDesk$Board" "isDff" "[Z") ∈ tb := tb_of (tb_2 (List.mem_of_getElem? (i := 137) rfl)) rfl
theorem k_378 : (Cond.fieldLink "ChipDesk$Board" 32 "ChipDesk$Board" "firstIn" "[I") ∈ tb := tb_of (tb_2 (List.mem_of_getElem? (i := 138) rfl)) rfl
theorem k_379 : (Cond.fieldLink "ChipDesk$Board" 35 "ChipDesk$Board" "secondIn" "[I") ∈ tb := tb_of (tb_2 (List.mem_of_getElem? (i := 139) rfl)) rfl
theorem k_380 : (Cond.fieldLink "ChipDesk$Board" 38 "ChipDesk$Board" "gateCount" "I") ∈ tb := tb_of (tb_2 (List.mem_of_getElem? (i := 140) rfl)) rfl
theorem k_381 : (Cond.fieldLink "ChipDesk$Board" 41 "ChipDesk$Board" "nandCount" "I") ∈ tb := tb_of (tb_2 (List.mem_of_getElem? (i := 141) rfl)) rfl
theorem k_382 : (Cond.fieldLink "ChipDesk$Board" 44 "ChipDesk$Board" "firstGate" "I") ∈ tb := tb_of (tb_2 (List.mem_of_getElem? (i := 142) rfl)) rfl
theorem k_383 : (Cond.fieldLink "ChipDesk$Board" 47 "ChipDesk$Board" "value" "[Z") ∈ tb := tb_of (tb_2 (List.mem_of_getElem? (i := 143) rfl)) rfl
theorem k_384 : (Cond.fieldLink "ChipDesk$Board" 50 "ChipDesk$Board" "level" "[I") ∈ tb := tb_of (tb_2 (List.mem_of_getElem? (i := 144) rfl)) rfl
theorem k_385 : (Cond.fieldLink "ChipDesk$Board" 53 "ChipDesk$Board" "deepest" "I") ∈ tb := tb_of (tb_2 (List.mem_of_getElem? (i := 145) rfl)) rfl
theorem k_386 : (Cond.fieldLink "ChipDesk$Board" 56 "ChipDesk$Board" "order" "[I") ∈ tb := tb_of (tb_2 (List.mem_of_getElem? (i := 146) rfl)) rfl
theorem k_387 : (Cond.fieldLink "ChipDesk$Board" 59 "ChipDesk$Board" "ordered" "I") ∈ tb := tb_of (tb_2 (List.mem_of_getElem? (i := 147) rfl)) rfl
theorem k_388 : (Cond.fieldLink "ChipDesk$Board" 62 "ChipDesk$Board" "stack" "[I") ∈ tb := tb_of (tb_2 (List.mem_of_getElem? (i := 148) rfl)) rfl
theorem k_389 : (Cond.fieldLink "ChipDesk$Board" 65 "ChipDesk$Board" "next" "[Z") ∈ tb := tb_of (tb_2 (List.mem_of_getElem? (i := 149) rfl)) rfl
theorem k_390 : (Cond.fieldLink "ChipDesk$Board" 68 "ChipDesk$Board" "ticks" "I") ∈ tb := tb_of (tb_2 (List.mem_of_getElem? (i := 150) rfl)) rfl
theorem k_391 : (Cond.fieldLink "ChipDesk$Board" 71 "ChipDesk$Board" "ones" "I") ∈ tb := tb_of (tb_2 (List.mem_of_getElem? (i := 151) rfl)) rfl
theorem k_392 : (Cond.lays "ChipDesk$Board" "ChipDesk$Board" "chip" "LChipDesk$Chip;") ∈ tb := tb_of (tb_2 (List.mem_of_getElem? (i := 152) rfl)) rfl
theorem k_394 : (Cond.lays "ChipDesk$Board" "ChipDesk$Board" "chipCount" "I") ∈ tb := tb_of (tb_2 (List.mem_of_getElem? (i := 154) rfl)) rfl
theorem k_396 : (Cond.laysFinal "ChipDesk$Board" "ChipDesk$Board" "from" "[I") ∈ tb := tb_of (tb_2 (List.mem_of_getElem? (i := 156) rfl)) rfl
theorem k_398 : (Cond.lays "ChipDesk$Board" "ChipDesk$Board" "bits" "I") ∈ tb := tb_of (tb_2 (List.mem_of_getElem? (i := 158) rfl)) rfl
theorem k_400 : (Cond.laysFinal "ChipDesk$Board" "ChipDesk$Board" "isDff" "[Z") ∈ tb := tb_of (tb_2 (List.mem_of_getElem? (i := 160) rfl)) rfl
theorem k_402 : (Cond.laysFinal "ChipDesk$Board" "ChipDesk$Board" "firstIn" "[I") ∈ tb := tb_of (tb_2 (List.mem_of_getElem? (i := 162) rfl)) rfl
theorem k_404 : (Cond.laysFinal "ChipDesk$Board" "ChipDesk$Board" "secondIn" "[I") ∈ tb := tb_of (tb_2 (List.mem_of_getElem? (i := 164) rfl)) rfl
theorem k_406 : (Cond.lays "ChipDesk$Board" "ChipDesk$Board" "gateCount" "I") ∈ tb := tb_of (tb_2 (List.mem_of_getElem? (i := 166) rfl)) rfl
theorem k_408 : (Cond.lays "ChipDesk$Board" "ChipDesk$Board" "nandCount" "I") ∈ tb := tb_of (tb_2 (List.mem_of_getElem? (i := 168) rfl)) rfl
theorem k_410 : (Cond.lays "ChipDesk$Board" "ChipDesk$Board" "firstGate" "I") ∈ tb := tb_of (tb_2 (List.mem_of_getElem? (i := 170) rfl)) rfl
theorem k_412 : (Cond.laysFinal "ChipDesk$Board" "ChipDesk$Board" "value" "[Z") ∈ tb := tb_of (tb_2 (List.mem_of_getElem? (i := 172) rfl)) rfl
theorem k_414 : (Cond.laysFinal "ChipDesk$Board" "ChipDesk$Board" "level" "[I") ∈ tb := tb_of (tb_2 (List.mem_of_getElem? (i := 174) rfl)) rfl
theorem k_416 : (Cond.lays "ChipDesk$Board" "ChipDesk$Board" "deepest" "I") ∈ tb := tb_of (tb_2 (List.mem_of_getElem? (i := 176) rfl)) rfl
theorem k_418 : (Cond.laysFinal "ChipDesk$Board" "ChipDesk$Board" "order" "[I") ∈ tb := tb_of (tb_2 (List.mem_of_getElem? (i := 178) rfl)) rfl
theorem k_420 : (Cond.lays "ChipDesk$Board" "ChipDesk$Board" "ordered" "I") ∈ tb := tb_of (tb_2 (List.mem_of_getElem? (i := 180) rfl)) rfl
theorem k_422 : (Cond.laysFinal "ChipDesk$Board" "ChipDesk$Board" "stack" "[I") ∈ tb := tb_of (tb_2 (List.mem_of_getElem? (i := 182) rfl)) rfl
theorem k_424 : (Cond.laysFinal "ChipDesk$Board" "ChipDesk$Board" "next" "[Z") ∈ tb := tb_of (tb_2 (List.mem_of_getElem? (i := 184) rfl)) rfl
theorem k_426 : (Cond.lays "ChipDesk$Board" "ChipDesk$Board" "ticks" "I") ∈ tb := tb_of (tb_2 (List.mem_of_getElem? (i := 186) rfl)) rfl
theorem k_428 : (Cond.lays "ChipDesk$Board" "ChipDesk$Board" "ones" "I") ∈ tb := tb_of (tb_2 (List.mem_of_getElem? (i := 188) rfl)) rfl
theorem k_430 : (Cond.superclass "ChipDesk$Board" "java/lang/Object") ∈ tb := tb_of (tb_2 (List.mem_of_getElem? (i := 190) rfl)) rfl
theorem k_431 : (Cond.arrayClass ClassFile.FieldType.boolean) ∈ tb := tb_of (tb_2 (List.mem_of_getElem? (i := 191) rfl)) rfl
theorem k_432 : (Cond.fieldLink "ChipDesk" 10 "ChipDesk" "text" "LChipDesk$Text;") ∈ tb := tb_of (tb_2 (List.mem_of_getElem? (i := 192) rfl)) rfl
theorem k_433 : (Cond.fieldLink "ChipDesk" 19 "ChipDesk" "fault" "LChipDesk$Fault;") ∈ tb := tb_of (tb_2 (List.mem_of_getElem? (i := 193) rfl)) rfl
theorem k_434 : (Cond.fieldLink "ChipDesk" 28 "ChipDesk" "parser" "LChipDesk$Parser;") ∈ tb := tb_of (tb_2 (List.mem_of_getElem? (i := 194) rfl)) rfl
theorem k_435 : (Cond.fieldLink "ChipDesk" 41 "ChipDesk" "checker" "LChipDesk$Checker;") ∈ tb := tb_of (tb_2 (List.mem_of_getElem? (i := 195) rfl)) rfl
theorem k_436 : (Cond.fieldLink "ChipDesk" 48 "ChipDesk" "board" "LChipDesk$Board;") ∈ tb := tb_of (tb_2 (List.mem_of_getElem? (i := 196) rfl)) rfl
theorem k_437 : (Cond.laysFinal "ChipDesk" "ChipDesk" "text" "LChipDesk$Text;") ∈ tb := tb_of (tb_2 (List.mem_of_getElem? (i := 197) rfl)) rfl
theorem k_439 : (Cond.laysFinal "ChipDesk" "ChipDesk" "fault" "LChipDesk$Fault;") ∈ tb := tb_of (tb_2 (List.mem_of_getElem? (i := 199) rfl)) rfl
theorem k_441 : (Cond.laysFinal "ChipDesk" "ChipDesk" "parser" "LChipDesk$Parser;") ∈ tb := tb_of (tb_2 (List.mem_of_getElem? (i := 201) rfl)) rfl
theorem k_443 : (Cond.laysFinal "ChipDesk" "ChipDesk" "checker" "LChipDesk$Checker;") ∈ tb := tb_of (tb_2 (List.mem_of_getElem? (i := 203) rfl)) rfl
theorem k_445 : (Cond.laysFinal "ChipDesk" "ChipDesk" "board" "LChipDesk$Board;") ∈ tb := tb_of (tb_2 (List.mem_of_getElem? (i := 205) rfl)) rfl
theorem k_447 : (Cond.superclass "ChipDesk" "java/lang/Object") ∈ tb := tb_of (tb_2 (List.mem_of_getElem? (i := 207) rfl)) rfl
theorem k_448 : (Cond.methodLink "ChipDeskLaw" 15 (⟨"ChipDesk", "put", "(JI)Z"⟩ : MethodName)) ∈ tb := tb_of (tb_2 (List.mem_of_getElem? (i := 208) rfl)) rfl
theorem k_449 : (Cond.instanceMethod (⟨"ChipDesk", "put", "(JI)Z"⟩ : MethodName)) ∈ tb := tb_of (tb_2 (List.mem_of_getElem? (i := 209) rfl)) rfl
theorem k_450 : (Cond.selects "ChipDesk" (⟨"ChipDesk", "put", "(JI)Z"⟩ : MethodName) (⟨"ChipDesk", "put", "(JI)Z"⟩ : MethodName)) ∈ tb := tb_of (tb_2 (List.mem_of_getElem? (i := 210) rfl)) rfl
theorem k_451 : (Cond.code (⟨"ChipDesk", "put", "(JI)Z"⟩ : MethodName) prog_1_method_2_code 4 (Option.some ClassFile.FieldType.boolean)) ∈ tb := tb_of (tb_2 (List.mem_of_getElem? (i := 211) rfl)) rfl
theorem k_452 : (Cond.methodLink "ChipDesk" 52 (⟨"ChipDesk$Text", "append", "(JI)Z"⟩ : MethodName)) ∈ tb := tb_of (tb_2 (List.mem_of_getElem? (i := 212) rfl)) rfl
theorem k_453 : (Cond.instanceMethod (⟨"ChipDesk$Text", "append", "(JI)Z"⟩ : MethodName)) ∈ tb := tb_of (tb_2 (List.mem_of_getElem? (i := 213) rfl)) rfl
theorem k_454 : (Cond.selects "ChipDesk$Text" (⟨"ChipDesk$Text", "append", "(JI)Z"⟩ : MethodName) (⟨"ChipDesk$Text", "append", "(JI)Z"⟩ : MethodName)) ∈ tb := tb_of (tb_2 (List.mem_of_getElem? (i := 214) rfl)) rfl
theorem k_455 : (Cond.code (⟨"ChipDesk$Text", "append", "(JI)Z"⟩ : MethodName) prog_11_method_2_code 5 (Option.some ClassFile.FieldType.boolean)) ∈ tb := tb_of (tb_2 (List.mem_of_getElem? (i := 215) rfl)) rfl
theorem k_456 : (Cond.methodLink "ChipDeskLaw" 20 (⟨"ChipDesk", "read", "()I"⟩ : MethodName)) ∈ tb := tb_of (tb_2 (List.mem_of_getElem? (i := 216) rfl)) rfl
theorem k_457 : (Cond.instanceMethod (⟨"ChipDesk", "read", "()I"⟩ : MethodName)) ∈ tb := tb_of (tb_2 (List.mem_of_getElem? (i := 217) rfl)) rfl
theorem k_458 : (Cond.selects "ChipDesk" (⟨"ChipDesk", "read", "()I"⟩ : MethodName) (⟨"ChipDesk", "read", "()I"⟩ : MethodName)) ∈ tb := tb_of (tb_2 (List.mem_of_getElem? (i := 218) rfl)) rfl
theorem k_459 : (Cond.code (⟨"ChipDesk", "read", "()I"⟩ : MethodName) prog_1_method_3_code 1 (Option.some ClassFile.FieldType.int)) ∈ tb := tb_of (tb_2 (List.mem_of_getElem? (i := 219) rfl)) rfl
theorem k_460 : (Cond.methodLink "ChipDesk" 56 (⟨"ChipDesk$Fault", "clear", "()V"⟩ : MethodName)) ∈ tb := tb_of (tb_2 (List.mem_of_getElem? (i := 220) rfl)) rfl
theorem k_461 : (Cond.instanceMethod (⟨"ChipDesk$Fault", "clear", "()V"⟩ : MethodName)) ∈ tb := tb_of (tb_2 (List.mem_of_getElem? (i := 221) rfl)) rfl
theorem k_462 : (Cond.selects "ChipDesk$Fault" (⟨"ChipDesk$Fault", "clear", "()V"⟩ : MethodName) (⟨"ChipDesk$Fault", "clear", "()V"⟩ : MethodName)) ∈ tb := tb_of (tb_2 (List.mem_of_getElem? (i := 222) rfl)) rfl
theorem k_463 : (Cond.code (⟨"ChipDesk$Fault", "clear", "()V"⟩ : MethodName) prog_5_method_2_code 1 (Option.none : Option ClassFile.FieldType)) ∈ tb := tb_of (tb_2 (List.mem_of_getElem? (i := 223) rfl)) rfl
theorem k_464 : (Cond.methodLink "ChipDesk" 59 (⟨"ChipDesk$Board", "clear", "()V"⟩ : MethodName)) ∈ tb := tb_of (tb_2 (List.mem_of_getElem? (i := 224) rfl)) rfl
theorem k_465 : (Cond.instanceMethod (⟨"ChipDesk$Board", "clear", "()V"⟩ : MethodName)) ∈ tb := tb_of (tb_2 (List.mem_of_getElem? (i := 225) rfl)) rfl
theorem k_466 : (Cond.selects "ChipDesk$Board" (⟨"ChipDesk$Board", "clear", "()V"⟩ : MethodName) (⟨"ChipDesk$Board", "clear", "()V"⟩ : MethodName)) ∈ tb := tb_of (tb_2 (List.mem_of_getElem? (i := 226) rfl)) rfl
theorem k_467 : (Cond.code (⟨"ChipDesk$Board", "clear", "()V"⟩ : MethodName) prog_2_method_2_code 1 (Option.none : Option ClassFile.FieldType)) ∈ tb := tb_of (tb_2 (List.mem_of_getElem? (i := 227) rfl)) rfl
theorem k_468 : (Cond.methodLink "ChipDesk" 60 (⟨"ChipDesk$Text", "scan", "()V"⟩ : MethodName)) ∈ tb := tb_of (tb_2 (List.mem_of_getElem? (i := 228) rfl)) rfl
theorem k_469 : (Cond.instanceMethod (⟨"ChipDesk$Text", "scan", "()V"⟩ : MethodName)) ∈ tb := tb_of (tb_2 (List.mem_of_getElem? (i := 229) rfl)) rfl
theorem k_470 : (Cond.selects "ChipDesk$Text" (⟨"ChipDesk$Text", "scan", "()V"⟩ : MethodName) (⟨"ChipDesk$Text", "scan", "()V"⟩ : MethodName)) ∈ tb := tb_of (tb_2 (List.mem_of_getElem? (i := 230) rfl)) rfl
theorem k_471 : (Cond.code (⟨"ChipDesk$Text", "scan", "()V"⟩ : MethodName) prog_11_method_4_code 3 (Option.none : Option ClassFile.FieldType)) ∈ tb := tb_of (tb_2 (List.mem_of_getElem? (i := 231) rfl)) rfl
theorem k_472 : (Cond.methodLink "ChipDesk$Text" 34 (⟨"ChipDesk$Text", "skipBlanks", "(I)I"⟩ : MethodName)) ∈ tb := tb_of (tb_2 (List.mem_of_getElem? (i := 232) rfl)) rfl
theorem k_474 : (Cond.instanceMethod (⟨"ChipDesk$Text", "skipBlanks", "(I)I"⟩ : MethodName)) ∈ tb := tb_of (tb_2 (List.mem_of_getElem? (i := 234) rfl)) rfl
theorem k_475 : (Cond.code (⟨"ChipDesk$Text", "skipBlanks", "(I)I"⟩ : MethodName) prog_11_method_5_code 5 (Option.some ClassFile.FieldType.int)) ∈ tb := tb_of (tb_2 (List.mem_of_getElem? (i := 235) rfl)) rfl
theorem k_476 : (Cond.methodLink "ChipDesk$Text" 42 (⟨"ChipDesk$Text", "behindBlank", "(I)I"⟩ : MethodName)) ∈ tb := tb_of (tb_2 (List.mem_of_getElem? (i := 236) rfl)) rfl
theorem k_478 : (Cond.instanceMethod (⟨"ChipDesk$Text", "behindBlank", "(I)I"⟩ : MethodName)) ∈ tb := tb_of (tb_2 (List.mem_of_getElem? (i := 238) rfl)) rfl
theorem k_479 : (Cond.code (⟨"ChipDesk$Text", "behindBlank", "(I)I"⟩ : MethodName) prog_11_method_6_code 3 (Option.some ClassFile.FieldType.int)) ∈ tb := tb_of (tb_2 (List.mem_of_getElem? (i := 239) rfl)) rfl
theorem k_480 : (Cond.methodLink "ChipDesk$Text" 45 (⟨"ChipDesk$Text", "lineEnd", "(I)I"⟩ : MethodName)) ∈ tb := tb_of (tb_3 (List.mem_of_getElem? (i := 0) rfl)) rfl
theorem k_482 : (Cond.instanceMethod (⟨"ChipDesk$Text", "lineEnd", "(I)I"⟩ : MethodName)) ∈ tb := tb_of (tb_3 (List.mem_of_getElem? (i := 2) rfl)) rfl
theorem k_483 : (Cond.code (⟨"ChipDesk$Text", "lineEnd", "(I)I"⟩ : MethodName) prog_11_method_7_code 3 (Option.some ClassFile.FieldType.int)) ∈ tb := tb_of (tb_3 (List.mem_of_getElem? (i := 3) rfl)) rfl
theorem k_484 : (Cond.methodLink "ChipDesk$Text" 48 (⟨"ChipDesk$Text", "behindComment", "(I)I"⟩ : MethodName)) ∈ tb := tb_of (tb_3 (List.mem_of_getElem? (i := 4) rfl)) rfl
theorem k_486 : (Cond.instanceMethod (⟨"ChipDesk$Text", "behindComment", "(I)I"⟩ : MethodName)) ∈ tb := tb_of (tb_3 (List.mem_of_getElem? (i := 6) rfl)) rfl
theorem k_487 : (Cond.code (⟨"ChipDesk$Text", "behindComment", "(I)I"⟩ : MethodName) prog_11_method_8_code 3 (Option.some ClassFile.FieldType.int)) ∈ tb := tb_of (tb_3 (List.mem_of_getElem? (i := 7) rfl)) rfl
theorem k_488 : (Cond.methodLink "ChipDesk$Text" 38 (⟨"ChipDesk$Text", "scanToken", "(II)I"⟩ : MethodName)) ∈ tb := tb_of (tb_3 (List.mem_of_getElem? (i := 8) rfl)) rfl
theorem k_490 : (Cond.instanceMethod (⟨"ChipDesk$Text", "scanToken", "(II)I"⟩ : MethodName)) ∈ tb := tb_of (tb_3 (List.mem_of_getElem? (i := 10) rfl)) rfl
theorem k_491 : (Cond.code (⟨"ChipDesk$Text", "scanToken", "(II)I"⟩ : MethodName) prog_11_method_9_code 4 (Option.some ClassFile.FieldType.int)) ∈ tb := tb_of (tb_3 (List.mem_of_getElem? (i := 11) rfl)) rfl
theorem k_492 : (Cond.methodLink "ChipDesk$Text" 51 (⟨"ChipDesk$Text", "isWordByte", "(I)Z"⟩ : MethodName)) ∈ tb := tb_of (tb_3 (List.mem_of_getElem? (i := 12) rfl)) rfl
theorem k_493 : (Cond.static (⟨"ChipDesk$Text", "isWordByte", "(I)Z"⟩ : MethodName)) ∈ tb := tb_of (tb_3 (List.mem_of_getElem? (i := 13) rfl)) rfl
theorem k_494 : (Cond.code (⟨"ChipDesk$Text", "isWordByte", "(I)Z"⟩ : MethodName) prog_11_method_13_code 1 (Option.some ClassFile.FieldType.boolean)) ∈ tb := tb_of (tb_3 (List.mem_of_getElem? (i := 14) rfl)) rfl
theorem k_495 : (Cond.methodLink "ChipDesk$Text" 68 (⟨"ChipDesk$Text", "isLetter", "(I)Z"⟩ : MethodName)) ∈ tb := tb_of (tb_3 (List.mem_of_getElem? (i := 15) rfl)) rfl
theorem k_496 : (Cond.static (⟨"ChipDesk$Text", "isLetter", "(I)Z"⟩ : MethodName)) ∈ tb := tb_of (tb_3 (List.mem_of_getElem? (i := 16) rfl)) rfl
theorem k_497 : (Cond.code (⟨"ChipDesk$Text", "isLetter", "(I)Z"⟩ : MethodName) prog_11_method_14_code 1 (Option.some ClassFile.FieldType.boolean)) ∈ tb := tb_of (tb_3 (List.mem_of_getElem? (i := 17) rfl)) rfl
theorem k_498 : (Cond.methodLink "ChipDesk$Text" 55 (⟨"ChipDesk$Text", "isDigit", "(I)Z"⟩ : MethodName)) ∈ tb := tb_of (tb_3 (List.mem_of_getElem? (i := 18) rfl)) rfl
theorem k_499 : (Cond.static (⟨"ChipDesk$Text", "isDigit", "(I)Z"⟩ : MethodName)) ∈ tb := tb_of (tb_3 (List.mem_of_getElem? (i := 19) rfl)) rfl
theorem k_500 : (Cond.code (⟨"ChipDesk$Text", "isDigit", "(I)Z"⟩ : MethodName) prog_11_method_15_code 1 (Option.some ClassFile.FieldType.boolean)) ∈ tb := tb_of (tb_3 (List.mem_of_getElem? (i := 20) rfl)) rfl
theorem k_501 : (Cond.methodLink "ChipDesk$Text" 58 (⟨"ChipDesk$Text", "scanNumber", "(III)I"⟩ : MethodName)) ∈ tb := tb_of (tb_3 (List.mem_of_getElem? (i := 21) rfl)) rfl
theorem k_503 : (Cond.instanceMethod (⟨"ChipDesk$Text", "scanNumber", "(III)I"⟩ : MethodName)) ∈ tb := tb_of (tb_3 (List.mem_of_getElem? (i := 23) rfl)) rfl
theorem k_504 : (Cond.code (⟨"ChipDesk$Text", "scanNumber", "(III)I"⟩ : MethodName) prog_11_method_10_code 6 (Option.some ClassFile.FieldType.int)) ∈ tb := tb_of (tb_3 (List.mem_of_getElem? (i := 24) rfl)) rfl
theorem k_505 : (Cond.methodLink "ChipDesk$Text" 62 (⟨"ChipDesk$Text", "scanWord", "(III)I"⟩ : MethodName)) ∈ tb := tb_of (tb_3 (List.mem_of_getElem? (i := 25) rfl)) rfl
theorem k_507 : (Cond.instanceMethod (⟨"ChipDesk$Text", "scanWord", "(III)I"⟩ : MethodName)) ∈ tb := tb_of (tb_3 (List.mem_of_getElem? (i := 27) rfl)) rfl
theorem k_508 : (Cond.code (⟨"ChipDesk$Text", "scanWord", "(III)I"⟩ : MethodName) prog_11_method_11_code 9 (Option.some ClassFile.FieldType.int)) ∈ tb := tb_of (tb_3 (List.mem_of_getElem? (i := 28) rfl)) rfl
theorem k_509 : (Cond.methodLink "ChipDesk$Text" 71 (⟨"ChipDesk$Text", "wordKind", "(JJ)I"⟩ : MethodName)) ∈ tb := tb_of (tb_3 (List.mem_of_getElem? (i := 29) rfl)) rfl
theorem k_510 : (Cond.static (⟨"ChipDesk$Text", "wordKind", "(JJ)I"⟩ : MethodName)) ∈ tb := tb_of (tb_3 (List.mem_of_getElem? (i := 30) rfl)) rfl
theorem k_511 : (Cond.code (⟨"ChipDesk$Text", "wordKind", "(JJ)I"⟩ : MethodName) prog_11_method_12_code 5 (Option.some ClassFile.FieldType.int)) ∈ tb := tb_of (tb_3 (List.mem_of_getElem? (i := 31) rfl)) rfl
theorem k_512 : (Cond.fieldLink "ChipDesk$Text" 75 "ChipDesk$Text" "KEYWORDS" "[J") ∈ tb := tb_of (tb_3 (List.mem_of_getElem? (i := 32) rfl)) rfl
theorem k_514 : (Cond.methodLink "ChipDesk$Text" 65 (⟨"ChipDesk$Text", "isSign", "(I)Z"⟩ : MethodName)) ∈ tb := tb_of (tb_3 (List.mem_of_getElem? (i := 34) rfl)) rfl
theorem k_515 : (Cond.static (⟨"ChipDesk$Text", "isSign", "(I)Z"⟩ : MethodName)) ∈ tb := tb_of (tb_3 (List.mem_of_getElem? (i := 35) rfl)) rfl
theorem k_516 : (Cond.code (⟨"ChipDesk$Text", "isSign", "(I)Z"⟩ : MethodName) prog_11_method_16_code 1 (Option.some ClassFile.FieldType.boolean)) ∈ tb := tb_of (tb_3 (List.mem_of_getElem? (i := 36) rfl)) rfl
theorem k_517 : (Cond.methodLink "ChipDesk" 63 (⟨"ChipDesk$Parser", "parse", "()Z"⟩ : MethodName)) ∈ tb := tb_of (tb_3 (List.mem_of_getElem? (i := 37) rfl)) rfl
theorem k_518 : (Cond.instanceMethod (⟨"ChipDesk$Parser", "parse", "()Z"⟩ : MethodName)) ∈ tb := tb_of (tb_3 (List.mem_of_getElem? (i := 38) rfl)) rfl
theorem k_519 : (Cond.selects "ChipDesk$Parser" (⟨"ChipDesk$Parser", "parse", "()Z"⟩ : MethodName) (⟨"ChipDesk$Parser", "parse", "()Z"⟩ : MethodName)) ∈ tb := tb_of (tb_3 (List.mem_of_getElem? (i := 39) rfl)) rfl
theorem k_520 : (Cond.code (⟨"ChipDesk$Parser", "parse", "()Z"⟩ : MethodName) prog_8_method_2_code 3 (Option.some ClassFile.FieldType.boolean)) ∈ tb := tb_of (tb_3 (List.mem_of_getElem? (i := 40) rfl)) rfl
theorem k_521 : (Cond.methodLink "ChipDesk$Parser" 28 (⟨"java/util/ArrayList", "clear", "()V"⟩ : MethodName)) ∈ tb := tb_of (tb_3 (List.mem_of_getElem? (i := 41) rfl)) rfl
theorem k_522 : (Cond.instanceMethod (⟨"java/util/ArrayList", "clear", "()V"⟩ : MethodName)) ∈ tb := tb_of (tb_3 (List.mem_of_getElem? (i := 42) rfl)) rfl
theorem k_523 : (Cond.selects "java/util/ArrayList" (⟨"java/util/ArrayList", "clear", "()V"⟩ : MethodName) (⟨"java/util/ArrayList", "clear", "()V"⟩ : MethodName)) ∈ tb := tb_of (tb_3 (List.mem_of_getElem? (i := 43) rfl)) rfl
theorem k_524 : (Cond.code (⟨"java/util/ArrayList", "clear", "()V"⟩ : MethodName) prog_22_method_40_code 4 (Option.none : Option ClassFile.FieldType)) ∈ tb := tb_of (tb_3 (List.mem_of_getElem? (i := 44) rfl)) rfl
theorem k_525 : (Cond.methodLink "ChipDesk$Parser" 31 (⟨"ChipDesk$Parser", "startChip", "()LChipDesk$Chip;"⟩ : MethodName)) ∈ tb := tb_of (tb_3 (List.mem_of_getElem? (i := 45) rfl)) rfl
theorem k_527 : (Cond.instanceMethod (⟨"ChipDesk$Parser", "startChip", "()LChipDesk$Chip;"⟩ : MethodName)) ∈ tb := tb_of (tb_3 (List.mem_of_getElem? (i := 47) rfl)) rfl
theorem k_528 : (Cond.code (⟨"ChipDesk$Parser", "startChip", "()LChipDesk$Chip;"⟩ : MethodName) prog_8_method_3_code 2 (Option.some (ClassFile.FieldType.object "ChipDesk$Chip"))) ∈ tb := tb_of (tb_3 (List.mem_of_getElem? (i := 48) rfl)) rfl
theorem k_529 : (Cond.methodLink "ChipDesk$Parser" 43 (⟨"ChipDesk$Parser", "want", "(I)Z"⟩ : MethodName)) ∈ tb := tb_of (tb_3 (List.mem_of_getElem? (i := 49) rfl)) rfl
theorem k_531 : (Cond.instanceMethod (⟨"ChipDesk$Parser", "want", "(I)Z"⟩ : MethodName)) ∈ tb := tb_of (tb_3 (List.mem_of_getElem? (i := 51) rfl)) rfl
theorem k_532 : (Cond.code (⟨"ChipDesk$Parser", "want", "(I)Z"⟩ : MethodName) prog_8_method_13_code 2 (Option.some ClassFile.FieldType.boolean)) ∈ tb := tb_of (tb_3 (List.mem_of_getElem? (i := 52) rfl)) rfl
theorem k_533 : (Cond.methodLink "ChipDesk$Parser" 150 (⟨"ChipDesk$Fault", "note", "(II)Z"⟩ : MethodName)) ∈ tb := tb_of (tb_3 (List.mem_of_getElem? (i := 53) rfl)) rfl
theorem k_534 : (Cond.instanceMethod (⟨"ChipDesk$Fault", "note", "(II)Z"⟩ : MethodName)) ∈ tb := tb_of (tb_3 (List.mem_of_getElem? (i := 54) rfl)) rfl
theorem k_535 : (Cond.selects "ChipDesk$Fault" (⟨"ChipDesk$Fault", "note", "(II)Z"⟩ : MethodName) (⟨"ChipDesk$Fault", "note", "(II)Z"⟩ : MethodName)) ∈ tb := tb_of (tb_3 (List.mem_of_getElem? (i := 55) rfl)) rfl
theorem k_536 : (Cond.code (⟨"ChipDesk$Fault", "note", "(II)Z"⟩ : MethodName) prog_5_method_3_code 3 (Option.some ClassFile.FieldType.boolean)) ∈ tb := tb_of (tb_3 (List.mem_of_getElem? (i := 56) rfl)) rfl
theorem k_537 : (Cond.methodLink "ChipDesk$Parser" 54 (⟨"java/util/ArrayList", "size", "()I"⟩ : MethodName)) ∈ tb := tb_of (tb_3 (List.mem_of_getElem? (i := 57) rfl)) rfl
theorem k_538 : (Cond.methodLink "ChipDesk$Parser" 58 (⟨"ChipDesk$Parser", "wantNameWithRoom", "(Z)Z"⟩ : MethodName)) ∈ tb := tb_of (tb_3 (List.mem_of_getElem? (i := 58) rfl)) rfl
theorem k_540 : (Cond.instanceMethod (⟨"ChipDesk$Parser", "wantNameWithRoom", "(Z)Z"⟩ : MethodName)) ∈ tb := tb_of (tb_3 (List.mem_of_getElem? (i := 60) rfl)) rfl
theorem k_541 : (Cond.code (⟨"ChipDesk$Parser", "wantNameWithRoom", "(Z)Z"⟩ : MethodName) prog_8_method_14_code 3 (Option.some ClassFile.FieldType.boolean)) ∈ tb := tb_of (tb_3 (List.mem_of_getElem? (i := 61) rfl)) rfl
theorem k_542 : (Cond.classLink "ChipDesk$Parser" 62 "ChipDesk$Chip") ∈ tb := tb_of (tb_3 (List.mem_of_getElem? (i := 62) rfl)) rfl
theorem k_543 : (Cond.methodLink "ChipDesk$Parser" 64 (⟨"ChipDesk$Parser", "takeName", "()LChipDesk$Name;"⟩ : MethodName)) ∈ tb := tb_of (tb_3 (List.mem_of_getElem? (i := 63) rfl)) rfl
theorem k_545 : (Cond.instanceMethod (⟨"ChipDesk$Parser", "takeName", "()LChipDesk$Name;"⟩ : MethodName)) ∈ tb := tb_of (tb_3 (List.mem_of_getElem? (i := 65) rfl)) rfl
theorem k_546 : (Cond.code (⟨"ChipDesk$Parser", "takeName", "()LChipDesk$Name;"⟩ : MethodName) prog_8_method_15_code 2 (Option.some (ClassFile.FieldType.object "ChipDesk$Name"))) ∈ tb := tb_of (tb_3 (List.mem_of_getElem? (i := 66) rfl)) rfl
theorem k_547 : (Cond.classLink "ChipDesk$Parser" 147 "ChipDesk$Name") ∈ tb := tb_of (tb_3 (List.mem_of_getElem? (i := 67) rfl)) rfl
theorem k_548 : (Cond.methodLink "ChipDesk$Parser" 180 (⟨"ChipDesk$Name", "<init>", "(JJI)V"⟩ : MethodName)) ∈ tb := tb_of (tb_3 (List.mem_of_getElem? (i := 68) rfl)) rfl
theorem k_549 : (Cond.methodLink "ChipDesk$Parser" 183 (⟨"java/lang/Math", "min", "(II)I"⟩ : MethodName)) ∈ tb := tb_of (tb_3 (List.mem_of_getElem? (i := 69) rfl)) rfl
theorem k_550 : (Cond.methodLink "ChipDesk$Parser" 68 (⟨"ChipDesk$Chip", "<init>", "(LChipDesk$Name;II)V"⟩ : MethodName)) ∈ tb := tb_of (tb_3 (List.mem_of_getElem? (i := 70) rfl)) rfl
theorem k_551 : (Cond.methodLink "ChipDesk$Parser" 71 (⟨"java/util/ArrayList", "add", "(Ljava/lang/Object;)Z"⟩ : MethodName)) ∈ tb := tb_of (tb_3 (List.mem_of_getElem? (i := 71) rfl)) rfl
theorem k_552 : (Cond.methodLink "ChipDesk$Parser" 39 (⟨"ChipDesk$Parser", "parsePins", "(LChipDesk$Chip;II)Z"⟩ : MethodName)) ∈ tb := tb_of (tb_3 (List.mem_of_getElem? (i := 72) rfl)) rfl
theorem k_554 : (Cond.instanceMethod (⟨"ChipDesk$Parser", "parsePins", "(LChipDesk$Chip;II)Z"⟩ : MethodName)) ∈ tb := tb_of (tb_3 (List.mem_of_getElem? (i := 74) rfl)) rfl
theorem k_555 : (Cond.code (⟨"ChipDesk$Parser", "parsePins", "(LChipDesk$Chip;II)Z"⟩ : MethodName) prog_8_method_4_code 5 (Option.some ClassFile.FieldType.boolean)) ∈ tb := tb_of (tb_3 (List.mem_of_getElem? (i := 75) rfl)) rfl
theorem k_556 : (Cond.methodLink "ChipDesk$Parser" 75 (⟨"ChipDesk$Parser", "parsePin", "(LChipDesk$Chip;I)Z"⟩ : MethodName)) ∈ tb := tb_of (tb_3 (List.mem_of_getElem? (i := 76) rfl)) rfl
theorem k_558 : (Cond.instanceMethod (⟨"ChipDesk$Parser", "parsePin", "(LChipDesk$Chip;I)Z"⟩ : MethodName)) ∈ tb := tb_of (tb_3 (List.mem_of_getElem? (i := 78) rfl)) rfl
theorem k_559 : (Cond.code (⟨"ChipDesk$Parser", "parsePin", "(LChipDesk$Chip;I)Z"⟩ : MethodName) prog_8_method_5_code 5 (Option.some ClassFile.FieldType.boolean)) ∈ tb := tb_of (tb_3 (List.mem_of_getElem? (i := 79) rfl)) rfl
theorem k_560 : (Cond.classLink "ChipDesk$Parser" 37 "ChipDesk$Wire") ∈ tb := tb_of (tb_3 (List.mem_of_getElem? (i := 80) rfl)) rfl
theorem k_561 : (Cond.methodLink "ChipDesk$Parser" 85 (⟨"ChipDesk$Wire", "<init>", "(LChipDesk$Name;I)V"⟩ : MethodName)) ∈ tb := tb_of (tb_3 (List.mem_of_getElem? (i := 81) rfl)) rfl
theorem k_562 : (Cond.methodLink "ChipDesk$Parser" 88 (⟨"ChipDesk$Chip", "addPin", "(LChipDesk$Wire;)V"⟩ : MethodName)) ∈ tb := tb_of (tb_3 (List.mem_of_getElem? (i := 82) rfl)) rfl
theorem k_563 : (Cond.methodLink "ChipDesk$Parser" 79 (⟨"ChipDesk$Parser", "takes", "(I)Z"⟩ : MethodName)) ∈ tb := tb_of (tb_3 (List.mem_of_getElem? (i := 83) rfl)) rfl
theorem k_565 : (Cond.instanceMethod (⟨"ChipDesk$Parser", "takes", "(I)Z"⟩ : MethodName)) ∈ tb := tb_of (tb_3 (List.mem_of_getElem? (i := 85) rfl)) rfl
theorem k_566 : (Cond.code (⟨"ChipDesk$Parser", "takes", "(I)Z"⟩ : MethodName) prog_8_method_12_code 2 (Option.some ClassFile.FieldType.boolean)) ∈ tb := tb_of (tb_3 (List.mem_of_getElem? (i := 86) rfl)) rfl
theorem k_567 : (Cond.methodLink "ChipDesk$Parser" 99 (⟨"ChipDesk$Wire", "setWidth", "(II)V"⟩ : MethodName)) ∈ tb := tb_of (tb_3 (List.mem_of_getElem? (i := 87) rfl)) rfl
theorem k_568 : (Cond.instanceMethod (⟨"ChipDesk$Wire", "setWidth", "(II)V"⟩ : MethodName)) ∈ tb := tb_of (tb_3 (List.mem_of_getElem? (i := 88) rfl)) rfl
theorem k_569 : (Cond.selects "ChipDesk$Wire" (⟨"ChipDesk$Wire", "setWidth", "(II)V"⟩ : MethodName) (⟨"ChipDesk$Wire", "setWidth", "(II)V"⟩ : MethodName)) ∈ tb := tb_of (tb_3 (List.mem_of_getElem? (i := 89) rfl)) rfl
theorem k_570 : (Cond.code (⟨"ChipDesk$Wire", "setWidth", "(II)V"⟩ : MethodName) prog_12_method_2_code 3 (Option.none : Option ClassFile.FieldType)) ∈ tb := tb_of (tb_3 (List.mem_of_getElem? (i := 90) rfl)) rfl
theorem k_571 : (Cond.methodLink "ChipDesk$Parser" 47 (⟨"ChipDesk$Parser", "parseParts", "(LChipDesk$Chip;)Z"⟩ : MethodName)) ∈ tb := tb_of (tb_3 (List.mem_of_getElem? (i := 91) rfl)) rfl
theorem k_573 : (Cond.instanceMethod (⟨"ChipDesk$Parser", "parseParts", "(LChipDesk$Chip;)Z"⟩ : MethodName)) ∈ tb := tb_of (tb_3 (List.mem_of_getElem? (i := 93) rfl)) rfl
theorem k_574 : (Cond.code (⟨"ChipDesk$Parser", "parseParts", "(LChipDesk$Chip;)Z"⟩ : MethodName) prog_8_method_6_code 4 (Option.some ClassFile.FieldType.boolean)) ∈ tb := tb_of (tb_3 (List.mem_of_getElem? (i := 94) rfl)) rfl
theorem k_575 : (Cond.classLink "ChipDesk$Parser" 106 "ChipDesk$Part") ∈ tb := tb_of (tb_3 (List.mem_of_getElem? (i := 95) rfl)) rfl
theorem k_576 : (Cond.instantiable "ChipDesk$Part" 3) ∈ tb := tb_of (tb_3 (List.mem_of_getElem? (i := 96) rfl)) rfl
theorem k_577 : (Cond.methodLink "ChipDesk$Parser" 108 (⟨"ChipDesk$Part", "<init>", "(LChipDesk$Name;)V"⟩ : MethodName)) ∈ tb := tb_of (tb_3 (List.mem_of_getElem? (i := 97) rfl)) rfl
theorem k_578 : (Cond.instanceMethod (⟨"ChipDesk$Part", "<init>", "(LChipDesk$Name;)V"⟩ : MethodName)) ∈ tb := tb_of (tb_3 (List.mem_of_getElem? (i := 98) rfl)) rfl
theorem k_579 : (Cond.code (⟨"ChipDesk$Part", "<init>", "(LChipDesk$Name;)V"⟩ : MethodName) prog_9_method_1_code 2 (Option.none : Option ClassFile.FieldType)) ∈ tb := tb_of (tb_3 (List.mem_of_getElem? (i := 99) rfl)) rfl
theorem k_580 : (Cond.methodLink "ChipDesk$Part" 1 (⟨"java/lang/Object", "<init>", "()V"⟩ : MethodName)) ∈ tb := tb_of (tb_3 (List.mem_of_getElem? (i := 100) rfl)) rfl
theorem k_581 : (Cond.classLink "ChipDesk$Part" 7 "java/util/ArrayList") ∈ tb := tb_of (tb_3 (List.mem_of_getElem? (i := 101) rfl)) rfl
theorem k_582 : (Cond.methodLink "ChipDesk$Part" 9 (⟨"java/util/ArrayList", "<init>", "()V"⟩ : MethodName)) ∈ tb := tb_of (tb_3 (List.mem_of_getElem? (i := 102) rfl)) rfl
theorem k_583 : (Cond.fieldLink "ChipDesk$Part" 20 "ChipDesk$Part" "name" "LChipDesk$Name;") ∈ tb := tb_of (tb_3 (List.mem_of_getElem? (i := 103) rfl)) rfl
theorem k_584 : (Cond.fieldLink "ChipDesk$Checker" 94 "ChipDesk$Part" "name" "LChipDesk$Name;") ∈ tb := tb_of (tb_3 (List.mem_of_getElem? (i := 104) rfl)) rfl
theorem k_585 : (Cond.fieldLink "ChipDesk$Part" 10 "ChipDesk$Part" "links" "Ljava/util/ArrayList;") ∈ tb := tb_of (tb_3 (List.mem_of_getElem? (i := 105) rfl)) rfl
theorem k_586 : (Cond.fieldLink "ChipDesk$Checker" 98 "ChipDesk$Part" "links" "Ljava/util/ArrayList;") ∈ tb := tb_of (tb_3 (List.mem_of_getElem? (i := 106) rfl)) rfl
theorem k_587 : (Cond.fieldLink "ChipDesk$Board" 119 "ChipDesk$Part" "links" "Ljava/util/ArrayList;") ∈ tb := tb_of (tb_3 (List.mem_of_getElem? (i := 107) rfl)) rfl
theorem k_588 : (Cond.fieldLink "ChipDesk$Parser" 128 "ChipDesk$Part" "links" "Ljava/util/ArrayList;") ∈ tb := tb_of (tb_3 (List.mem_of_getElem? (i := 108) rfl)) rfl
theorem k_589 : (Cond.fieldLink "ChipDesk$Part" 16 "ChipDesk$Part" "chip" "LChipDesk$Chip;") ∈ tb := tb_of (tb_3 (List.mem_of_getElem? (i := 109) rfl)) rfl
theorem k_590 : (Cond.fieldLink "ChipDesk$Checker" 95 "ChipDesk$Part" "chip" "LChipDesk$Chip;") ∈ tb := tb_of (tb_3 (List.mem_of_getElem? (i := 110) rfl)) rfl
theorem k_591 : (Cond.fieldLink "ChipDesk$Board" 118 "ChipDesk$Part" "chip" "LChipDesk$Chip;") ∈ tb := tb_of (tb_3 (List.mem_of_getElem? (i := 111) rfl)) rfl
theorem k_592 : (Cond.laysFinal "ChipDesk$Part" "ChipDesk$Part" "name" "LChipDesk$Name;") ∈ tb := tb_of (tb_3 (List.mem_of_getElem? (i := 112) rfl)) rfl
theorem k_594 : (Cond.laysFinal "ChipDesk$Part" "ChipDesk$Part" "links" "Ljava/util/ArrayList;") ∈ tb := tb_of (tb_3 (List.mem_of_getElem? (i := 114) rfl)) rfl
theorem k_596 : (Cond.lays "ChipDesk$Part" "ChipDesk$Part" "chip" "LChipDesk$Chip;") ∈ tb := tb_of (tb_3 (List.mem_of_getElem? (i := 116) rfl)) rfl
theorem k_598 : (Cond.superclass "ChipDesk$Part" "java/lang/Object") ∈ tb := tb_of (tb_3 (List.mem_of_getElem? (i := 118) rfl)) rfl
theorem k_599 : (Cond.methodLink "ChipDesk$Parser" 111 (⟨"ChipDesk$Parser", "parseLinks", "(LChipDesk$Chip;LChipDesk$Part;)Z"⟩ : MethodName)) ∈ tb := tb_of (tb_3 (List.mem_of_getElem? (i := 119) rfl)) rfl
theorem k_601 : (Cond.instanceMethod (⟨"ChipDesk$Parser", "parseLinks", "(LChipDesk$Chip;LChipDesk$Part;)Z"⟩ : MethodName)) ∈ tb := tb_of (tb_3 (List.mem_of_getElem? (i := 121) rfl)) rfl
theorem k_602 : (Cond.code (⟨"ChipDesk$Parser", "parseLinks", "(LChipDesk$Chip;LChipDesk$Part;)Z"⟩ : MethodName) prog_8_method_7_code 4 (Option.some ClassFile.FieldType.boolean)) ∈ tb := tb_of (tb_3 (List.mem_of_getElem? (i := 122) rfl)) rfl
theorem k_603 : (Cond.methodLink "ChipDesk$Parser" 115 (⟨"ChipDesk$Parser", "parseLink", "(LChipDesk$Chip;LChipDesk$Part;)Z"⟩ : MethodName)) ∈ tb := tb_of (tb_3 (List.mem_of_getElem? (i := 123) rfl)) rfl
theorem k_605 : (Cond.instanceMethod (⟨"ChipDesk$Parser", "parseLink", "(LChipDesk$Chip;LChipDesk$Part;)Z"⟩ : MethodName)) ∈ tb := tb_of (tb_3 (List.mem_of_getElem? (i := 125) rfl)) rfl
theorem k_606 : (Cond.code (⟨"ChipDesk$Parser", "parseLink", "(LChipDesk$Chip;LChipDesk$Part;)Z"⟩ : MethodName) prog_8_method_8_code 6 (Option.some ClassFile.FieldType.boolean)) ∈ tb := tb_of (tb_3 (List.mem_of_getElem? (i := 126) rfl)) rfl
theorem k_607 : (Cond.classLink "ChipDesk$Parser" 118 "ChipDesk$Side") ∈ tb := tb_of (tb_3 (List.mem_of_getElem? (i := 127) rfl)) rfl
theorem k_608 : (Cond.instantiable "ChipDesk$Side" 5) ∈ tb := tb_of (tb_3 (List.mem_of_getElem? (i := 128) rfl)) rfl
theorem k_609 : (Cond.methodLink "ChipDesk$Parser" 120 (⟨"ChipDesk$Side", "<init>", "(LChipDesk$Name;)V"⟩ : MethodName)) ∈ tb := tb_of (tb_3 (List.mem_of_getElem? (i := 129) rfl)) rfl
theorem k_610 : (Cond.instanceMethod (⟨"ChipDesk$Side", "<init>", "(LChipDesk$Name;)V"⟩ : MethodName)) ∈ tb := tb_of (tb_3 (List.mem_of_getElem? (i := 130) rfl)) rfl
theorem k_611 : (Cond.code (⟨"ChipDesk$Side", "<init>", "(LChipDesk$Name;)V"⟩ : MethodName) prog_10_method_1_code 2 (Option.none : Option ClassFile.FieldType)) ∈ tb := tb_of (tb_3 (List.mem_of_getElem? (i := 131) rfl)) rfl
theorem k_612 : (Cond.methodLink "ChipDesk$Side" 1 (⟨"java/lang/Object", "<init>", "()V"⟩ : MethodName)) ∈ tb := tb_of (tb_3 (List.mem_of_getElem? (i := 132) rfl)) rfl
theorem k_613 : (Cond.fieldLink "ChipDesk$Side" 22 "ChipDesk$Side" "name" "LChipDesk$Name;") ∈ tb := tb_of (tb_3 (List.mem_of_getElem? (i := 133) rfl)) rfl
theorem k_614 : (Cond.fieldLink "ChipDesk$Checker" 110 "ChipDesk$Side" "name" "LChipDesk$Name;") ∈ tb := tb_of (tb_3 (List.mem_of_getElem? (i := 134) rfl)) rfl
theorem k_615 : (Cond.fieldLink "ChipDesk$Parser" 136 "ChipDesk$Side" "name" "LChipDesk$Name;") ∈ tb := tb_of (tb_3 (List.mem_of_getElem? (i := 135) rfl)) rfl
theorem k_616 : (Cond.fieldLink "ChipDesk$Side" 9 "ChipDesk$Side" "constant" "I") ∈ tb := tb_of (tb_3 (List.mem_of_getElem? (i := 136) rfl)) rfl
theorem k_617 : (Cond.fieldLink "ChipDesk$Board" 163 "ChipDesk$Side" "constant" "I") ∈ tb := tb_of (tb_3 (List.mem_of_getElem? (i := 137) rfl)) rfl
theorem k_618 : (Cond.fieldLink "ChipDesk$Parser" 125 "ChipDesk$Side" "constant" "I") ∈ tb := tb_of (tb_3 (List.mem_of_getElem? (i := 138) rfl)) rfl
theorem k_619 : (Cond.fieldLink "ChipDesk$Side" 13 "ChipDesk$Side" "rangePlace" "I") ∈ tb := tb_of (tb_3 (List.mem_of_getElem? (i := 139) rfl)) rfl
theorem k_620 : (Cond.fieldLink "ChipDesk$Checker" 158 "ChipDesk$Side" "rangePlace" "I") ∈ tb := tb_of (tb_3 (List.mem_of_getElem? (i := 140) rfl)) rfl
theorem k_621 : (Cond.fieldLink "ChipDesk$Parser" 161 "ChipDesk$Side" "rangePlace" "I") ∈ tb := tb_of (tb_3 (List.mem_of_getElem? (i := 141) rfl)) rfl
theorem k_622 : (Cond.fieldLink "ChipDesk$Side" 16 "ChipDesk$Side" "low" "I") ∈ tb := tb_of (tb_3 (List.mem_of_getElem? (i := 142) rfl)) rfl
theorem k_623 : (Cond.fieldLink "ChipDesk$Board" 149 "ChipDesk$Side" "low" "I") ∈ tb := tb_of (tb_3 (List.mem_of_getElem? (i := 143) rfl)) rfl
theorem k_624 : (Cond.fieldLink "ChipDesk$Parser" 164 "ChipDesk$Side" "low" "I") ∈ tb := tb_of (tb_3 (List.mem_of_getElem? (i := 144) rfl)) rfl
theorem k_625 : (Cond.fieldLink "ChipDesk$Side" 19 "ChipDesk$Side" "high" "I") ∈ tb := tb_of (tb_3 (List.mem_of_getElem? (i := 145) rfl)) rfl
theorem k_626 : (Cond.fieldLink "ChipDesk$Parser" 167 "ChipDesk$Side" "high" "I") ∈ tb := tb_of (tb_3 (List.mem_of_getElem? (i := 146) rfl)) rfl
theorem k_627 : (Cond.laysFinal "ChipDesk$Side" "ChipDesk$Side" "name" "LChipDesk$Name;") ∈ tb := tb_of (tb_3 (List.mem_of_getElem? (i := 147) rfl)) rfl
theorem k_629 : (Cond.lays "ChipDesk$Side" "ChipDesk$Side" "constant" "I") ∈ tb := tb_of (tb_3 (List.mem_of_getElem? (i := 149) rfl)) rfl
theorem k_631 : (Cond.lays "ChipDesk$Side" "ChipDesk$Side" "rangePlace" "I") ∈ tb := tb_of (tb_3 (List.mem_of_getElem? (i := 151) rfl)) rfl
theorem k_633 : (Cond.lays "ChipDesk$Side" "ChipDesk$Side" "low" "I") ∈ tb := tb_of (tb_3 (List.mem_of_getElem? (i := 153) rfl)) rfl
theorem k_635 : (Cond.lays "ChipDesk$Side" "ChipDesk$Side" "high" "I") ∈ tb := tb_of (tb_3 (List.mem_of_getElem? (i := 155) rfl)) rfl
theorem k_637 : (Cond.superclass "ChipDesk$Side" "java/lang/Object") ∈ tb := tb_of (tb_3 (List.mem_of_getElem? (i := 157) rfl)) rfl
theorem k_638 : (Cond.methodLink "ChipDesk$Parser" 121 (⟨"ChipDesk$Parser", "parseRange", "(LChipDesk$Side;)Z"⟩ : MethodName)) ∈ tb := tb_of (tb_3 (List.mem_of_getElem? (i := 158) rfl)) rfl
theorem k_640 : (Cond.instanceMethod (⟨"ChipDesk$Parser", "parseRange", "(LChipDesk$Side;)Z"⟩ : MethodName)) ∈ tb := tb_of (tb_3 (List.mem_of_getElem? (i := 160) rfl)) rfl
theorem k_641 : (Cond.code (⟨"ChipDesk$Parser", "parseRange", "(LChipDesk$Side;)Z"⟩ : MethodName) prog_8_method_10_code 5 (Option.some ClassFile.FieldType.boolean)) ∈ tb := tb_of (tb_3 (List.mem_of_getElem? (i := 161) rfl)) rfl
theorem k_642 : (Cond.methodLink "ChipDesk$Parser" 51 (⟨"ChipDesk$Parser", "sees", "(I)Z"⟩ : MethodName)) ∈ tb := tb_of (tb_3 (List.mem_of_getElem? (i := 162) rfl)) rfl
theorem k_644 : (Cond.instanceMethod (⟨"ChipDesk$Parser", "sees", "(I)Z"⟩ : MethodName)) ∈ tb := tb_of (tb_3 (List.mem_of_getElem? (i := 164) rfl)) rfl
theorem k_645 : (Cond.code (⟨"ChipDesk$Parser", "sees", "(I)Z"⟩ : MethodName) prog_8_method_11_code 2 (Option.some ClassFile.FieldType.boolean)) ∈ tb := tb_of (tb_3 (List.mem_of_getElem? (i := 165) rfl)) rfl
theorem k_646 : (Cond.classLink "ChipDesk$Parser" 131 "ChipDesk$Link") ∈ tb := tb_of (tb_3 (List.mem_of_getElem? (i := 166) rfl)) rfl
theorem k_647 : (Cond.instantiable "ChipDesk$Link" 4) ∈ tb := tb_of (tb_3 (List.mem_of_getElem? (i := 167) rfl)) rfl
theorem k_648 : (Cond.methodLink "ChipDesk$Parser" 133 (⟨"ChipDesk$Link", "<init>", "(LChipDesk$Side;LChipDesk$Side;LChipDesk$Wire;)V"⟩ : MethodName)) ∈ tb := tb_of (tb_3 (List.mem_of_getElem? (i := 168) rfl)) rfl
theorem k_649 : (Cond.instanceMethod (⟨"ChipDesk$Link", "<init>", "(LChipDesk$Side;LChipDesk$Side;LChipDesk$Wire;)V"⟩ : MethodName)) ∈ tb := tb_of (tb_3 (List.mem_of_getElem? (i := 169) rfl)) rfl
theorem k_650 : (Cond.code (⟨"ChipDesk$Link", "<init>", "(LChipDesk$Side;LChipDesk$Side;LChipDesk$Wire;)V"⟩ : MethodName) prog_6_method_1_code 4 (Option.none : Option ClassFile.FieldType)) ∈ tb := tb_of (tb_3 (List.mem_of_getElem? (i := 170) rfl)) rfl
theorem k_651 : (Cond.methodLink "ChipDesk$Link" 1 (⟨"java/lang/Object", "<init>", "()V"⟩ : MethodName)) ∈ tb := tb_of (tb_3 (List.mem_of_getElem? (i := 171) rfl)) rfl
theorem k_652 : (Cond.fieldLink "ChipDesk$Link" 13 "ChipDesk$Link" "left" "LChipDesk$Side;") ∈ tb := tb_of (tb_3 (List.mem_of_getElem? (i := 172) rfl)) rfl
theorem k_653 : (Cond.fieldLink "ChipDesk$Checker" 106 "ChipDesk$Link" "left" "LChipDesk$Side;") ∈ tb := tb_of (tb_3 (List.mem_of_getElem? (i := 173) rfl)) rfl
theorem k_654 : (Cond.fieldLink "ChipDesk$Board" 145 "ChipDesk$Link" "left" "LChipDesk$Side;") ∈ tb := tb_of (tb_3 (List.mem_of_getElem? (i := 174) rfl)) rfl
theorem k_655 : (Cond.fieldLink "ChipDesk$Link" 17 "ChipDesk$Link" "right" "LChipDesk$Side;") ∈ tb := tb_of (tb_3 (List.mem_of_getElem? (i := 175) rfl)) rfl
theorem k_656 : (Cond.fieldLink "ChipDesk$Board" 160 "ChipDesk$Link" "right" "LChipDesk$Side;") ∈ tb := tb_of (tb_3 (List.mem_of_getElem? (i := 176) rfl)) rfl
theorem k_657 : (Cond.fieldLink "ChipDesk$Checker" 161 "ChipDesk$Link" "right" "LChipDesk$Side;") ∈ tb := tb_of (tb_3 (List.mem_of_getElem? (i := 177) rfl)) rfl
theorem k_658 : (Cond.fieldLink "ChipDesk$Link" 7 "ChipDesk$Link" "pin" "LChipDesk$Wire;") ∈ tb := tb_of (tb_3 (List.mem_of_getElem? (i := 178) rfl)) rfl
theorem k_659 : (Cond.fieldLink "ChipDesk$Checker" 117 "ChipDesk$Link" "pin" "LChipDesk$Wire;") ∈ tb := tb_of (tb_3 (List.mem_of_getElem? (i := 179) rfl)) rfl
theorem k_660 : (Cond.fieldLink "ChipDesk$Board" 135 "ChipDesk$Link" "pin" "LChipDesk$Wire;") ∈ tb := tb_of (tb_3 (List.mem_of_getElem? (i := 180) rfl)) rfl
theorem k_661 : (Cond.fieldLink "ChipDesk$Link" 20 "ChipDesk$Link" "wire" "LChipDesk$Wire;") ∈ tb := tb_of (tb_3 (List.mem_of_getElem? (i := 181) rfl)) rfl
theorem k_662 : (Cond.fieldLink "ChipDesk$Checker" 125 "ChipDesk$Link" "wire" "LChipDesk$Wire;") ∈ tb := tb_of (tb_3 (List.mem_of_getElem? (i := 182) rfl)) rfl
theorem k_663 : (Cond.fieldLink "ChipDesk$Board" 139 "ChipDesk$Link" "wire" "LChipDesk$Wire;") ∈ tb := tb_of (tb_3 (List.mem_of_getElem? (i := 183) rfl)) rfl
theorem k_664 : (Cond.laysFinal "ChipDesk$Link" "ChipDesk$Link" "left" "LChipDesk$Side;") ∈ tb := tb_of (tb_3 (List.mem_of_getElem? (i := 184) rfl)) rfl
theorem k_666 : (Cond.laysFinal "ChipDesk$Link" "ChipDesk$Link" "right" "LChipDesk$Side;") ∈ tb := tb_of (tb_3 (List.mem_of_getElem? (i := 186) rfl)) rfl
theorem k_668 : (Cond.lays "ChipDesk$Link" "ChipDesk$Link" "pin" "LChipDesk$Wire;") ∈ tb := tb_of (tb_3 (List.mem_of_getElem? (i := 188) rfl)) rfl
theorem k_670 : (Cond.laysFinal "ChipDesk$Link" "ChipDesk$Link" "wire" "LChipDesk$Wire;") ∈ tb := tb_of (tb_3 (List.mem_of_getElem? (i := 190) rfl)) rfl
theorem k_672 : (Cond.superclass "ChipDesk$Link" "java/lang/Object") ∈ tb := tb_of (tb_3 (List.mem_of_getElem? (i := 192) rfl)) rfl
theorem k_673 : (Cond.methodLink "ChipDesk$Parser" 140 (⟨"ChipDesk$Parser", "findOrAddInner", "(LChipDesk$Chip;LChipDesk$Name;)LChipDesk$Wire;"⟩ : MethodName)) ∈ tb := tb_of (tb_3 (List.mem_of_getElem? (i := 193) rfl)) rfl
theorem k_674 : (Cond.static (⟨"ChipDesk$Parser", "findOrAddInner", "(LChipDesk$Chip;LChipDesk$Name;)LChipDesk$Wire;"⟩ : MethodName)) ∈ tb := tb_of (tb_3 (List.mem_of_getElem? (i := 194) rfl)) rfl
theorem k_675 : (Cond.code (⟨"ChipDesk$Parser", "findOrAddInner", "(LChipDesk$Chip;LChipDesk$Name;)LChipDesk$Wire;"⟩ : MethodName) prog_8_method_9_code 3 (Option.some (ClassFile.FieldType.object "ChipDesk$Wire"))) ∈ tb := tb_of (tb_3 (List.mem_of_getElem? (i := 195) rfl)) rfl
theorem k_676 : (Cond.methodLink "ChipDesk$Parser" 154 (⟨"ChipDesk$Chip", "find", "(Ljava/util/ArrayList;LChipDesk$Name;)LChipDesk$Wire;"⟩ : MethodName)) ∈ tb := tb_of (tb_3 (List.mem_of_getElem? (i := 196) rfl)) rfl
theorem k_677 : (Cond.static (⟨"ChipDesk$Chip", "find", "(Ljava/util/ArrayList;LChipDesk$Name;)LChipDesk$Wire;"⟩ : MethodName)) ∈ tb := tb_of (tb_3 (List.mem_of_getElem? (i := 197) rfl)) rfl
theorem k_678 : (Cond.code (⟨"ChipDesk$Chip", "find", "(Ljava/util/ArrayList;LChipDesk$Name;)LChipDesk$Wire;"⟩ : MethodName) prog_4_method_6_code 3 (Option.some (ClassFile.FieldType.object "ChipDesk$Wire"))) ∈ tb := tb_of (tb_3 (List.mem_of_getElem? (i := 198) rfl)) rfl
theorem k_679 : (Cond.methodLink "ChipDesk$Chip" 96 (⟨"ChipDesk$Name", "same", "(LChipDesk$Name;)Z"⟩ : MethodName)) ∈ tb := tb_of (tb_3 (List.mem_of_getElem? (i := 199) rfl)) rfl
theorem k_680 : (Cond.instanceMethod (⟨"ChipDesk$Name", "same", "(LChipDesk$Name;)Z"⟩ : MethodName)) ∈ tb := tb_of (tb_3 (List.mem_of_getElem? (i := 200) rfl)) rfl
theorem k_681 : (Cond.selects "ChipDesk$Name" (⟨"ChipDesk$Name", "same", "(LChipDesk$Name;)Z"⟩ : MethodName) (⟨"ChipDesk$Name", "same", "(LChipDesk$Name;)Z"⟩ : MethodName)) ∈ tb := tb_of (tb_3 (List.mem_of_getElem? (i := 201) rfl)) rfl
theorem k_682 : (Cond.code (⟨"ChipDesk$Name", "same", "(LChipDesk$Name;)Z"⟩ : MethodName) prog_7_method_2_code 2 (Option.some ClassFile.FieldType.boolean)) ∈ tb := tb_of (tb_3 (List.mem_of_getElem? (i := 202) rfl)) rfl
theorem k_683 : (Cond.methodLink "ChipDesk" 67 (⟨"ChipDesk$Checker", "check", "()Z"⟩ : MethodName)) ∈ tb := tb_of (tb_3 (List.mem_of_getElem? (i := 203) rfl)) rfl
theorem k_684 : (Cond.instanceMethod (⟨"ChipDesk$Checker", "check", "()Z"⟩ : MethodName)) ∈ tb := tb_of (tb_3 (List.mem_of_getElem? (i := 204) rfl)) rfl
theorem k_685 : (Cond.selects "ChipDesk$Checker" (⟨"ChipDesk$Checker", "check", "()Z"⟩ : MethodName) (⟨"ChipDesk$Checker", "check", "()Z"⟩ : MethodName)) ∈ tb := tb_of (tb_3 (List.mem_of_getElem? (i := 205) rfl)) rfl
theorem k_686 : (Cond.code (⟨"ChipDesk$Checker", "check", "()Z"⟩ : MethodName) prog_3_method_2_code 3 (Option.some ClassFile.FieldType.boolean)) ∈ tb := tb_of (tb_3 (List.mem_of_getElem? (i := 206) rfl)) rfl
theorem k_687 : (Cond.methodLink "ChipDesk$Checker" 37 (⟨"java/util/ArrayList", "size", "()I"⟩ : MethodName)) ∈ tb := tb_of (tb_3 (List.mem_of_getElem? (i := 207) rfl)) rfl
theorem k_688 : (Cond.methodLink "ChipDesk$Checker" 43 (⟨"java/util/ArrayList", "get", "(I)Ljava/lang/Object;"⟩ : MethodName)) ∈ tb := tb_of (tb_3 (List.mem_of_getElem? (i := 208) rfl)) rfl
theorem k_689 : (Cond.classLink "ChipDesk$Checker" 8 "ChipDesk$Chip") ∈ tb := tb_of (tb_3 (List.mem_of_getElem? (i := 209) rfl)) rfl
theorem k_690 : (Cond.methodLink "ChipDesk$Checker" 51 (⟨"ChipDesk$Checker", "findChip", "(LChipDesk$Name;)LChipDesk$Chip;"⟩ : MethodName)) ∈ tb := tb_of (tb_3 (List.mem_of_getElem? (i := 210) rfl)) rfl
theorem k_692 : (Cond.instanceMethod (⟨"ChipDesk$Checker", "findChip", "(LChipDesk$Name;)LChipDesk$Chip;"⟩ : MethodName)) ∈ tb := tb_of (tb_3 (List.mem_of_getElem? (i := 212) rfl)) rfl
theorem k_693 : (Cond.code (⟨"ChipDesk$Checker", "findChip", "(LChipDesk$Name;)LChipDesk$Chip;"⟩ : MethodName) prog_3_method_3_code 3 (Option.some (ClassFile.FieldType.object "ChipDesk$Chip"))) ∈ tb := tb_of (tb_3 (List.mem_of_getElem? (i := 213) rfl)) rfl
theorem k_694 : (Cond.methodLink "ChipDesk$Checker" 85 (⟨"ChipDesk$Name", "same", "(LChipDesk$Name;)Z"⟩ : MethodName)) ∈ tb := tb_of (tb_3 (List.mem_of_getElem? (i := 214) rfl)) rfl
theorem k_695 : (Cond.methodLink "ChipDesk$Checker" 63 (⟨"ChipDesk$Fault", "note", "(II)Z"⟩ : MethodName)) ∈ tb := tb_of (tb_3 (List.mem_of_getElem? (i := 215) rfl)) rfl
theorem k_696 : (Cond.methodLink "ChipDesk$Checker" 67 (⟨"ChipDesk$Checker", "resolve", "(LChipDesk$Chip;)V"⟩ : MethodName)) ∈ tb := tb_of (tb_3 (List.mem_of_getElem? (i := 216) rfl)) rfl
theorem k_698 : (Cond.instanceMethod (⟨"ChipDesk$Checker", "resolve", "(LChipDesk$Chip;)V"⟩ : MethodName)) ∈ tb := tb_of (tb_3 (List.mem_of_getElem? (i := 218) rfl)) rfl
theorem k_699 : (Cond.code (⟨"ChipDesk$Checker", "resolve", "(LChipDesk$Chip;)V"⟩ : MethodName) prog_3_method_4_code 6 (Option.none : Option ClassFile.FieldType)) ∈ tb := tb_of (tb_3 (List.mem_of_getElem? (i := 219) rfl)) rfl
theorem k_700 : (Cond.classLink "ChipDesk$Checker" 92 "ChipDesk$Part") ∈ tb := tb_of (tb_3 (List.mem_of_getElem? (i := 220) rfl)) rfl
theorem k_701 : (Cond.classLink "ChipDesk$Checker" 101 "ChipDesk$Link") ∈ tb := tb_of (tb_3 (List.mem_of_getElem? (i := 221) rfl)) rfl
theorem k_702 : (Cond.methodLink "ChipDesk$Checker" 113 (⟨"ChipDesk$Chip", "find", "(Ljava/util/ArrayList;LChipDesk$Name;)LChipDesk$Wire;"⟩ : MethodName)) ∈ tb := tb_of (tb_3 (List.mem_of_getElem? (i := 222) rfl)) rfl
theorem k_703 : (Cond.methodLink "ChipDesk$Checker" 121 (⟨"ChipDesk$Checker", "giveInner", "(LChipDesk$Link;)V"⟩ : MethodName)) ∈ tb := tb_of (tb_3 (List.mem_of_getElem? (i := 223) rfl)) rfl
theorem k_704 : (Cond.static (⟨"ChipDesk$Checker", "giveInner", "(LChipDesk$Link;)V"⟩ : MethodName)) ∈ tb := tb_of (tb_3 (List.mem_of_getElem? (i := 224) rfl)) rfl
theorem k_705 : (Cond.code (⟨"ChipDesk$Checker", "giveInner", "(LChipDesk$Link;)V"⟩ : MethodName) prog_3_method_5_code 3 (Option.none : Option ClassFile.FieldType)) ∈ tb := tb_of (tb_3 (List.mem_of_getElem? (i := 225) rfl)) rfl
theorem k_706 : (Cond.methodLink "ChipDesk$Checker" 140 (⟨"ChipDesk$Side", "fits", "(I)Z"⟩ : MethodName)) ∈ tb := tb_of (tb_3 (List.mem_of_getElem? (i := 226) rfl)) rfl
theorem k_707 : (Cond.instanceMethod (⟨"ChipDesk$Side", "fits", "(I)Z"⟩ : MethodName)) ∈ tb := tb_of (tb_3 (List.mem_of_getElem? (i := 227) rfl)) rfl
theorem k_708 : (Cond.selects "ChipDesk$Side" (⟨"ChipDesk$Side", "fits", "(I)Z"⟩ : MethodName) (⟨"ChipDesk$Side", "fits", "(I)Z"⟩ : MethodName)) ∈ tb := tb_of (tb_3 (List.mem_of_getElem? (i := 228) rfl)) rfl
theorem k_709 : (Cond.code (⟨"ChipDesk$Side", "fits", "(I)Z"⟩ : MethodName) prog_10_method_3_code 2 (Option.some ClassFile.FieldType.boolean)) ∈ tb := tb_of (tb_3 (List.mem_of_getElem? (i := 229) rfl)) rfl
theorem k_710 : (Cond.methodLink "ChipDesk$Side" 26 (⟨"ChipDesk$Side", "hasRange", "()Z"⟩ : MethodName)) ∈ tb := tb_of (tb_3 (List.mem_of_getElem? (i := 230) rfl)) rfl
theorem k_711 : (Cond.instanceMethod (⟨"ChipDesk$Side", "hasRange", "()Z"⟩ : MethodName)) ∈ tb := tb_of (tb_3 (List.mem_of_getElem? (i := 231) rfl)) rfl
theorem k_712 : (Cond.selects "ChipDesk$Side" (⟨"ChipDesk$Side", "hasRange", "()Z"⟩ : MethodName) (⟨"ChipDesk$Side", "hasRange", "()Z"⟩ : MethodName)) ∈ tb := tb_of (tb_3 (List.mem_of_getElem? (i := 232) rfl)) rfl
theorem k_713 : (Cond.code (⟨"ChipDesk$Side", "hasRange", "()Z"⟩ : MethodName) prog_10_method_2_code 1 (Option.some ClassFile.FieldType.boolean)) ∈ tb := tb_of (tb_3 (List.mem_of_getElem? (i := 233) rfl)) rfl
theorem k_714 : (Cond.methodLink "ChipDesk$Checker" 144 (⟨"ChipDesk$Side", "width", "(I)I"⟩ : MethodName)) ∈ tb := tb_of (tb_3 (List.mem_of_getElem? (i := 234) rfl)) rfl
theorem k_715 : (Cond.instanceMethod (⟨"ChipDesk$Side", "width", "(I)I"⟩ : MethodName)) ∈ tb := tb_of (tb_3 (List.mem_of_getElem? (i := 235) rfl)) rfl
theorem k_716 : (Cond.selects "ChipDesk$Side" (⟨"ChipDesk$Side", "width", "(I)I"⟩ : MethodName) (⟨"ChipDesk$Side", "width", "(I)I"⟩ : MethodName)) ∈ tb := tb_of (tb_3 (List.mem_of_getElem? (i := 236) rfl)) rfl
theorem k_717 : (Cond.code (⟨"ChipDesk$Side", "width", "(I)I"⟩ : MethodName) prog_10_method_4_code 2 (Option.some ClassFile.FieldType.int)) ∈ tb := tb_of (tb_3 (List.mem_of_getElem? (i := 237) rfl)) rfl
theorem k_718 : (Cond.methodLink "ChipDesk$Checker" 71 (⟨"ChipDesk$Checker", "checkPins", "(LChipDesk$Chip;)Z"⟩ : MethodName)) ∈ tb := tb_of (tb_3 (List.mem_of_getElem? (i := 238) rfl)) rfl
theorem k_720 : (Cond.instanceMethod (⟨"ChipDesk$Checker", "checkPins", "(LChipDesk$Chip;)Z"⟩ : MethodName)) ∈ tb := tb_of (tb_4 (List.mem_of_getElem? (i := 0) rfl)) rfl
theorem k_721 : (Cond.code (⟨"ChipDesk$Checker", "checkPins", "(LChipDesk$Chip;)Z"⟩ : MethodName) prog_3_method_6_code 4 (Option.some ClassFile.FieldType.boolean)) ∈ tb := tb_of (tb_4 (List.mem_of_getElem? (i := 1) rfl)) rfl
theorem k_722 : (Cond.classLink "ChipDesk$Checker" 129 "ChipDesk$Wire") ∈ tb := tb_of (tb_4 (List.mem_of_getElem? (i := 2) rfl)) rfl
theorem k_723 : (Cond.methodLink "ChipDesk$Checker" 75 (⟨"ChipDesk$Checker", "checkParts", "(LChipDesk$Chip;)Z"⟩ : MethodName)) ∈ tb := tb_of (tb_4 (List.mem_of_getElem? (i := 3) rfl)) rfl
theorem k_725 : (Cond.instanceMethod (⟨"ChipDesk$Checker", "checkParts", "(LChipDesk$Chip;)Z"⟩ : MethodName)) ∈ tb := tb_of (tb_4 (List.mem_of_getElem? (i := 5) rfl)) rfl
theorem k_726 : (Cond.code (⟨"ChipDesk$Checker", "checkParts", "(LChipDesk$Chip;)Z"⟩ : MethodName) prog_3_method_7_code 5 (Option.some ClassFile.FieldType.boolean)) ∈ tb := tb_of (tb_4 (List.mem_of_getElem? (i := 6) rfl)) rfl
theorem k_727 : (Cond.methodLink "ChipDesk$Checker" 151 (⟨"ChipDesk$Chip", "freeInPins", "()V"⟩ : MethodName)) ∈ tb := tb_of (tb_4 (List.mem_of_getElem? (i := 7) rfl)) rfl
theorem k_728 : (Cond.instanceMethod (⟨"ChipDesk$Chip", "freeInPins", "()V"⟩ : MethodName)) ∈ tb := tb_of (tb_4 (List.mem_of_getElem? (i := 8) rfl)) rfl
theorem k_729 : (Cond.selects "ChipDesk$Chip" (⟨"ChipDesk$Chip", "freeInPins", "()V"⟩ : MethodName) (⟨"ChipDesk$Chip", "freeInPins", "()V"⟩ : MethodName)) ∈ tb := tb_of (tb_4 (List.mem_of_getElem? (i := 9) rfl)) rfl
theorem k_730 : (Cond.code (⟨"ChipDesk$Chip", "freeInPins", "()V"⟩ : MethodName) prog_4_method_7_code 2 (Option.none : Option ClassFile.FieldType)) ∈ tb := tb_of (tb_4 (List.mem_of_getElem? (i := 10) rfl)) rfl
theorem k_731 : (Cond.methodLink "ChipDesk$Checker" 154 (⟨"ChipDesk$Checker", "checkLink", "(LChipDesk$Link;)Z"⟩ : MethodName)) ∈ tb := tb_of (tb_4 (List.mem_of_getElem? (i := 11) rfl)) rfl
theorem k_733 : (Cond.instanceMethod (⟨"ChipDesk$Checker", "checkLink", "(LChipDesk$Link;)Z"⟩ : MethodName)) ∈ tb := tb_of (tb_4 (List.mem_of_getElem? (i := 13) rfl)) rfl
theorem k_734 : (Cond.code (⟨"ChipDesk$Checker", "checkLink", "(LChipDesk$Link;)Z"⟩ : MethodName) prog_3_method_8_code 5 (Option.some ClassFile.FieldType.boolean)) ∈ tb := tb_of (tb_4 (List.mem_of_getElem? (i := 14) rfl)) rfl
theorem k_735 : (Cond.methodLink "ChipDesk$Checker" 164 (⟨"ChipDesk$Checker", "checkTarget", "(LChipDesk$Wire;LChipDesk$Side;I)Z"⟩ : MethodName)) ∈ tb := tb_of (tb_4 (List.mem_of_getElem? (i := 15) rfl)) rfl
theorem k_737 : (Cond.instanceMethod (⟨"ChipDesk$Checker", "checkTarget", "(LChipDesk$Wire;LChipDesk$Side;I)Z"⟩ : MethodName)) ∈ tb := tb_of (tb_4 (List.mem_of_getElem? (i := 17) rfl)) rfl
theorem k_738 : (Cond.code (⟨"ChipDesk$Checker", "checkTarget", "(LChipDesk$Wire;LChipDesk$Side;I)Z"⟩ : MethodName) prog_3_method_9_code 5 (Option.some ClassFile.FieldType.boolean)) ∈ tb := tb_of (tb_4 (List.mem_of_getElem? (i := 18) rfl)) rfl
theorem k_739 : (Cond.methodLink "ChipDesk$Checker" 177 (⟨"ChipDesk$Checker", "rangeIsRight", "(LChipDesk$Wire;LChipDesk$Side;)Z"⟩ : MethodName)) ∈ tb := tb_of (tb_4 (List.mem_of_getElem? (i := 19) rfl)) rfl
theorem k_740 : (Cond.static (⟨"ChipDesk$Checker", "rangeIsRight", "(LChipDesk$Wire;LChipDesk$Side;)Z"⟩ : MethodName)) ∈ tb := tb_of (tb_4 (List.mem_of_getElem? (i := 20) rfl)) rfl
theorem k_741 : (Cond.code (⟨"ChipDesk$Checker", "rangeIsRight", "(LChipDesk$Wire;LChipDesk$Side;)Z"⟩ : MethodName) prog_3_method_11_code 2 (Option.some ClassFile.FieldType.boolean)) ∈ tb := tb_of (tb_4 (List.mem_of_getElem? (i := 21) rfl)) rfl
theorem k_742 : (Cond.methodLink "ChipDesk$Checker" 181 (⟨"ChipDesk$Side", "hasRange", "()Z"⟩ : MethodName)) ∈ tb := tb_of (tb_4 (List.mem_of_getElem? (i := 22) rfl)) rfl
theorem k_743 : (Cond.methodLink "ChipDesk$Checker" 168 (⟨"ChipDesk$Side", "bitMask", "(I)I"⟩ : MethodName)) ∈ tb := tb_of (tb_4 (List.mem_of_getElem? (i := 23) rfl)) rfl
theorem k_744 : (Cond.instanceMethod (⟨"ChipDesk$Side", "bitMask", "(I)I"⟩ : MethodName)) ∈ tb := tb_of (tb_4 (List.mem_of_getElem? (i := 24) rfl)) rfl
theorem k_745 : (Cond.selects "ChipDesk$Side" (⟨"ChipDesk$Side", "bitMask", "(I)I"⟩ : MethodName) (⟨"ChipDesk$Side", "bitMask", "(I)I"⟩ : MethodName)) ∈ tb := tb_of (tb_4 (List.mem_of_getElem? (i := 25) rfl)) rfl
theorem k_746 : (Cond.code (⟨"ChipDesk$Side", "bitMask", "(I)I"⟩ : MethodName) prog_10_method_5_code 2 (Option.some ClassFile.FieldType.int)) ∈ tb := tb_of (tb_4 (List.mem_of_getElem? (i := 26) rfl)) rfl
theorem k_747 : (Cond.methodLink "ChipDesk$Side" 30 (⟨"ChipDesk$Side", "width", "(I)I"⟩ : MethodName)) ∈ tb := tb_of (tb_4 (List.mem_of_getElem? (i := 27) rfl)) rfl
theorem k_748 : (Cond.methodLink "ChipDesk$Checker" 174 (⟨"ChipDesk$Checker", "checkSource", "(LChipDesk$Wire;LChipDesk$Side;I)Z"⟩ : MethodName)) ∈ tb := tb_of (tb_4 (List.mem_of_getElem? (i := 28) rfl)) rfl
theorem k_750 : (Cond.instanceMethod (⟨"ChipDesk$Checker", "checkSource", "(LChipDesk$Wire;LChipDesk$Side;I)Z"⟩ : MethodName)) ∈ tb := tb_of (tb_4 (List.mem_of_getElem? (i := 30) rfl)) rfl
theorem k_751 : (Cond.code (⟨"ChipDesk$Checker", "checkSource", "(LChipDesk$Wire;LChipDesk$Side;I)Z"⟩ : MethodName) prog_3_method_10_code 4 (Option.some ClassFile.FieldType.boolean)) ∈ tb := tb_of (tb_4 (List.mem_of_getElem? (i := 31) rfl)) rfl
theorem k_752 : (Cond.methodLink "ChipDesk$Checker" 78 (⟨"ChipDesk$Chip", "setOffsets", "()V"⟩ : MethodName)) ∈ tb := tb_of (tb_4 (List.mem_of_getElem? (i := 32) rfl)) rfl
theorem k_753 : (Cond.methodLink "ChipDesk$Checker" 81 (⟨"ChipDesk$Checker", "checkRings", "()Z"⟩ : MethodName)) ∈ tb := tb_of (tb_4 (List.mem_of_getElem? (i := 33) rfl)) rfl
theorem k_755 : (Cond.instanceMethod (⟨"ChipDesk$Checker", "checkRings", "()Z"⟩ : MethodName)) ∈ tb := tb_of (tb_4 (List.mem_of_getElem? (i := 35) rfl)) rfl
theorem k_756 : (Cond.code (⟨"ChipDesk$Checker", "checkRings", "()Z"⟩ : MethodName) prog_3_method_12_code 4 (Option.some ClassFile.FieldType.boolean)) ∈ tb := tb_of (tb_4 (List.mem_of_getElem? (i := 36) rfl)) rfl
theorem k_757 : (Cond.methodLink "ChipDesk$Checker" 184 (⟨"java/lang/Math", "min", "(II)I"⟩ : MethodName)) ∈ tb := tb_of (tb_4 (List.mem_of_getElem? (i := 37) rfl)) rfl
theorem k_758 : (Cond.methodLink "ChipDesk$Checker" 190 (⟨"ChipDesk$Checker", "directlyInside", "(LChipDesk$Chip;)I"⟩ : MethodName)) ∈ tb := tb_of (tb_4 (List.mem_of_getElem? (i := 38) rfl)) rfl
theorem k_759 : (Cond.static (⟨"ChipDesk$Checker", "directlyInside", "(LChipDesk$Chip;)I"⟩ : MethodName)) ∈ tb := tb_of (tb_4 (List.mem_of_getElem? (i := 39) rfl)) rfl
theorem k_760 : (Cond.code (⟨"ChipDesk$Checker", "directlyInside", "(LChipDesk$Chip;)I"⟩ : MethodName) prog_3_method_13_code 4 (Option.some ClassFile.FieldType.int)) ∈ tb := tb_of (tb_4 (List.mem_of_getElem? (i := 40) rfl)) rfl
theorem k_761 : (Cond.methodLink "ChipDesk" 70 (⟨"ChipDesk", "buildBoard", "()V"⟩ : MethodName)) ∈ tb := tb_of (tb_4 (List.mem_of_getElem? (i := 41) rfl)) rfl
theorem k_763 : (Cond.instanceMethod (⟨"ChipDesk", "buildBoard", "()V"⟩ : MethodName)) ∈ tb := tb_of (tb_4 (List.mem_of_getElem? (i := 43) rfl)) rfl
theorem k_764 : (Cond.code (⟨"ChipDesk", "buildBoard", "()V"⟩ : MethodName) prog_1_method_4_code 2 (Option.none : Option ClassFile.FieldType)) ∈ tb := tb_of (tb_4 (List.mem_of_getElem? (i := 44) rfl)) rfl
theorem k_765 : (Cond.methodLink "ChipDesk" 78 (⟨"java/util/ArrayList", "size", "()I"⟩ : MethodName)) ∈ tb := tb_of (tb_4 (List.mem_of_getElem? (i := 45) rfl)) rfl
theorem k_766 : (Cond.methodLink "ChipDesk" 84 (⟨"java/util/ArrayList", "get", "(I)Ljava/lang/Object;"⟩ : MethodName)) ∈ tb := tb_of (tb_4 (List.mem_of_getElem? (i := 46) rfl)) rfl
theorem k_767 : (Cond.classLink "ChipDesk" 88 "ChipDesk$Chip") ∈ tb := tb_of (tb_4 (List.mem_of_getElem? (i := 47) rfl)) rfl
theorem k_768 : (Cond.methodLink "ChipDesk" 90 (⟨"ChipDesk$Board", "build", "(LChipDesk$Chip;I)Z"⟩ : MethodName)) ∈ tb := tb_of (tb_4 (List.mem_of_getElem? (i := 48) rfl)) rfl
theorem k_769 : (Cond.instanceMethod (⟨"ChipDesk$Board", "build", "(LChipDesk$Chip;I)Z"⟩ : MethodName)) ∈ tb := tb_of (tb_4 (List.mem_of_getElem? (i := 49) rfl)) rfl
theorem k_770 : (Cond.selects "ChipDesk$Board" (⟨"ChipDesk$Board", "build", "(LChipDesk$Chip;I)Z"⟩ : MethodName) (⟨"ChipDesk$Board", "build", "(LChipDesk$Chip;I)Z"⟩ : MethodName)) ∈ tb := tb_of (tb_4 (List.mem_of_getElem? (i := 50) rfl)) rfl
theorem k_771 : (Cond.code (⟨"ChipDesk$Board", "build", "(LChipDesk$Chip;I)Z"⟩ : MethodName) prog_2_method_3_code 3 (Option.some ClassFile.FieldType.boolean)) ∈ tb := tb_of (tb_4 (List.mem_of_getElem? (i := 51) rfl)) rfl
theorem k_772 : (Cond.methodLink "ChipDesk$Board" 77 (⟨"ChipDesk$Board", "claimBits", "(LChipDesk$Chip;)I"⟩ : MethodName)) ∈ tb := tb_of (tb_4 (List.mem_of_getElem? (i := 52) rfl)) rfl
theorem k_774 : (Cond.instanceMethod (⟨"ChipDesk$Board", "claimBits", "(LChipDesk$Chip;)I"⟩ : MethodName)) ∈ tb := tb_of (tb_4 (List.mem_of_getElem? (i := 54) rfl)) rfl
theorem k_775 : (Cond.code (⟨"ChipDesk$Board", "claimBits", "(LChipDesk$Chip;)I"⟩ : MethodName) prog_2_method_5_code 4 (Option.some ClassFile.FieldType.int)) ∈ tb := tb_of (tb_4 (List.mem_of_getElem? (i := 55) rfl)) rfl
theorem k_776 : (Cond.methodLink "ChipDesk$Board" 81 (⟨"ChipDesk$Board", "startSignals", "(I)V"⟩ : MethodName)) ∈ tb := tb_of (tb_4 (List.mem_of_getElem? (i := 56) rfl)) rfl
theorem k_778 : (Cond.instanceMethod (⟨"ChipDesk$Board", "startSignals", "(I)V"⟩ : MethodName)) ∈ tb := tb_of (tb_4 (List.mem_of_getElem? (i := 58) rfl)) rfl
theorem k_779 : (Cond.code (⟨"ChipDesk$Board", "startSignals", "(I)V"⟩ : MethodName) prog_2_method_4_code 3 (Option.none : Option ClassFile.FieldType)) ∈ tb := tb_of (tb_4 (List.mem_of_getElem? (i := 59) rfl)) rfl
theorem k_780 : (Cond.methodLink "ChipDesk$Board" 85 (⟨"ChipDesk$Board", "layOut", "(LChipDesk$Chip;II)Z"⟩ : MethodName)) ∈ tb := tb_of (tb_4 (List.mem_of_getElem? (i := 60) rfl)) rfl
theorem k_782 : (Cond.instanceMethod (⟨"ChipDesk$Board", "layOut", "(LChipDesk$Chip;II)Z"⟩ : MethodName)) ∈ tb := tb_of (tb_4 (List.mem_of_getElem? (i := 62) rfl)) rfl
theorem k_783 : (Cond.code (⟨"ChipDesk$Board", "layOut", "(LChipDesk$Chip;II)Z"⟩ : MethodName) prog_2_method_6_code 9 (Option.some ClassFile.FieldType.boolean)) ∈ tb := tb_of (tb_4 (List.mem_of_getElem? (i := 63) rfl)) rfl
theorem k_784 : (Cond.methodLink "ChipDesk$Board" 106 (⟨"java/util/ArrayList", "size", "()I"⟩ : MethodName)) ∈ tb := tb_of (tb_4 (List.mem_of_getElem? (i := 64) rfl)) rfl
theorem k_785 : (Cond.methodLink "ChipDesk$Board" 112 (⟨"java/util/ArrayList", "get", "(I)Ljava/lang/Object;"⟩ : MethodName)) ∈ tb := tb_of (tb_4 (List.mem_of_getElem? (i := 65) rfl)) rfl
theorem k_786 : (Cond.classLink "ChipDesk$Board" 116 "ChipDesk$Part") ∈ tb := tb_of (tb_4 (List.mem_of_getElem? (i := 66) rfl)) rfl
theorem k_787 : (Cond.classLink "ChipDesk$Board" 122 "ChipDesk$Link") ∈ tb := tb_of (tb_4 (List.mem_of_getElem? (i := 67) rfl)) rfl
theorem k_788 : (Cond.methodLink "ChipDesk$Board" 124 (⟨"ChipDesk$Board", "join", "(LChipDesk$Link;II)V"⟩ : MethodName)) ∈ tb := tb_of (tb_4 (List.mem_of_getElem? (i := 68) rfl)) rfl
theorem k_790 : (Cond.instanceMethod (⟨"ChipDesk$Board", "join", "(LChipDesk$Link;II)V"⟩ : MethodName)) ∈ tb := tb_of (tb_4 (List.mem_of_getElem? (i := 70) rfl)) rfl
theorem k_791 : (Cond.code (⟨"ChipDesk$Board", "join", "(LChipDesk$Link;II)V"⟩ : MethodName) prog_2_method_7_code 10 (Option.none : Option ClassFile.FieldType)) ∈ tb := tb_of (tb_4 (List.mem_of_getElem? (i := 71) rfl)) rfl
theorem k_792 : (Cond.methodLink "ChipDesk$Board" 157 (⟨"ChipDesk$Side", "width", "(I)I"⟩ : MethodName)) ∈ tb := tb_of (tb_4 (List.mem_of_getElem? (i := 72) rfl)) rfl
theorem k_793 : (Cond.methodLink "ChipDesk$Board" 166 (⟨"ChipDesk$Board", "setFrom", "(II)V"⟩ : MethodName)) ∈ tb := tb_of (tb_4 (List.mem_of_getElem? (i := 73) rfl)) rfl
theorem k_795 : (Cond.instanceMethod (⟨"ChipDesk$Board", "setFrom", "(II)V"⟩ : MethodName)) ∈ tb := tb_of (tb_4 (List.mem_of_getElem? (i := 75) rfl)) rfl
theorem k_796 : (Cond.code (⟨"ChipDesk$Board", "setFrom", "(II)V"⟩ : MethodName) prog_2_method_8_code 3 (Option.none : Option ClassFile.FieldType)) ∈ tb := tb_of (tb_4 (List.mem_of_getElem? (i := 76) rfl)) rfl
theorem k_797 : (Cond.methodLink "ChipDesk$Board" 131 (⟨"ChipDesk$Board", "addGate", "(LChipDesk$Chip;I)Z"⟩ : MethodName)) ∈ tb := tb_of (tb_4 (List.mem_of_getElem? (i := 77) rfl)) rfl
theorem k_799 : (Cond.instanceMethod (⟨"ChipDesk$Board", "addGate", "(LChipDesk$Chip;I)Z"⟩ : MethodName)) ∈ tb := tb_of (tb_4 (List.mem_of_getElem? (i := 79) rfl)) rfl
theorem k_800 : (Cond.code (⟨"ChipDesk$Board", "addGate", "(LChipDesk$Chip;I)Z"⟩ : MethodName) prog_2_method_9_code 5 (Option.some ClassFile.FieldType.boolean)) ∈ tb := tb_of (tb_4 (List.mem_of_getElem? (i := 80) rfl)) rfl
theorem k_801 : (Cond.methodLink "ChipDesk$Board" 89 (⟨"ChipDesk$Board", "findSignals", "()V"⟩ : MethodName)) ∈ tb := tb_of (tb_4 (List.mem_of_getElem? (i := 81) rfl)) rfl
theorem k_803 : (Cond.instanceMethod (⟨"ChipDesk$Board", "findSignals", "()V"⟩ : MethodName)) ∈ tb := tb_of (tb_4 (List.mem_of_getElem? (i := 83) rfl)) rfl
theorem k_804 : (Cond.code (⟨"ChipDesk$Board", "findSignals", "()V"⟩ : MethodName) prog_2_method_10_code 2 (Option.none : Option ClassFile.FieldType)) ∈ tb := tb_of (tb_4 (List.mem_of_getElem? (i := 84) rfl)) rfl
theorem k_805 : (Cond.methodLink "ChipDesk$Board" 173 (⟨"ChipDesk$Board", "signalOf", "(I)I"⟩ : MethodName)) ∈ tb := tb_of (tb_4 (List.mem_of_getElem? (i := 85) rfl)) rfl
theorem k_807 : (Cond.instanceMethod (⟨"ChipDesk$Board", "signalOf", "(I)I"⟩ : MethodName)) ∈ tb := tb_of (tb_4 (List.mem_of_getElem? (i := 87) rfl)) rfl
theorem k_808 : (Cond.code (⟨"ChipDesk$Board", "signalOf", "(I)I"⟩ : MethodName) prog_2_method_11_code 4 (Option.some ClassFile.FieldType.int)) ∈ tb := tb_of (tb_4 (List.mem_of_getElem? (i := 88) rfl)) rfl
theorem k_809 : (Cond.methodLink "ChipDesk$Board" 92 (⟨"ChipDesk$Board", "arrangeAll", "()Z"⟩ : MethodName)) ∈ tb := tb_of (tb_4 (List.mem_of_getElem? (i := 89) rfl)) rfl
theorem k_811 : (Cond.instanceMethod (⟨"ChipDesk$Board", "arrangeAll", "()Z"⟩ : MethodName)) ∈ tb := tb_of (tb_4 (List.mem_of_getElem? (i := 91) rfl)) rfl
theorem k_812 : (Cond.code (⟨"ChipDesk$Board", "arrangeAll", "()Z"⟩ : MethodName) prog_2_method_12_code 2 (Option.some ClassFile.FieldType.boolean)) ∈ tb := tb_of (tb_4 (List.mem_of_getElem? (i := 92) rfl)) rfl
theorem k_813 : (Cond.methodLink "ChipDesk$Board" 176 (⟨"ChipDesk$Board", "arrange", "(I)Z"⟩ : MethodName)) ∈ tb := tb_of (tb_4 (List.mem_of_getElem? (i := 93) rfl)) rfl
theorem k_815 : (Cond.instanceMethod (⟨"ChipDesk$Board", "arrange", "(I)Z"⟩ : MethodName)) ∈ tb := tb_of (tb_4 (List.mem_of_getElem? (i := 95) rfl)) rfl
theorem k_816 : (Cond.code (⟨"ChipDesk$Board", "arrange", "(I)Z"⟩ : MethodName) prog_2_method_13_code 8 (Option.some ClassFile.FieldType.boolean)) ∈ tb := tb_of (tb_4 (List.mem_of_getElem? (i := 96) rfl)) rfl
theorem k_817 : (Cond.methodLink "ChipDesk$Board" 180 (⟨"java/lang/Math", "max", "(II)I"⟩ : MethodName)) ∈ tb := tb_of (tb_4 (List.mem_of_getElem? (i := 97) rfl)) rfl
theorem k_818 : (Cond.methodLink "ChipDesk$Board" 186 (⟨"ChipDesk$Board", "append", "(II)V"⟩ : MethodName)) ∈ tb := tb_of (tb_4 (List.mem_of_getElem? (i := 98) rfl)) rfl
theorem k_820 : (Cond.instanceMethod (⟨"ChipDesk$Board", "append", "(II)V"⟩ : MethodName)) ∈ tb := tb_of (tb_4 (List.mem_of_getElem? (i := 100) rfl)) rfl
theorem k_821 : (Cond.code (⟨"ChipDesk$Board", "append", "(II)V"⟩ : MethodName) prog_2_method_14_code 3 (Option.none : Option ClassFile.FieldType)) ∈ tb := tb_of (tb_4 (List.mem_of_getElem? (i := 101) rfl)) rfl
theorem k_822 : (Cond.methodLink "ChipDesk$Board" 96 (⟨"ChipDesk$Board", "settle", "()V"⟩ : MethodName)) ∈ tb := tb_of (tb_4 (List.mem_of_getElem? (i := 102) rfl)) rfl
theorem k_824 : (Cond.instanceMethod (⟨"ChipDesk$Board", "settle", "()V"⟩ : MethodName)) ∈ tb := tb_of (tb_4 (List.mem_of_getElem? (i := 104) rfl)) rfl
theorem k_825 : (Cond.code (⟨"ChipDesk$Board", "settle", "()V"⟩ : MethodName) prog_2_method_15_code 4 (Option.none : Option ClassFile.FieldType)) ∈ tb := tb_of (tb_4 (List.mem_of_getElem? (i := 105) rfl)) rfl
theorem k_826 : (Cond.methodLink "ChipDesk" 97 (⟨"ChipDesk$Fault", "note", "(II)Z"⟩ : MethodName)) ∈ tb := tb_of (tb_4 (List.mem_of_getElem? (i := 106) rfl)) rfl
theorem k_827 : (Cond.methodLink "ChipDesk" 73 (⟨"ChipDesk$Text", "clear", "()V"⟩ : MethodName)) ∈ tb := tb_of (tb_4 (List.mem_of_getElem? (i := 107) rfl)) rfl
theorem k_828 : (Cond.instanceMethod (⟨"ChipDesk$Text", "clear", "()V"⟩ : MethodName)) ∈ tb := tb_of (tb_4 (List.mem_of_getElem? (i := 108) rfl)) rfl
theorem k_829 : (Cond.selects "ChipDesk$Text" (⟨"ChipDesk$Text", "clear", "()V"⟩ : MethodName) (⟨"ChipDesk$Text", "clear", "()V"⟩ : MethodName)) ∈ tb := tb_of (tb_4 (List.mem_of_getElem? (i := 109) rfl)) rfl
theorem k_830 : (Cond.code (⟨"ChipDesk$Text", "clear", "()V"⟩ : MethodName) prog_11_method_3_code 1 (Option.none : Option ClassFile.FieldType)) ∈ tb := tb_of (tb_4 (List.mem_of_getElem? (i := 110) rfl)) rfl
theorem k_831 : (Cond.methodLink "ChipDeskLaw" 25 (⟨"ChipDesk", "place", "()I"⟩ : MethodName)) ∈ tb := tb_of (tb_4 (List.mem_of_getElem? (i := 111) rfl)) rfl
theorem k_832 : (Cond.instanceMethod (⟨"ChipDesk", "place", "()I"⟩ : MethodName)) ∈ tb := tb_of (tb_4 (List.mem_of_getElem? (i := 112) rfl)) rfl
theorem k_833 : (Cond.selects "ChipDesk" (⟨"ChipDesk", "place", "()I"⟩ : MethodName) (⟨"ChipDesk", "place", "()I"⟩ : MethodName)) ∈ tb := tb_of (tb_4 (List.mem_of_getElem? (i := 113) rfl)) rfl
theorem k_834 : (Cond.code (⟨"ChipDesk", "place", "()I"⟩ : MethodName) prog_1_method_5_code 1 (Option.some ClassFile.FieldType.int)) ∈ tb := tb_of (tb_4 (List.mem_of_getElem? (i := 114) rfl)) rfl
theorem k_835 : (Cond.methodLink "ChipDeskLaw" 29 (⟨"ChipDesk", "drive", "(II)Z"⟩ : MethodName)) ∈ tb := tb_of (tb_4 (List.mem_of_getElem? (i := 115) rfl)) rfl
theorem k_836 : (Cond.instanceMethod (⟨"ChipDesk", "drive", "(II)Z"⟩ : MethodName)) ∈ tb := tb_of (tb_4 (List.mem_of_getElem? (i := 116) rfl)) rfl
theorem k_837 : (Cond.selects "ChipDesk" (⟨"ChipDesk", "drive", "(II)Z"⟩ : MethodName) (⟨"ChipDesk", "drive", "(II)Z"⟩ : MethodName)) ∈ tb := tb_of (tb_4 (List.mem_of_getElem? (i := 117) rfl)) rfl
theorem k_838 : (Cond.code (⟨"ChipDesk", "drive", "(II)Z"⟩ : MethodName) prog_1_method_6_code 3 (Option.some ClassFile.FieldType.boolean)) ∈ tb := tb_of (tb_4 (List.mem_of_getElem? (i := 118) rfl)) rfl
theorem k_839 : (Cond.methodLink "ChipDesk" 104 (⟨"ChipDesk$Board", "setIn", "(II)Z"⟩ : MethodName)) ∈ tb := tb_of (tb_4 (List.mem_of_getElem? (i := 119) rfl)) rfl
theorem k_840 : (Cond.instanceMethod (⟨"ChipDesk$Board", "setIn", "(II)Z"⟩ : MethodName)) ∈ tb := tb_of (tb_4 (List.mem_of_getElem? (i := 120) rfl)) rfl
theorem k_841 : (Cond.selects "ChipDesk$Board" (⟨"ChipDesk$Board", "setIn", "(II)Z"⟩ : MethodName) (⟨"ChipDesk$Board", "setIn", "(II)Z"⟩ : MethodName)) ∈ tb := tb_of (tb_4 (List.mem_of_getElem? (i := 121) rfl)) rfl
theorem k_842 : (Cond.code (⟨"ChipDesk$Board", "setIn", "(II)Z"⟩ : MethodName) prog_2_method_16_code 5 (Option.some ClassFile.FieldType.boolean)) ∈ tb := tb_of (tb_4 (List.mem_of_getElem? (i := 122) rfl)) rfl
theorem k_843 : (Cond.classLink "ChipDesk$Board" 5 "ChipDesk$Wire") ∈ tb := tb_of (tb_4 (List.mem_of_getElem? (i := 123) rfl)) rfl
theorem k_844 : (Cond.methodLink "ChipDeskLaw" 34 (⟨"ChipDesk", "pin", "(I)I"⟩ : MethodName)) ∈ tb := tb_of (tb_4 (List.mem_of_getElem? (i := 124) rfl)) rfl
theorem k_845 : (Cond.instanceMethod (⟨"ChipDesk", "pin", "(I)I"⟩ : MethodName)) ∈ tb := tb_of (tb_4 (List.mem_of_getElem? (i := 125) rfl)) rfl
theorem k_846 : (Cond.selects "ChipDesk" (⟨"ChipDesk", "pin", "(I)I"⟩ : MethodName) (⟨"ChipDesk", "pin", "(I)I"⟩ : MethodName)) ∈ tb := tb_of (tb_4 (List.mem_of_getElem? (i := 126) rfl)) rfl
theorem k_847 : (Cond.code (⟨"ChipDesk", "pin", "(I)I"⟩ : MethodName) prog_1_method_7_code 2 (Option.some ClassFile.FieldType.int)) ∈ tb := tb_of (tb_4 (List.mem_of_getElem? (i := 127) rfl)) rfl
theorem k_848 : (Cond.methodLink "ChipDesk" 107 (⟨"ChipDesk$Board", "outNumber", "(I)I"⟩ : MethodName)) ∈ tb := tb_of (tb_4 (List.mem_of_getElem? (i := 128) rfl)) rfl
theorem k_849 : (Cond.instanceMethod (⟨"ChipDesk$Board", "outNumber", "(I)I"⟩ : MethodName)) ∈ tb := tb_of (tb_4 (List.mem_of_getElem? (i := 129) rfl)) rfl
theorem k_850 : (Cond.selects "ChipDesk$Board" (⟨"ChipDesk$Board", "outNumber", "(I)I"⟩ : MethodName) (⟨"ChipDesk$Board", "outNumber", "(I)I"⟩ : MethodName)) ∈ tb := tb_of (tb_4 (List.mem_of_getElem? (i := 130) rfl)) rfl
theorem k_851 : (Cond.code (⟨"ChipDesk$Board", "outNumber", "(I)I"⟩ : MethodName) prog_2_method_17_code 5 (Option.some ClassFile.FieldType.int)) ∈ tb := tb_of (tb_4 (List.mem_of_getElem? (i := 131) rfl)) rfl
theorem k_852 : (Cond.methodLink "ChipDeskLaw" 39 (⟨"ChipDesk", "tick", "()I"⟩ : MethodName)) ∈ tb := tb_of (tb_4 (List.mem_of_getElem? (i := 132) rfl)) rfl
theorem k_853 : (Cond.instanceMethod (⟨"ChipDesk", "tick", "()I"⟩ : MethodName)) ∈ tb := tb_of (tb_4 (List.mem_of_getElem? (i := 133) rfl)) rfl
theorem k_854 : (Cond.selects "ChipDesk" (⟨"ChipDesk", "tick", "()I"⟩ : MethodName) (⟨"ChipDesk", "tick", "()I"⟩ : MethodName)) ∈ tb := tb_of (tb_4 (List.mem_of_getElem? (i := 134) rfl)) rfl
theorem k_855 : (Cond.code (⟨"ChipDesk", "tick", "()I"⟩ : MethodName) prog_1_method_8_code 1 (Option.some ClassFile.FieldType.int)) ∈ tb := tb_of (tb_4 (List.mem_of_getElem? (i := 135) rfl)) rfl
theorem k_856 : (Cond.methodLink "ChipDesk" 111 (⟨"ChipDesk$Board", "step", "()I"⟩ : MethodName)) ∈ tb := tb_of (tb_4 (List.mem_of_getElem? (i := 136) rfl)) rfl
theorem k_857 : (Cond.instanceMethod (⟨"ChipDesk$Board", "step", "()I"⟩ : MethodName)) ∈ tb := tb_of (tb_4 (List.mem_of_getElem? (i := 137) rfl)) rfl
theorem k_858 : (Cond.selects "ChipDesk$Board" (⟨"ChipDesk$Board", "step", "()I"⟩ : MethodName) (⟨"ChipDesk$Board", "step", "()I"⟩ : MethodName)) ∈ tb := tb_of (tb_4 (List.mem_of_getElem? (i := 138) rfl)) rfl
theorem k_859 : (Cond.code (⟨"ChipDesk$Board", "step", "()I"⟩ : MethodName) prog_2_method_18_code 3 (Option.some ClassFile.FieldType.int)) ∈ tb := tb_of (tb_4 (List.mem_of_getElem? (i := 139) rfl)) rfl
theorem k_860 : (Cond.methodLink "ChipDeskLaw" 43 (⟨"ChipDesk", "gates", "(I)I"⟩ : MethodName)) ∈ tb := tb_of (tb_4 (List.mem_of_getElem? (i := 140) rfl)) rfl
theorem k_861 : (Cond.instanceMethod (⟨"ChipDesk", "gates", "(I)I"⟩ : MethodName)) ∈ tb := tb_of (tb_4 (List.mem_of_getElem? (i := 141) rfl)) rfl
theorem k_862 : (Cond.selects "ChipDesk" (⟨"ChipDesk", "gates", "(I)I"⟩ : MethodName) (⟨"ChipDesk", "gates", "(I)I"⟩ : MethodName)) ∈ tb := tb_of (tb_4 (List.mem_of_getElem? (i := 142) rfl)) rfl
theorem k_863 : (Cond.code (⟨"ChipDesk", "gates", "(I)I"⟩ : MethodName) prog_1_method_9_code 2 (Option.some ClassFile.FieldType.int)) ∈ tb := tb_of (tb_4 (List.mem_of_getElem? (i := 143) rfl)) rfl
theorem k_864 : (Cond.methodLink "ChipDesk" 114 (⟨"ChipDesk$Board", "count", "(I)I"⟩ : MethodName)) ∈ tb := tb_of (tb_4 (List.mem_of_getElem? (i := 144) rfl)) rfl
theorem k_865 : (Cond.instanceMethod (⟨"ChipDesk$Board", "count", "(I)I"⟩ : MethodName)) ∈ tb := tb_of (tb_4 (List.mem_of_getElem? (i := 145) rfl)) rfl
theorem k_866 : (Cond.selects "ChipDesk$Board" (⟨"ChipDesk$Board", "count", "(I)I"⟩ : MethodName) (⟨"ChipDesk$Board", "count", "(I)I"⟩ : MethodName)) ∈ tb := tb_of (tb_4 (List.mem_of_getElem? (i := 146) rfl)) rfl
theorem k_867 : (Cond.code (⟨"ChipDesk$Board", "count", "(I)I"⟩ : MethodName) prog_2_method_19_code 2 (Option.some ClassFile.FieldType.int)) ∈ tb := tb_of (tb_4 (List.mem_of_getElem? (i := 147) rfl)) rfl
theorem k_868 : (Cond.classLink "ChipDeskLaw" 10 "ChipDeskModel") ∈ tb := tb_of (tb_4 (List.mem_of_getElem? (i := 148) rfl)) rfl
theorem k_869 : (Cond.instantiable "ChipDeskModel" 71) ∈ tb := tb_of (tb_4 (List.mem_of_getElem? (i := 149) rfl)) rfl
theorem k_870 : (Cond.methodLink "ChipDeskLaw" 12 (⟨"ChipDeskModel", "<init>", "()V"⟩ : MethodName)) ∈ tb := tb_of (tb_4 (List.mem_of_getElem? (i := 150) rfl)) rfl
theorem k_871 : (Cond.instanceMethod (⟨"ChipDeskModel", "<init>", "()V"⟩ : MethodName)) ∈ tb := tb_of (tb_4 (List.mem_of_getElem? (i := 151) rfl)) rfl
theorem k_872 : (Cond.code (⟨"ChipDeskModel", "<init>", "()V"⟩ : MethodName) prog_14_method_1_code 1 (Option.none : Option ClassFile.FieldType)) ∈ tb := tb_of (tb_4 (List.mem_of_getElem? (i := 152) rfl)) rfl
theorem k_873 : (Cond.methodLink "ChipDeskModel" 1 (⟨"java/lang/Object", "<init>", "()V"⟩ : MethodName)) ∈ tb := tb_of (tb_4 (List.mem_of_getElem? (i := 153) rfl)) rfl
theorem k_874 : (Cond.fieldLink "ChipDeskModel" 7 "ChipDeskModel" "CHIP_WORDS" "[C") ∈ tb := tb_of (tb_4 (List.mem_of_getElem? (i := 154) rfl)) rfl
theorem k_875 : (Cond.fieldLink "ChipDeskModel" 13 "ChipDeskModel" "text" "[I") ∈ tb := tb_of (tb_4 (List.mem_of_getElem? (i := 155) rfl)) rfl
theorem k_876 : (Cond.fieldLink "ChipDeskModel" 158 "ChipDeskModel" "taken0" "I") ∈ tb := tb_of (tb_4 (List.mem_of_getElem? (i := 156) rfl)) rfl
theorem k_877 : (Cond.fieldLink "ChipDeskModel" 161 "ChipDeskModel" "size" "I") ∈ tb := tb_of (tb_4 (List.mem_of_getElem? (i := 157) rfl)) rfl
theorem k_878 : (Cond.fieldLink "ChipDeskModel" 17 "ChipDeskModel" "place" "I") ∈ tb := tb_of (tb_4 (List.mem_of_getElem? (i := 158) rfl)) rfl
theorem k_879 : (Cond.fieldLink "ChipDeskModel" 228 "ChipDeskModel" "found" "I") ∈ tb := tb_of (tb_4 (List.mem_of_getElem? (i := 159) rfl)) rfl
theorem k_880 : (Cond.fieldLink "ChipDeskModel" 231 "ChipDeskModel" "foundAt" "I") ∈ tb := tb_of (tb_4 (List.mem_of_getElem? (i := 160) rfl)) rfl
theorem k_881 : (Cond.fieldLink "ChipDeskModel" 21 "ChipDeskModel" "tokKind" "[I") ∈ tb := tb_of (tb_4 (List.mem_of_getElem? (i := 161) rfl)) rfl
theorem k_882 : (Cond.fieldLink "ChipDeskModel" 24 "ChipDeskModel" "tokAt" "[I") ∈ tb := tb_of (tb_4 (List.mem_of_getElem? (i := 162) rfl)) rfl
theorem k_883 : (Cond.fieldLink "ChipDeskModel" 27 "ChipDeskModel" "tokSize" "[I") ∈ tb := tb_of (tb_4 (List.mem_of_getElem? (i := 163) rfl)) rfl
theorem k_884 : (Cond.fieldLink "ChipDeskModel" 30 "ChipDeskModel" "tokValue" "[I") ∈ tb := tb_of (tb_4 (List.mem_of_getElem? (i := 164) rfl)) rfl
theorem k_885 : (Cond.fieldLink "ChipDeskModel" 171 "ChipDeskModel" "tokens" "I") ∈ tb := tb_of (tb_4 (List.mem_of_getElem? (i := 165) rfl)) rfl
theorem k_886 : (Cond.fieldLink "ChipDeskModel" 178 "ChipDeskModel" "next" "I") ∈ tb := tb_of (tb_4 (List.mem_of_getElem? (i := 166) rfl)) rfl
theorem k_887 : (Cond.fieldLink "ChipDeskModel" 206 "ChipDeskModel" "fault" "I") ∈ tb := tb_of (tb_4 (List.mem_of_getElem? (i := 167) rfl)) rfl
theorem k_888 : (Cond.fieldLink "ChipDeskModel" 209 "ChipDeskModel" "faultAt" "I") ∈ tb := tb_of (tb_4 (List.mem_of_getElem? (i := 168) rfl)) rfl
theorem k_889 : (Cond.fieldLink "ChipDeskModel" 237 "ChipDeskModel" "chipsTold" "I") ∈ tb := tb_of (tb_4 (List.mem_of_getElem? (i := 169) rfl)) rfl
theorem k_890 : (Cond.fieldLink "ChipDeskModel" 33 "ChipDeskModel" "chipAt" "[I") ∈ tb := tb_of (tb_4 (List.mem_of_getElem? (i := 170) rfl)) rfl
theorem k_891 : (Cond.fieldLink "ChipDeskModel" 36 "ChipDeskModel" "pinFirst" "[I") ∈ tb := tb_of (tb_4 (List.mem_of_getElem? (i := 171) rfl)) rfl
theorem k_892 : (Cond.fieldLink "ChipDeskModel" 234 "ChipDeskModel" "pins" "I") ∈ tb := tb_of (tb_4 (List.mem_of_getElem? (i := 172) rfl)) rfl
theorem k_893 : (Cond.fieldLink "ChipDeskModel" 39 "ChipDeskModel" "pinOut" "[Z") ∈ tb := tb_of (tb_4 (List.mem_of_getElem? (i := 173) rfl)) rfl
theorem k_894 : (Cond.fieldLink "ChipDeskModel" 43 "ChipDeskModel" "pinAt" "[I") ∈ tb := tb_of (tb_4 (List.mem_of_getElem? (i := 174) rfl)) rfl
theorem k_895 : (Cond.fieldLink "ChipDeskModel" 46 "ChipDeskModel" "pinWidth" "[I") ∈ tb := tb_of (tb_4 (List.mem_of_getElem? (i := 175) rfl)) rfl
theorem k_896 : (Cond.fieldLink "ChipDeskModel" 49 "ChipDeskModel" "pinNumber" "[I") ∈ tb := tb_of (tb_4 (List.mem_of_getElem? (i := 176) rfl)) rfl
theorem k_897 : (Cond.fieldLink "ChipDeskModel" 52 "ChipDeskModel" "partFirst" "[I") ∈ tb := tb_of (tb_4 (List.mem_of_getElem? (i := 177) rfl)) rfl
theorem k_898 : (Cond.fieldLink "ChipDeskModel" 284 "ChipDeskModel" "parts" "I") ∈ tb := tb_of (tb_4 (List.mem_of_getElem? (i := 178) rfl)) rfl
theorem k_899 : (Cond.fieldLink "ChipDeskModel" 55 "ChipDeskModel" "partAt" "[I") ∈ tb := tb_of (tb_4 (List.mem_of_getElem? (i := 179) rfl)) rfl
theorem k_900 : (Cond.fieldLink "ChipDeskModel" 58 "ChipDeskModel" "linkFirst" "[I") ∈ tb := tb_of (tb_4 (List.mem_of_getElem? (i := 180) rfl)) rfl
theorem k_901 : (Cond.fieldLink "ChipDeskModel" 268 "ChipDeskModel" "links" "I") ∈ tb := tb_of (tb_4 (List.mem_of_getElem? (i := 181) rfl)) rfl
theorem k_902 : (Cond.fieldLink "ChipDeskModel" 61 "ChipDeskModel" "leftAt" "[I") ∈ tb := tb_of (tb_4 (List.mem_of_getElem? (i := 182) rfl)) rfl
theorem k_903 : (Cond.fieldLink "ChipDeskModel" 64 "ChipDeskModel" "leftRange" "[I") ∈ tb := tb_of (tb_4 (List.mem_of_getElem? (i := 183) rfl)) rfl
theorem k_904 : (Cond.fieldLink "ChipDeskModel" 67 "ChipDeskModel" "leftI" "[I") ∈ tb := tb_of (tb_4 (List.mem_of_getElem? (i := 184) rfl)) rfl
theorem k_905 : (Cond.fieldLink "ChipDeskModel" 70 "ChipDeskModel" "leftJ" "[I") ∈ tb := tb_of (tb_4 (List.mem_of_getElem? (i := 185) rfl)) rfl
theorem k_906 : (Cond.fieldLink "ChipDeskModel" 73 "ChipDeskModel" "rightAt" "[I") ∈ tb := tb_of (tb_4 (List.mem_of_getElem? (i := 186) rfl)) rfl
theorem k_907 : (Cond.fieldLink "ChipDeskModel" 76 "ChipDeskModel" "rightRange" "[I") ∈ tb := tb_of (tb_4 (List.mem_of_getElem? (i := 187) rfl)) rfl
theorem k_908 : (Cond.fieldLink "ChipDeskModel" 79 "ChipDeskModel" "rightI" "[I") ∈ tb := tb_of (tb_4 (List.mem_of_getElem? (i := 188) rfl)) rfl
theorem k_909 : (Cond.fieldLink "ChipDeskModel" 82 "ChipDeskModel" "rightJ" "[I") ∈ tb := tb_of (tb_4 (List.mem_of_getElem? (i := 189) rfl)) rfl
theorem k_910 : (Cond.fieldLink "ChipDeskModel" 85 "ChipDeskModel" "innerFirst" "[I") ∈ tb := tb_of (tb_4 (List.mem_of_getElem? (i := 190) rfl)) rfl
theorem k_911 : (Cond.fieldLink "ChipDeskModel" 274 "ChipDeskModel" "inners" "I") ∈ tb := tb_of (tb_4 (List.mem_of_getElem? (i := 191) rfl)) rfl
theorem k_912 : (Cond.fieldLink "ChipDeskModel" 88 "ChipDeskModel" "innerAt" "[I") ∈ tb := tb_of (tb_4 (List.mem_of_getElem? (i := 192) rfl)) rfl
theorem k_913 : (Cond.fieldLink "ChipDeskModel" 91 "ChipDeskModel" "innerWidth" "[I") ∈ tb := tb_of (tb_4 (List.mem_of_getElem? (i := 193) rfl)) rfl
theorem k_914 : (Cond.fieldLink "ChipDeskModel" 94 "ChipDeskModel" "innerLinked" "[Z") ∈ tb := tb_of (tb_4 (List.mem_of_getElem? (i := 194) rfl)) rfl
theorem k_915 : (Cond.fieldLink "ChipDeskModel" 252 "ChipDeskModel" "rangeAt" "I") ∈ tb := tb_of (tb_4 (List.mem_of_getElem? (i := 195) rfl)) rfl
theorem k_916 : (Cond.fieldLink "ChipDeskModel" 255 "ChipDeskModel" "rangeI" "I") ∈ tb := tb_of (tb_4 (List.mem_of_getElem? (i := 196) rfl)) rfl
theorem k_917 : (Cond.fieldLink "ChipDeskModel" 258 "ChipDeskModel" "rangeJ" "I") ∈ tb := tb_of (tb_4 (List.mem_of_getElem? (i := 197) rfl)) rfl
theorem k_918 : (Cond.fieldLink "ChipDeskModel" 97 "ChipDeskModel" "partIs" "[I") ∈ tb := tb_of (tb_4 (List.mem_of_getElem? (i := 198) rfl)) rfl
theorem k_919 : (Cond.fieldLink "ChipDeskModel" 385 "ChipDeskModel" "board" "Z") ∈ tb := tb_of (tb_4 (List.mem_of_getElem? (i := 199) rfl)) rfl
theorem k_920 : (Cond.fieldLink "ChipDeskModel" 100 "ChipDeskModel" "GATE_WORDS" "[C") ∈ tb := tb_of (tb_4 (List.mem_of_getElem? (i := 200) rfl)) rfl
theorem k_921 : (Cond.fieldLink "ChipDeskModel" 103 "ChipDeskModel" "GATE_PINS" "[C") ∈ tb := tb_of (tb_4 (List.mem_of_getElem? (i := 201) rfl)) rfl
theorem k_922 : (Cond.fieldLink "ChipDeskModel" 106 "ChipDeskModel" "taken" "[I") ∈ tb := tb_of (tb_4 (List.mem_of_getElem? (i := 202) rfl)) rfl
theorem k_923 : (Cond.fieldLink "ChipDeskModel" 109 "ChipDeskModel" "linkedBits" "[I") ∈ tb := tb_of (tb_4 (List.mem_of_getElem? (i := 203) rfl)) rfl
theorem k_924 : (Cond.fieldLink "ChipDeskModel" 112 "ChipDeskModel" "within" "[Z") ∈ tb := tb_of (tb_4 (List.mem_of_getElem? (i := 204) rfl)) rfl
theorem k_925 : (Cond.fieldLink "ChipDeskModel" 115 "ChipDeskModel" "gatesIn" "[J") ∈ tb := tb_of (tb_4 (List.mem_of_getElem? (i := 205) rfl)) rfl
theorem k_926 : (Cond.fieldLink "ChipDeskModel" 119 "ChipDeskModel" "bitsIn" "[J") ∈ tb := tb_of (tb_4 (List.mem_of_getElem? (i := 206) rfl)) rfl
theorem k_927 : (Cond.fieldLink "ChipDeskModel" 339 "ChipDeskModel" "bitCount" "I") ∈ tb := tb_of (tb_4 (List.mem_of_getElem? (i := 207) rfl)) rfl
theorem k_928 : (Cond.fieldLink "ChipDeskModel" 122 "ChipDeskModel" "from" "[I") ∈ tb := tb_of (tb_4 (List.mem_of_getElem? (i := 208) rfl)) rfl
theorem k_929 : (Cond.fieldLink "ChipDeskModel" 125 "ChipDeskModel" "gateOfBit" "[I") ∈ tb := tb_of (tb_4 (List.mem_of_getElem? (i := 209) rfl)) rfl
theorem k_930 : (Cond.fieldLink "ChipDeskModel" 357 "ChipDeskModel" "gateCount" "I") ∈ tb := tb_of (tb_4 (List.mem_of_getElem? (i := 210) rfl)) rfl
theorem k_931 : (Cond.fieldLink "ChipDeskModel" 128 "ChipDeskModel" "gateDff" "[Z") ∈ tb := tb_of (tb_4 (List.mem_of_getElem? (i := 211) rfl)) rfl
theorem k_932 : (Cond.fieldLink "ChipDeskModel" 131 "ChipDeskModel" "gateIn" "[I") ∈ tb := tb_of (tb_4 (List.mem_of_getElem? (i := 212) rfl)) rfl
theorem k_933 : (Cond.fieldLink "ChipDeskModel" 134 "ChipDeskModel" "gateLevel" "[I") ∈ tb := tb_of (tb_4 (List.mem_of_getElem? (i := 213) rfl)) rfl
theorem k_934 : (Cond.fieldLink "ChipDeskModel" 137 "ChipDeskModel" "gateOrder" "[I") ∈ tb := tb_of (tb_4 (List.mem_of_getElem? (i := 214) rfl)) rfl
theorem k_935 : (Cond.fieldLink "ChipDeskModel" 376 "ChipDeskModel" "ordered" "I") ∈ tb := tb_of (tb_4 (List.mem_of_getElem? (i := 215) rfl)) rfl
theorem k_936 : (Cond.fieldLink "ChipDeskModel" 140 "ChipDeskModel" "gateA" "[I") ∈ tb := tb_of (tb_4 (List.mem_of_getElem? (i := 216) rfl)) rfl
theorem k_937 : (Cond.fieldLink "ChipDeskModel" 143 "ChipDeskModel" "gateB" "[I") ∈ tb := tb_of (tb_4 (List.mem_of_getElem? (i := 217) rfl)) rfl
theorem k_938 : (Cond.fieldLink "ChipDeskModel" 146 "ChipDeskModel" "bitValue" "[I") ∈ tb := tb_of (tb_4 (List.mem_of_getElem? (i := 218) rfl)) rfl
theorem k_939 : (Cond.fieldLink "ChipDeskModel" 354 "ChipDeskModel" "waiting" "I") ∈ tb := tb_of (tb_4 (List.mem_of_getElem? (i := 219) rfl)) rfl
theorem k_940 : (Cond.fieldLink "ChipDeskModel" 149 "ChipDeskModel" "waitChip" "[I") ∈ tb := tb_of (tb_4 (List.mem_of_getElem? (i := 220) rfl)) rfl
theorem k_941 : (Cond.fieldLink "ChipDeskModel" 152 "ChipDeskModel" "waitBase" "[I") ∈ tb := tb_of (tb_4 (List.mem_of_getElem? (i := 221) rfl)) rfl
theorem k_942 : (Cond.fieldLink "ChipDeskModel" 421 "ChipDeskModel" "ticks" "I") ∈ tb := tb_of (tb_4 (List.mem_of_getElem? (i := 222) rfl)) rfl
theorem k_943 : (Cond.fieldLink "ChipDeskModel" 363 "ChipDeskModel" "boardChip" "I") ∈ tb := tb_of (tb_4 (List.mem_of_getElem? (i := 223) rfl)) rfl
theorem k_944 : (Cond.fieldLink "ChipDeskModel" 155 "ChipDeskModel" "newValue" "[I") ∈ tb := tb_of (tb_4 (List.mem_of_getElem? (i := 224) rfl)) rfl
theorem k_945 : (Cond.laysFinal "ChipDeskModel" "ChipDeskModel" "CHIP_WORDS" "[C") ∈ tb := tb_of (tb_4 (List.mem_of_getElem? (i := 225) rfl)) rfl
theorem k_947 : (Cond.laysFinal "ChipDeskModel" "ChipDeskModel" "text" "[I") ∈ tb := tb_of (tb_4 (List.mem_of_getElem? (i := 227) rfl)) rfl
theorem k_949 : (Cond.lays "ChipDeskModel" "ChipDeskModel" "taken0" "I") ∈ tb := tb_of (tb_4 (List.mem_of_getElem? (i := 229) rfl)) rfl
theorem k_951 : (Cond.lays "ChipDeskModel" "ChipDeskModel" "size" "I") ∈ tb := tb_of (tb_4 (List.mem_of_getElem? (i := 231) rfl)) rfl
theorem k_953 : (Cond.lays "ChipDeskModel" "ChipDeskModel" "place" "I") ∈ tb := tb_of (tb_4 (List.mem_of_getElem? (i := 233) rfl)) rfl
theorem k_955 : (Cond.lays "ChipDeskModel" "ChipDeskModel" "found" "I") ∈ tb := tb_of (tb_4 (List.mem_of_getElem? (i := 235) rfl)) rfl
theorem k_957 : (Cond.lays "ChipDeskModel" "ChipDeskModel" "foundAt" "I") ∈ tb := tb_of (tb_4 (List.mem_of_getElem? (i := 237) rfl)) rfl
theorem k_959 : (Cond.laysFinal "ChipDeskModel" "ChipDeskModel" "tokKind" "[I") ∈ tb := tb_of (tb_4 (List.mem_of_getElem? (i := 239) rfl)) rfl
theorem k_961 : (Cond.laysFinal "ChipDeskModel" "ChipDeskModel" "tokAt" "[I") ∈ tb := tb_of (tb_5 (List.mem_of_getElem? (i := 1) rfl)) rfl
theorem k_963 : (Cond.laysFinal "ChipDeskModel" "ChipDeskModel" "tokSize" "[I") ∈ tb := tb_of (tb_5 (List.mem_of_getElem? (i := 3) rfl)) rfl
theorem k_965 : (Cond.laysFinal "ChipDeskModel" "ChipDeskModel" "tokValue" "[I") ∈ tb := tb_of (tb_5 (List.mem_of_getElem? (i := 5) rfl)) rfl
theorem k_967 : (Cond.lays "ChipDeskModel" "ChipDeskModel" "tokens" "I") ∈ tb := tb_of (tb_5 (List.mem_of_getElem? (i := 7) rfl)) rfl
theorem k_969 : (Cond.lays "ChipDeskModel" "ChipDeskModel" "next" "I") ∈ tb := tb_of (tb_5 (List.mem_of_getElem? (i := 9) rfl)) rfl
theorem k_971 : (Cond.lays "ChipDeskModel" "ChipDeskModel" "fault" "I") ∈ tb := tb_of (tb_5 (List.mem_of_getElem? (i := 11) rfl)) rfl
theorem k_973 : (Cond.lays "ChipDeskModel" "ChipDeskModel" "faultAt" "I") ∈ tb := tb_of (tb_5 (List.mem_of_getElem? (i := 13) rfl)) rfl
theorem k_975 : (Cond.lays "ChipDeskModel" "ChipDeskModel" "chipsTold" "I") ∈ tb := tb_of (tb_5 (List.mem_of_getElem? (i := 15) rfl)) rfl
theorem k_977 : (Cond.laysFinal "ChipDeskModel" "ChipDeskModel" "chipAt" "[I") ∈ tb := tb_of (tb_5 (List.mem_of_getElem? (i := 17) rfl)) rfl
theorem k_979 : (Cond.laysFinal "ChipDeskModel" "ChipDeskModel" "pinFirst" "[I") ∈ tb := tb_of (tb_5 (List.mem_of_getElem? (i := 19) rfl)) rfl
theorem k_981 : (Cond.lays "ChipDeskModel" "ChipDeskModel" "pins" "I") ∈ tb := tb_of (tb_5 (List.mem_of_getElem? (i := 21) rfl)) rfl
theorem k_983 : (Cond.laysFinal "ChipDeskModel" "ChipDeskModel" "pinOut" "[Z") ∈ tb := tb_of (tb_5 (List.mem_of_getElem? (i := 23) rfl)) rfl
theorem k_985 : (Cond.laysFinal "ChipDeskModel" "ChipDeskModel" "pinAt" "[I") ∈ tb := tb_of (tb_5 (List.mem_of_getElem? (i := 25) rfl)) rfl
theorem k_987 : (Cond.laysFinal "ChipDeskModel" "ChipDeskModel" "pinWidth" "[I") ∈ tb := tb_of (tb_5 (List.mem_of_getElem? (i := 27) rfl)) rfl
theorem k_989 : (Cond.laysFinal "ChipDeskModel" "ChipDeskModel" "pinNumber" "[I") ∈ tb := tb_of (tb_5 (List.mem_of_getElem? (i := 29) rfl)) rfl
theorem k_991 : (Cond.laysFinal "ChipDeskModel" "ChipDeskModel" "partFirst" "[I") ∈ tb := tb_of (tb_5 (List.mem_of_getElem? (i := 31) rfl)) rfl
theorem k_993 : (Cond.lays "ChipDeskModel" "ChipDeskModel" "parts" "I") ∈ tb := tb_of (tb_5 (List.mem_of_getElem? (i := 33) rfl)) rfl
theorem k_995 : (Cond.laysFinal "ChipDeskModel" "ChipDeskModel" "partAt" "[I") ∈ tb := tb_of (tb_5 (List.mem_of_getElem? (i := 35) rfl)) rfl
theorem k_997 : (Cond.laysFinal "ChipDeskModel" "ChipDeskModel" "linkFirst" "[I") ∈ tb := tb_of (tb_5 (List.mem_of_getElem? (i := 37) rfl)) rfl
theorem k_999 : (Cond.lays "ChipDeskModel" "ChipDeskModel" "links" "I") ∈ tb := tb_of (tb_5 (List.mem_of_getElem? (i := 39) rfl)) rfl
theorem k_1001 : (Cond.laysFinal "ChipDeskModel" "ChipDeskModel" "leftAt" "[I") ∈ tb := tb_of (tb_5 (List.mem_of_getElem? (i := 41) rfl)) rfl
theorem k_1003 : (Cond.laysFinal "ChipDeskModel" "ChipDeskModel" "leftRange" "[I") ∈ tb := tb_of (tb_5 (List.mem_of_getElem? (i := 43) rfl)) rfl
theorem k_1005 : (Cond.laysFinal "ChipDeskModel" "ChipDeskModel" "leftI" "[I") ∈ tb := tb_of (tb_5 (List.mem_of_getElem? (i := 45) rfl)) rfl
theorem k_1007 : (Cond.laysFinal "ChipDeskModel" "ChipDeskModel" "leftJ" "[I") ∈ tb := tb_of (tb_5 (List.mem_of_getElem? (i := 47) rfl)) rfl
theorem k_1009 : (Cond.laysFinal "ChipDeskModel" "ChipDeskModel" "rightAt" "[I") ∈ tb := tb_of (tb_5 (List.mem_of_getElem? (i := 49) rfl)) rfl
theorem k_1011 : (Cond.laysFinal "ChipDeskModel" "ChipDeskModel" "rightRange" "[I") ∈ tb := tb_of (tb_5 (List.mem_of_getElem? (i := 51) rfl)) rfl
theorem k_1013 : (Cond.laysFinal "ChipDeskModel" "ChipDeskModel" "rightI" "[I") ∈ tb := tb_of (tb_5 (List.mem_of_getElem? (i := 53) rfl)) rfl
theorem k_1015 : (Cond.laysFinal "ChipDeskModel" "ChipDeskModel" "rightJ" "[I") ∈ tb := tb_of (tb_5 (List.mem_of_getElem? (i := 55) rfl)) rfl
theorem k_1017 : (Cond.laysFinal "ChipDeskModel" "ChipDeskModel" "innerFirst" "[I") ∈ tb := tb_of (tb_5 (List.mem_of_getElem? (i := 57) rfl)) rfl
theorem k_1019 : (Cond.lays "ChipDeskModel" "ChipDeskModel" "inners" "I") ∈ tb := tb_of (tb_5 (List.mem_of_getElem? (i := 59) rfl)) rfl
theorem k_1021 : (Cond.laysFinal "ChipDeskModel" "ChipDeskModel" "innerAt" "[I") ∈ tb := tb_of (tb_5 (List.mem_of_getElem? (i := 61) rfl)) rfl
theorem k_1023 : (Cond.laysFinal "ChipDeskModel" "ChipDeskModel" "innerWidth" "[I") ∈ tb := tb_of (tb_5 (List.mem_of_getElem? (i := 63) rfl)) rfl
theorem k_1025 : (Cond.laysFinal "ChipDeskModel" "ChipDeskModel" "innerLinked" "[Z") ∈ tb := tb_of (tb_5 (List.mem_of_getElem? (i := 65) rfl)) rfl
theorem k_1027 : (Cond.lays "ChipDeskModel" "ChipDeskModel" "rangeAt" "I") ∈ tb := tb_of (tb_5 (List.mem_of_getElem? (i := 67) rfl)) rfl
theorem k_1029 : (Cond.lays "ChipDeskModel" "ChipDeskModel" "rangeI" "I") ∈ tb := tb_of (tb_5 (List.mem_of_getElem? (i := 69) rfl)) rfl
theorem k_1031 : (Cond.lays "ChipDeskModel" "ChipDeskModel" "rangeJ" "I") ∈ tb := tb_of (tb_5 (List.mem_of_getElem? (i := 71) rfl)) rfl
theorem k_1033 : (Cond.laysFinal "ChipDeskModel" "ChipDeskModel" "partIs" "[I") ∈ tb := tb_of (tb_5 (List.mem_of_getElem? (i := 73) rfl)) rfl
theorem k_1035 : (Cond.lays "ChipDeskModel" "ChipDeskModel" "board" "Z") ∈ tb := tb_of (tb_5 (List.mem_of_getElem? (i := 75) rfl)) rfl
theorem k_1037 : (Cond.laysFinal "ChipDeskModel" "ChipDeskModel" "GATE_WORDS" "[C") ∈ tb := tb_of (tb_5 (List.mem_of_getElem? (i := 77) rfl)) rfl
theorem k_1039 : (Cond.laysFinal "ChipDeskModel" "ChipDeskModel" "GATE_PINS" "[C") ∈ tb := tb_of (tb_5 (List.mem_of_getElem? (i := 79) rfl)) rfl
theorem k_1041 : (Cond.laysFinal "ChipDeskModel" "ChipDeskModel" "taken" "[I") ∈ tb := tb_of (tb_5 (List.mem_of_getElem? (i := 81) rfl)) rfl
theorem k_1043 : (Cond.laysFinal "ChipDeskModel" "ChipDeskModel" "linkedBits" "[I") ∈ tb := tb_of (tb_5 (List.mem_of_getElem? (i := 83) rfl)) rfl
theorem k_1045 : (Cond.laysFinal "ChipDeskModel" "ChipDeskModel" "within" "[Z") ∈ tb := tb_of (tb_5 (List.mem_of_getElem? (i := 85) rfl)) rfl
theorem k_1047 : (Cond.laysFinal "ChipDeskModel" "ChipDeskModel" "gatesIn" "[J") ∈ tb := tb_of (tb_5 (List.mem_of_getElem? (i := 87) rfl)) rfl
theorem k_1049 : (Cond.laysFinal "ChipDeskModel" "ChipDeskModel" "bitsIn" "[J") ∈ tb := tb_of (tb_5 (List.mem_of_getElem? (i := 89) rfl)) rfl
theorem k_1051 : (Cond.lays "ChipDeskModel" "ChipDeskModel" "bitCount" "I") ∈ tb := tb_of (tb_5 (List.mem_of_getElem? (i := 91) rfl)) rfl
theorem k_1053 : (Cond.laysFinal "ChipDeskModel" "ChipDeskModel" "from" "[I") ∈ tb := tb_of (tb_5 (List.mem_of_getElem? (i := 93) rfl)) rfl
theorem k_1055 : (Cond.laysFinal "ChipDeskModel" "ChipDeskModel" "gateOfBit" "[I") ∈ tb := tb_of (tb_5 (List.mem_of_getElem? (i := 95) rfl)) rfl
theorem k_1057 : (Cond.lays "ChipDeskModel" "ChipDeskModel" "gateCount" "I") ∈ tb := tb_of (tb_5 (List.mem_of_getElem? (i := 97) rfl)) rfl
theorem k_1059 : (Cond.laysFinal "ChipDeskModel" "ChipDeskModel" "gateDff" "[Z") ∈ tb := tb_of (tb_5 (List.mem_of_getElem? (i := 99) rfl)) rfl
theorem k_1061 : (Cond.laysFinal "ChipDeskModel" "ChipDeskModel" "gateIn" "[I") ∈ tb := tb_of (tb_5 (List.mem_of_getElem? (i := 101) rfl)) rfl
theorem k_1063 : (Cond.laysFinal "ChipDeskModel" "ChipDeskModel" "gateLevel" "[I") ∈ tb := tb_of (tb_5 (List.mem_of_getElem? (i := 103) rfl)) rfl
theorem k_1065 : (Cond.laysFinal "ChipDeskModel" "ChipDeskModel" "gateOrder" "[I") ∈ tb := tb_of (tb_5 (List.mem_of_getElem? (i := 105) rfl)) rfl
theorem k_1067 : (Cond.lays "ChipDeskModel" "ChipDeskModel" "ordered" "I") ∈ tb := tb_of (tb_5 (List.mem_of_getElem? (i := 107) rfl)) rfl
theorem k_1069 : (Cond.laysFinal "ChipDeskModel" "ChipDeskModel" "gateA" "[I") ∈ tb := tb_of (tb_5 (List.mem_of_getElem? (i := 109) rfl)) rfl
theorem k_1071 : (Cond.laysFinal "ChipDeskModel" "ChipDeskModel" "gateB" "[I") ∈ tb := tb_of (tb_5 (List.mem_of_getElem? (i := 111) rfl)) rfl
theorem k_1073 : (Cond.laysFinal "ChipDeskModel" "ChipDeskModel" "bitValue" "[I") ∈ tb := tb_of (tb_5 (List.mem_of_getElem? (i := 113) rfl)) rfl
theorem k_1075 : (Cond.lays "ChipDeskModel" "ChipDeskModel" "waiting" "I") ∈ tb := tb_of (tb_5 (List.mem_of_getElem? (i := 115) rfl)) rfl
theorem k_1077 : (Cond.laysFinal "ChipDeskModel" "ChipDeskModel" "waitChip" "[I") ∈ tb := tb_of (tb_5 (List.mem_of_getElem? (i := 117) rfl)) rfl
theorem k_1079 : (Cond.laysFinal "ChipDeskModel" "ChipDeskModel" "waitBase" "[I") ∈ tb := tb_of (tb_5 (List.mem_of_getElem? (i := 119) rfl)) rfl
theorem k_1081 : (Cond.lays "ChipDeskModel" "ChipDeskModel" "ticks" "I") ∈ tb := tb_of (tb_5 (List.mem_of_getElem? (i := 121) rfl)) rfl
theorem k_1083 : (Cond.lays "ChipDeskModel" "ChipDeskModel" "boardChip" "I") ∈ tb := tb_of (tb_5 (List.mem_of_getElem? (i := 123) rfl)) rfl
theorem k_1085 : (Cond.laysFinal "ChipDeskModel" "ChipDeskModel" "newValue" "[I") ∈ tb := tb_of (tb_5 (List.mem_of_getElem? (i := 125) rfl)) rfl
theorem k_1087 : (Cond.superclass "ChipDeskModel" "java/lang/Object") ∈ tb := tb_of (tb_5 (List.mem_of_getElem? (i := 127) rfl)) rfl
theorem k_1088 : (Cond.arrayClass ClassFile.FieldType.char) ∈ tb := tb_of (tb_5 (List.mem_of_getElem? (i := 128) rfl)) rfl
theorem k_1089 : (Cond.methodLink "ChipDeskLaw" 19 (⟨"ChipDeskModel", "put", "(JI)Z"⟩ : MethodName)) ∈ tb := tb_of (tb_5 (List.mem_of_getElem? (i := 129) rfl)) rfl
theorem k_1090 : (Cond.instanceMethod (⟨"ChipDeskModel", "put", "(JI)Z"⟩ : MethodName)) ∈ tb := tb_of (tb_5 (List.mem_of_getElem? (i := 130) rfl)) rfl
theorem k_1091 : (Cond.selects "ChipDeskModel" (⟨"ChipDeskModel", "put", "(JI)Z"⟩ : MethodName) (⟨"ChipDeskModel", "put", "(JI)Z"⟩ : MethodName)) ∈ tb := tb_of (tb_5 (List.mem_of_getElem? (i := 131) rfl)) rfl
theorem k_1092 : (Cond.code (⟨"ChipDeskModel", "put", "(JI)Z"⟩ : MethodName) prog_14_method_2_code 5 (Option.some ClassFile.FieldType.boolean)) ∈ tb := tb_of (tb_5 (List.mem_of_getElem? (i := 132) rfl)) rfl
theorem k_1093 : (Cond.methodLink "ChipDeskLaw" 28 (⟨"ChipDeskModel", "place", "()I"⟩ : MethodName)) ∈ tb := tb_of (tb_5 (List.mem_of_getElem? (i := 133) rfl)) rfl
theorem k_1094 : (Cond.instanceMethod (⟨"ChipDeskModel", "place", "()I"⟩ : MethodName)) ∈ tb := tb_of (tb_5 (List.mem_of_getElem? (i := 134) rfl)) rfl
theorem k_1095 : (Cond.selects "ChipDeskModel" (⟨"ChipDeskModel", "place", "()I"⟩ : MethodName) (⟨"ChipDeskModel", "place", "()I"⟩ : MethodName)) ∈ tb := tb_of (tb_5 (List.mem_of_getElem? (i := 135) rfl)) rfl
theorem k_1096 : (Cond.code (⟨"ChipDeskModel", "place", "()I"⟩ : MethodName) prog_14_method_3_code 1 (Option.some ClassFile.FieldType.int)) ∈ tb := tb_of (tb_5 (List.mem_of_getElem? (i := 136) rfl)) rfl
theorem k_1097 : (Cond.methodLink "ChipDeskLaw" 24 (⟨"ChipDeskModel", "read", "()I"⟩ : MethodName)) ∈ tb := tb_of (tb_5 (List.mem_of_getElem? (i := 137) rfl)) rfl
theorem k_1098 : (Cond.instanceMethod (⟨"ChipDeskModel", "read", "()I"⟩ : MethodName)) ∈ tb := tb_of (tb_5 (List.mem_of_getElem? (i := 138) rfl)) rfl
theorem k_1099 : (Cond.selects "ChipDeskModel" (⟨"ChipDeskModel", "read", "()I"⟩ : MethodName) (⟨"ChipDeskModel", "read", "()I"⟩ : MethodName)) ∈ tb := tb_of (tb_5 (List.mem_of_getElem? (i := 139) rfl)) rfl
theorem k_1100 : (Cond.code (⟨"ChipDeskModel", "read", "()I"⟩ : MethodName) prog_14_method_62_code 2 (Option.some ClassFile.FieldType.int)) ∈ tb := tb_of (tb_5 (List.mem_of_getElem? (i := 140) rfl)) rfl
theorem k_1101 : (Cond.methodLink "ChipDeskModel" 389 (⟨"ChipDeskModel", "tokenize", "(I)V"⟩ : MethodName)) ∈ tb := tb_of (tb_5 (List.mem_of_getElem? (i := 141) rfl)) rfl
theorem k_1103 : (Cond.instanceMethod (⟨"ChipDeskModel", "tokenize", "(I)V"⟩ : MethodName)) ∈ tb := tb_of (tb_5 (List.mem_of_getElem? (i := 143) rfl)) rfl
theorem k_1104 : (Cond.code (⟨"ChipDeskModel", "tokenize", "(I)V"⟩ : MethodName) prog_14_method_11_code 5 (Option.none : Option ClassFile.FieldType)) ∈ tb := tb_of (tb_5 (List.mem_of_getElem? (i := 144) rfl)) rfl
theorem k_1105 : (Cond.methodLink "ChipDeskModel" 181 (⟨"ChipDeskModel", "skip", "(I)I"⟩ : MethodName)) ∈ tb := tb_of (tb_5 (List.mem_of_getElem? (i := 145) rfl)) rfl
theorem k_1107 : (Cond.instanceMethod (⟨"ChipDeskModel", "skip", "(I)I"⟩ : MethodName)) ∈ tb := tb_of (tb_5 (List.mem_of_getElem? (i := 147) rfl)) rfl
theorem k_1108 : (Cond.code (⟨"ChipDeskModel", "skip", "(I)I"⟩ : MethodName) prog_14_method_9_code 5 (Option.some ClassFile.FieldType.int)) ∈ tb := tb_of (tb_5 (List.mem_of_getElem? (i := 148) rfl)) rfl
theorem k_1109 : (Cond.methodLink "ChipDeskModel" 174 (⟨"ChipDeskModel", "at", "(I)I"⟩ : MethodName)) ∈ tb := tb_of (tb_5 (List.mem_of_getElem? (i := 149) rfl)) rfl
theorem k_1111 : (Cond.instanceMethod (⟨"ChipDeskModel", "at", "(I)I"⟩ : MethodName)) ∈ tb := tb_of (tb_5 (List.mem_of_getElem? (i := 151) rfl)) rfl
theorem k_1112 : (Cond.code (⟨"ChipDeskModel", "at", "(I)I"⟩ : MethodName) prog_14_method_4_code 2 (Option.some ClassFile.FieldType.int)) ∈ tb := tb_of (tb_5 (List.mem_of_getElem? (i := 152) rfl)) rfl
theorem k_1113 : (Cond.methodLink "ChipDeskModel" 184 (⟨"ChipDeskModel", "token", "(IIII)V"⟩ : MethodName)) ∈ tb := tb_of (tb_5 (List.mem_of_getElem? (i := 153) rfl)) rfl
theorem k_1115 : (Cond.instanceMethod (⟨"ChipDeskModel", "token", "(IIII)V"⟩ : MethodName)) ∈ tb := tb_of (tb_5 (List.mem_of_getElem? (i := 155) rfl)) rfl
theorem k_1116 : (Cond.code (⟨"ChipDeskModel", "token", "(IIII)V"⟩ : MethodName) prog_14_method_8_code 5 (Option.none : Option ClassFile.FieldType)) ∈ tb := tb_of (tb_5 (List.mem_of_getElem? (i := 156) rfl)) rfl
theorem k_1117 : (Cond.methodLink "ChipDeskModel" 188 (⟨"ChipDeskModel", "chipToken", "(I)I"⟩ : MethodName)) ∈ tb := tb_of (tb_5 (List.mem_of_getElem? (i := 157) rfl)) rfl
theorem k_1119 : (Cond.instanceMethod (⟨"ChipDeskModel", "chipToken", "(I)I"⟩ : MethodName)) ∈ tb := tb_of (tb_5 (List.mem_of_getElem? (i := 159) rfl)) rfl
theorem k_1120 : (Cond.code (⟨"ChipDeskModel", "chipToken", "(I)I"⟩ : MethodName) prog_14_method_14_code 3 (Option.some ClassFile.FieldType.int)) ∈ tb := tb_of (tb_5 (List.mem_of_getElem? (i := 160) rfl)) rfl
theorem k_1121 : (Cond.methodLink "ChipDeskModel" 164 (⟨"ChipDeskModel", "isLetter", "(I)Z"⟩ : MethodName)) ∈ tb := tb_of (tb_5 (List.mem_of_getElem? (i := 161) rfl)) rfl
theorem k_1122 : (Cond.static (⟨"ChipDeskModel", "isLetter", "(I)Z"⟩ : MethodName)) ∈ tb := tb_of (tb_5 (List.mem_of_getElem? (i := 162) rfl)) rfl
theorem k_1123 : (Cond.code (⟨"ChipDeskModel", "isLetter", "(I)Z"⟩ : MethodName) prog_14_method_5_code 1 (Option.some ClassFile.FieldType.boolean)) ∈ tb := tb_of (tb_5 (List.mem_of_getElem? (i := 163) rfl)) rfl
theorem k_1124 : (Cond.methodLink "ChipDeskModel" 198 (⟨"ChipDeskModel", "wordToken", "(I[CZ)I"⟩ : MethodName)) ∈ tb := tb_of (tb_5 (List.mem_of_getElem? (i := 164) rfl)) rfl
theorem k_1126 : (Cond.instanceMethod (⟨"ChipDeskModel", "wordToken", "(I[CZ)I"⟩ : MethodName)) ∈ tb := tb_of (tb_5 (List.mem_of_getElem? (i := 166) rfl)) rfl
theorem k_1127 : (Cond.code (⟨"ChipDeskModel", "wordToken", "(I[CZ)I"⟩ : MethodName) prog_14_method_12_code 6 (Option.some ClassFile.FieldType.int)) ∈ tb := tb_of (tb_5 (List.mem_of_getElem? (i := 167) rfl)) rfl
theorem k_1128 : (Cond.methodLink "ChipDeskModel" 191 (⟨"ChipDeskModel", "isWordByte", "(I)Z"⟩ : MethodName)) ∈ tb := tb_of (tb_5 (List.mem_of_getElem? (i := 168) rfl)) rfl
theorem k_1129 : (Cond.static (⟨"ChipDeskModel", "isWordByte", "(I)Z"⟩ : MethodName)) ∈ tb := tb_of (tb_5 (List.mem_of_getElem? (i := 169) rfl)) rfl
theorem k_1130 : (Cond.code (⟨"ChipDeskModel", "isWordByte", "(I)Z"⟩ : MethodName) prog_14_method_7_code 1 (Option.some ClassFile.FieldType.boolean)) ∈ tb := tb_of (tb_5 (List.mem_of_getElem? (i := 170) rfl)) rfl
theorem k_1131 : (Cond.methodLink "ChipDeskModel" 168 (⟨"ChipDeskModel", "isDigit", "(I)Z"⟩ : MethodName)) ∈ tb := tb_of (tb_5 (List.mem_of_getElem? (i := 171) rfl)) rfl
theorem k_1132 : (Cond.static (⟨"ChipDeskModel", "isDigit", "(I)Z"⟩ : MethodName)) ∈ tb := tb_of (tb_5 (List.mem_of_getElem? (i := 172) rfl)) rfl
theorem k_1133 : (Cond.code (⟨"ChipDeskModel", "isDigit", "(I)Z"⟩ : MethodName) prog_14_method_6_code 1 (Option.some ClassFile.FieldType.boolean)) ∈ tb := tb_of (tb_5 (List.mem_of_getElem? (i := 173) rfl)) rfl
theorem k_1134 : (Cond.methodLink "ChipDeskModel" 194 (⟨"ChipDeskModel", "wordOf", "([CII)I"⟩ : MethodName)) ∈ tb := tb_of (tb_5 (List.mem_of_getElem? (i := 174) rfl)) rfl
theorem k_1136 : (Cond.instanceMethod (⟨"ChipDeskModel", "wordOf", "([CII)I"⟩ : MethodName)) ∈ tb := tb_of (tb_5 (List.mem_of_getElem? (i := 176) rfl)) rfl
theorem k_1137 : (Cond.code (⟨"ChipDeskModel", "wordOf", "([CII)I"⟩ : MethodName) prog_14_method_10_code 7 (Option.some ClassFile.FieldType.int)) ∈ tb := tb_of (tb_5 (List.mem_of_getElem? (i := 177) rfl)) rfl
theorem k_1138 : (Cond.methodLink "ChipDeskModel" 202 (⟨"ChipDeskModel", "numberToken", "(III)I"⟩ : MethodName)) ∈ tb := tb_of (tb_5 (List.mem_of_getElem? (i := 178) rfl)) rfl
theorem k_1140 : (Cond.instanceMethod (⟨"ChipDeskModel", "numberToken", "(III)I"⟩ : MethodName)) ∈ tb := tb_of (tb_5 (List.mem_of_getElem? (i := 180) rfl)) rfl
theorem k_1141 : (Cond.code (⟨"ChipDeskModel", "numberToken", "(III)I"⟩ : MethodName) prog_14_method_13_code 6 (Option.some ClassFile.FieldType.int)) ∈ tb := tb_of (tb_5 (List.mem_of_getElem? (i := 181) rfl)) rfl
theorem k_1142 : (Cond.methodLink "ChipDeskModel" 392 (⟨"ChipDeskModel", "chipTexts", "()V"⟩ : MethodName)) ∈ tb := tb_of (tb_5 (List.mem_of_getElem? (i := 182) rfl)) rfl
theorem k_1144 : (Cond.instanceMethod (⟨"ChipDeskModel", "chipTexts", "()V"⟩ : MethodName)) ∈ tb := tb_of (tb_5 (List.mem_of_getElem? (i := 184) rfl)) rfl
theorem k_1145 : (Cond.code (⟨"ChipDeskModel", "chipTexts", "()V"⟩ : MethodName) prog_14_method_34_code 2 (Option.none : Option ClassFile.FieldType)) ∈ tb := tb_of (tb_5 (List.mem_of_getElem? (i := 185) rfl)) rfl
theorem k_1146 : (Cond.methodLink "ChipDeskModel" 300 (⟨"ChipDeskModel", "chip", "()V"⟩ : MethodName)) ∈ tb := tb_of (tb_5 (List.mem_of_getElem? (i := 186) rfl)) rfl
theorem k_1148 : (Cond.instanceMethod (⟨"ChipDeskModel", "chip", "()V"⟩ : MethodName)) ∈ tb := tb_of (tb_5 (List.mem_of_getElem? (i := 188) rfl)) rfl
theorem k_1149 : (Cond.code (⟨"ChipDeskModel", "chip", "()V"⟩ : MethodName) prog_14_method_33_code 1 (Option.none : Option ClassFile.FieldType)) ∈ tb := tb_of (tb_5 (List.mem_of_getElem? (i := 189) rfl)) rfl
theorem k_1150 : (Cond.methodLink "ChipDeskModel" 290 (⟨"ChipDeskModel", "needWord", "(I)V"⟩ : MethodName)) ∈ tb := tb_of (tb_5 (List.mem_of_getElem? (i := 190) rfl)) rfl
theorem k_1152 : (Cond.instanceMethod (⟨"ChipDeskModel", "needWord", "(I)V"⟩ : MethodName)) ∈ tb := tb_of (tb_5 (List.mem_of_getElem? (i := 192) rfl)) rfl
theorem k_1153 : (Cond.code (⟨"ChipDeskModel", "needWord", "(I)V"⟩ : MethodName) prog_14_method_22_code 2 (Option.none : Option ClassFile.FieldType)) ∈ tb := tb_of (tb_5 (List.mem_of_getElem? (i := 193) rfl)) rfl
theorem k_1154 : (Cond.methodLink "ChipDeskModel" 225 (⟨"ChipDeskModel", "isWord", "(I)Z"⟩ : MethodName)) ∈ tb := tb_of (tb_5 (List.mem_of_getElem? (i := 194) rfl)) rfl
theorem k_1156 : (Cond.instanceMethod (⟨"ChipDeskModel", "isWord", "(I)Z"⟩ : MethodName)) ∈ tb := tb_of (tb_5 (List.mem_of_getElem? (i := 196) rfl)) rfl
theorem k_1157 : (Cond.code (⟨"ChipDeskModel", "isWord", "(I)Z"⟩ : MethodName) prog_14_method_19_code 2 (Option.some ClassFile.FieldType.boolean)) ∈ tb := tb_of (tb_5 (List.mem_of_getElem? (i := 197) rfl)) rfl
theorem k_1158 : (Cond.methodLink "ChipDeskModel" 219 (⟨"ChipDeskModel", "go", "()V"⟩ : MethodName)) ∈ tb := tb_of (tb_5 (List.mem_of_getElem? (i := 198) rfl)) rfl
theorem k_1160 : (Cond.instanceMethod (⟨"ChipDeskModel", "go", "()V"⟩ : MethodName)) ∈ tb := tb_of (tb_5 (List.mem_of_getElem? (i := 200) rfl)) rfl
theorem k_1161 : (Cond.code (⟨"ChipDeskModel", "go", "()V"⟩ : MethodName) prog_14_method_20_code 1 (Option.none : Option ClassFile.FieldType)) ∈ tb := tb_of (tb_5 (List.mem_of_getElem? (i := 201) rfl)) rfl
theorem k_1162 : (Cond.methodLink "ChipDeskModel" 222 (⟨"ChipDeskModel", "syntax", "()V"⟩ : MethodName)) ∈ tb := tb_of (tb_5 (List.mem_of_getElem? (i := 202) rfl)) rfl
theorem k_1164 : (Cond.instanceMethod (⟨"ChipDeskModel", "syntax", "()V"⟩ : MethodName)) ∈ tb := tb_of (tb_5 (List.mem_of_getElem? (i := 204) rfl)) rfl
theorem k_1165 : (Cond.code (⟨"ChipDeskModel", "syntax", "()V"⟩ : MethodName) prog_14_method_17_code 1 (Option.none : Option ClassFile.FieldType)) ∈ tb := tb_of (tb_5 (List.mem_of_getElem? (i := 205) rfl)) rfl
theorem k_1166 : (Cond.methodLink "ChipDeskModel" 212 (⟨"ChipDeskModel", "wrong", "(II)V"⟩ : MethodName)) ∈ tb := tb_of (tb_5 (List.mem_of_getElem? (i := 206) rfl)) rfl
theorem k_1168 : (Cond.instanceMethod (⟨"ChipDeskModel", "wrong", "(II)V"⟩ : MethodName)) ∈ tb := tb_of (tb_5 (List.mem_of_getElem? (i := 208) rfl)) rfl
theorem k_1169 : (Cond.code (⟨"ChipDeskModel", "wrong", "(II)V"⟩ : MethodName) prog_14_method_16_code 3 (Option.none : Option ClassFile.FieldType)) ∈ tb := tb_of (tb_5 (List.mem_of_getElem? (i := 209) rfl)) rfl
theorem k_1170 : (Cond.methodLink "ChipDeskModel" 240 (⟨"ChipDeskModel", "room", "(III)V"⟩ : MethodName)) ∈ tb := tb_of (tb_5 (List.mem_of_getElem? (i := 210) rfl)) rfl
theorem k_1172 : (Cond.instanceMethod (⟨"ChipDeskModel", "room", "(III)V"⟩ : MethodName)) ∈ tb := tb_of (tb_5 (List.mem_of_getElem? (i := 212) rfl)) rfl
theorem k_1173 : (Cond.code (⟨"ChipDeskModel", "room", "(III)V"⟩ : MethodName) prog_14_method_24_code 4 (Option.none : Option ClassFile.FieldType)) ∈ tb := tb_of (tb_5 (List.mem_of_getElem? (i := 213) rfl)) rfl
theorem k_1174 : (Cond.methodLink "ChipDeskModel" 248 (⟨"ChipDeskModel", "needSign", "(I)V"⟩ : MethodName)) ∈ tb := tb_of (tb_5 (List.mem_of_getElem? (i := 214) rfl)) rfl
theorem k_1176 : (Cond.instanceMethod (⟨"ChipDeskModel", "needSign", "(I)V"⟩ : MethodName)) ∈ tb := tb_of (tb_5 (List.mem_of_getElem? (i := 216) rfl)) rfl
theorem k_1177 : (Cond.code (⟨"ChipDeskModel", "needSign", "(I)V"⟩ : MethodName) prog_14_method_21_code 2 (Option.none : Option ClassFile.FieldType)) ∈ tb := tb_of (tb_5 (List.mem_of_getElem? (i := 217) rfl)) rfl
theorem k_1178 : (Cond.methodLink "ChipDeskModel" 216 (⟨"ChipDeskModel", "isSign", "(I)Z"⟩ : MethodName)) ∈ tb := tb_of (tb_5 (List.mem_of_getElem? (i := 218) rfl)) rfl
theorem k_1180 : (Cond.instanceMethod (⟨"ChipDeskModel", "isSign", "(I)Z"⟩ : MethodName)) ∈ tb := tb_of (tb_5 (List.mem_of_getElem? (i := 220) rfl)) rfl
theorem k_1181 : (Cond.code (⟨"ChipDeskModel", "isSign", "(I)Z"⟩ : MethodName) prog_14_method_18_code 2 (Option.some ClassFile.FieldType.boolean)) ∈ tb := tb_of (tb_5 (List.mem_of_getElem? (i := 221) rfl)) rfl
theorem k_1182 : (Cond.methodLink "ChipDeskModel" 293 (⟨"ChipDeskModel", "pinList", "(Z)V"⟩ : MethodName)) ∈ tb := tb_of (tb_5 (List.mem_of_getElem? (i := 222) rfl)) rfl
theorem k_1184 : (Cond.instanceMethod (⟨"ChipDeskModel", "pinList", "(Z)V"⟩ : MethodName)) ∈ tb := tb_of (tb_5 (List.mem_of_getElem? (i := 224) rfl)) rfl
theorem k_1185 : (Cond.code (⟨"ChipDeskModel", "pinList", "(Z)V"⟩ : MethodName) prog_14_method_27_code 4 (Option.none : Option ClassFile.FieldType)) ∈ tb := tb_of (tb_5 (List.mem_of_getElem? (i := 225) rfl)) rfl
theorem k_1186 : (Cond.methodLink "ChipDeskModel" 244 (⟨"ChipDeskModel", "needNumber", "()I"⟩ : MethodName)) ∈ tb := tb_of (tb_5 (List.mem_of_getElem? (i := 226) rfl)) rfl
theorem k_1188 : (Cond.instanceMethod (⟨"ChipDeskModel", "needNumber", "()I"⟩ : MethodName)) ∈ tb := tb_of (tb_5 (List.mem_of_getElem? (i := 228) rfl)) rfl
theorem k_1189 : (Cond.code (⟨"ChipDeskModel", "needNumber", "()I"⟩ : MethodName) prog_14_method_26_code 1 (Option.some ClassFile.FieldType.int)) ∈ tb := tb_of (tb_5 (List.mem_of_getElem? (i := 229) rfl)) rfl
theorem k_1190 : (Cond.methodLink "ChipDeskModel" 297 (⟨"ChipDeskModel", "part", "()V"⟩ : MethodName)) ∈ tb := tb_of (tb_5 (List.mem_of_getElem? (i := 230) rfl)) rfl
theorem k_1192 : (Cond.instanceMethod (⟨"ChipDeskModel", "part", "()V"⟩ : MethodName)) ∈ tb := tb_of (tb_5 (List.mem_of_getElem? (i := 232) rfl)) rfl
theorem k_1193 : (Cond.code (⟨"ChipDeskModel", "part", "()V"⟩ : MethodName) prog_14_method_32_code 2 (Option.none : Option ClassFile.FieldType)) ∈ tb := tb_of (tb_5 (List.mem_of_getElem? (i := 233) rfl)) rfl
theorem k_1194 : (Cond.methodLink "ChipDeskModel" 287 (⟨"ChipDeskModel", "link", "()V"⟩ : MethodName)) ∈ tb := tb_of (tb_5 (List.mem_of_getElem? (i := 234) rfl)) rfl
theorem k_1196 : (Cond.instanceMethod (⟨"ChipDeskModel", "link", "()V"⟩ : MethodName)) ∈ tb := tb_of (tb_5 (List.mem_of_getElem? (i := 236) rfl)) rfl
theorem k_1197 : (Cond.code (⟨"ChipDeskModel", "link", "()V"⟩ : MethodName) prog_14_method_31_code 3 (Option.none : Option ClassFile.FieldType)) ∈ tb := tb_of (tb_5 (List.mem_of_getElem? (i := 237) rfl)) rfl
theorem k_1198 : (Cond.methodLink "ChipDeskModel" 265 (⟨"ChipDeskModel", "needName", "()I"⟩ : MethodName)) ∈ tb := tb_of (tb_5 (List.mem_of_getElem? (i := 238) rfl)) rfl
theorem k_1200 : (Cond.instanceMethod (⟨"ChipDeskModel", "needName", "()I"⟩ : MethodName)) ∈ tb := tb_of (tb_6 (List.mem_of_getElem? (i := 0) rfl)) rfl
theorem k_1201 : (Cond.code (⟨"ChipDeskModel", "needName", "()I"⟩ : MethodName) prog_14_method_23_code 1 (Option.some ClassFile.FieldType.int)) ∈ tb := tb_of (tb_6 (List.mem_of_getElem? (i := 1) rfl)) rfl
theorem k_1202 : (Cond.methodLink "ChipDeskModel" 271 (⟨"ChipDeskModel", "range", "()V"⟩ : MethodName)) ∈ tb := tb_of (tb_6 (List.mem_of_getElem? (i := 2) rfl)) rfl
theorem k_1204 : (Cond.instanceMethod (⟨"ChipDeskModel", "range", "()V"⟩ : MethodName)) ∈ tb := tb_of (tb_6 (List.mem_of_getElem? (i := 4) rfl)) rfl
theorem k_1205 : (Cond.code (⟨"ChipDeskModel", "range", "()V"⟩ : MethodName) prog_14_method_28_code 3 (Option.none : Option ClassFile.FieldType)) ∈ tb := tb_of (tb_6 (List.mem_of_getElem? (i := 5) rfl)) rfl
theorem k_1206 : (Cond.methodLink "ChipDeskModel" 277 (⟨"ChipDeskModel", "pinOf", "(II)I"⟩ : MethodName)) ∈ tb := tb_of (tb_6 (List.mem_of_getElem? (i := 6) rfl)) rfl
theorem k_1208 : (Cond.instanceMethod (⟨"ChipDeskModel", "pinOf", "(II)I"⟩ : MethodName)) ∈ tb := tb_of (tb_6 (List.mem_of_getElem? (i := 8) rfl)) rfl
theorem k_1209 : (Cond.code (⟨"ChipDeskModel", "pinOf", "(II)I"⟩ : MethodName) prog_14_method_29_code 4 (Option.some ClassFile.FieldType.int)) ∈ tb := tb_of (tb_6 (List.mem_of_getElem? (i := 9) rfl)) rfl
theorem k_1210 : (Cond.methodLink "ChipDeskModel" 261 (⟨"ChipDeskModel", "like", "(II)Z"⟩ : MethodName)) ∈ tb := tb_of (tb_6 (List.mem_of_getElem? (i := 10) rfl)) rfl
theorem k_1212 : (Cond.instanceMethod (⟨"ChipDeskModel", "like", "(II)Z"⟩ : MethodName)) ∈ tb := tb_of (tb_6 (List.mem_of_getElem? (i := 12) rfl)) rfl
theorem k_1213 : (Cond.code (⟨"ChipDeskModel", "like", "(II)Z"⟩ : MethodName) prog_14_method_15_code 5 (Option.some ClassFile.FieldType.boolean)) ∈ tb := tb_of (tb_6 (List.mem_of_getElem? (i := 13) rfl)) rfl
theorem k_1214 : (Cond.methodLink "ChipDeskModel" 281 (⟨"ChipDeskModel", "innerOf", "(II)I"⟩ : MethodName)) ∈ tb := tb_of (tb_6 (List.mem_of_getElem? (i := 14) rfl)) rfl
theorem k_1216 : (Cond.instanceMethod (⟨"ChipDeskModel", "innerOf", "(II)I"⟩ : MethodName)) ∈ tb := tb_of (tb_6 (List.mem_of_getElem? (i := 16) rfl)) rfl
theorem k_1217 : (Cond.code (⟨"ChipDeskModel", "innerOf", "(II)I"⟩ : MethodName) prog_14_method_30_code 4 (Option.some ClassFile.FieldType.int)) ∈ tb := tb_of (tb_6 (List.mem_of_getElem? (i := 17) rfl)) rfl
theorem k_1218 : (Cond.methodLink "ChipDeskModel" 395 (⟨"ChipDeskModel", "checkPins", "()V"⟩ : MethodName)) ∈ tb := tb_of (tb_6 (List.mem_of_getElem? (i := 18) rfl)) rfl
theorem k_1220 : (Cond.instanceMethod (⟨"ChipDeskModel", "checkPins", "()V"⟩ : MethodName)) ∈ tb := tb_of (tb_6 (List.mem_of_getElem? (i := 20) rfl)) rfl
theorem k_1221 : (Cond.code (⟨"ChipDeskModel", "checkPins", "()V"⟩ : MethodName) prog_14_method_43_code 6 (Option.none : Option ClassFile.FieldType)) ∈ tb := tb_of (tb_6 (List.mem_of_getElem? (i := 21) rfl)) rfl
theorem k_1222 : (Cond.methodLink "ChipDeskModel" 303 (⟨"ChipDeskModel", "gateOf", "(I)I"⟩ : MethodName)) ∈ tb := tb_of (tb_6 (List.mem_of_getElem? (i := 22) rfl)) rfl
theorem k_1224 : (Cond.instanceMethod (⟨"ChipDeskModel", "gateOf", "(I)I"⟩ : MethodName)) ∈ tb := tb_of (tb_6 (List.mem_of_getElem? (i := 24) rfl)) rfl
theorem k_1225 : (Cond.code (⟨"ChipDeskModel", "gateOf", "(I)I"⟩ : MethodName) prog_14_method_36_code 2 (Option.some ClassFile.FieldType.int)) ∈ tb := tb_of (tb_6 (List.mem_of_getElem? (i := 25) rfl)) rfl
theorem k_1226 : (Cond.methodLink "ChipDeskModel" 306 (⟨"ChipDeskModel", "note", "(II)V"⟩ : MethodName)) ∈ tb := tb_of (tb_6 (List.mem_of_getElem? (i := 26) rfl)) rfl
theorem k_1228 : (Cond.instanceMethod (⟨"ChipDeskModel", "note", "(II)V"⟩ : MethodName)) ∈ tb := tb_of (tb_6 (List.mem_of_getElem? (i := 28) rfl)) rfl
theorem k_1229 : (Cond.code (⟨"ChipDeskModel", "note", "(II)V"⟩ : MethodName) prog_14_method_25_code 3 (Option.none : Option ClassFile.FieldType)) ∈ tb := tb_of (tb_6 (List.mem_of_getElem? (i := 29) rfl)) rfl
theorem k_1230 : (Cond.methodLink "ChipDeskModel" 398 (⟨"ChipDeskModel", "findInner", "(I)V"⟩ : MethodName)) ∈ tb := tb_of (tb_6 (List.mem_of_getElem? (i := 30) rfl)) rfl
theorem k_1232 : (Cond.instanceMethod (⟨"ChipDeskModel", "findInner", "(I)V"⟩ : MethodName)) ∈ tb := tb_of (tb_6 (List.mem_of_getElem? (i := 32) rfl)) rfl
theorem k_1233 : (Cond.code (⟨"ChipDeskModel", "findInner", "(I)V"⟩ : MethodName) prog_14_method_44_code 7 (Option.none : Option ClassFile.FieldType)) ∈ tb := tb_of (tb_6 (List.mem_of_getElem? (i := 33) rfl)) rfl
theorem k_1234 : (Cond.methodLink "ChipDeskModel" 309 (⟨"ChipDeskModel", "chipOf", "(I)I"⟩ : MethodName)) ∈ tb := tb_of (tb_6 (List.mem_of_getElem? (i := 34) rfl)) rfl
theorem k_1236 : (Cond.instanceMethod (⟨"ChipDeskModel", "chipOf", "(I)I"⟩ : MethodName)) ∈ tb := tb_of (tb_6 (List.mem_of_getElem? (i := 36) rfl)) rfl
theorem k_1237 : (Cond.code (⟨"ChipDeskModel", "chipOf", "(I)I"⟩ : MethodName) prog_14_method_37_code 4 (Option.some ClassFile.FieldType.int)) ∈ tb := tb_of (tb_6 (List.mem_of_getElem? (i := 37) rfl)) rfl
theorem k_1238 : (Cond.methodLink "ChipDeskModel" 312 (⟨"ChipDeskModel", "pinOfPart", "(II)I"⟩ : MethodName)) ∈ tb := tb_of (tb_6 (List.mem_of_getElem? (i := 38) rfl)) rfl
theorem k_1240 : (Cond.instanceMethod (⟨"ChipDeskModel", "pinOfPart", "(II)I"⟩ : MethodName)) ∈ tb := tb_of (tb_6 (List.mem_of_getElem? (i := 40) rfl)) rfl
theorem k_1241 : (Cond.code (⟨"ChipDeskModel", "pinOfPart", "(II)I"⟩ : MethodName) prog_14_method_38_code 4 (Option.some ClassFile.FieldType.int)) ∈ tb := tb_of (tb_6 (List.mem_of_getElem? (i := 41) rfl)) rfl
theorem k_1242 : (Cond.methodLink "ChipDeskModel" 315 (⟨"ChipDeskModel", "isOut", "(II)Z"⟩ : MethodName)) ∈ tb := tb_of (tb_6 (List.mem_of_getElem? (i := 42) rfl)) rfl
theorem k_1244 : (Cond.instanceMethod (⟨"ChipDeskModel", "isOut", "(II)Z"⟩ : MethodName)) ∈ tb := tb_of (tb_6 (List.mem_of_getElem? (i := 44) rfl)) rfl
theorem k_1245 : (Cond.code (⟨"ChipDeskModel", "isOut", "(II)Z"⟩ : MethodName) prog_14_method_39_code 3 (Option.some ClassFile.FieldType.boolean)) ∈ tb := tb_of (tb_6 (List.mem_of_getElem? (i := 45) rfl)) rfl
theorem k_1246 : (Cond.methodLink "ChipDeskModel" 318 (⟨"ChipDeskModel", "widthOf", "(II)I"⟩ : MethodName)) ∈ tb := tb_of (tb_6 (List.mem_of_getElem? (i := 46) rfl)) rfl
theorem k_1248 : (Cond.instanceMethod (⟨"ChipDeskModel", "widthOf", "(II)I"⟩ : MethodName)) ∈ tb := tb_of (tb_6 (List.mem_of_getElem? (i := 48) rfl)) rfl
theorem k_1249 : (Cond.code (⟨"ChipDeskModel", "widthOf", "(II)I"⟩ : MethodName) prog_14_method_40_code 3 (Option.some ClassFile.FieldType.int)) ∈ tb := tb_of (tb_6 (List.mem_of_getElem? (i := 49) rfl)) rfl
theorem k_1250 : (Cond.methodLink "ChipDeskModel" 321 (⟨"ChipDeskModel", "rangeFits", "(IIII)Z"⟩ : MethodName)) ∈ tb := tb_of (tb_6 (List.mem_of_getElem? (i := 50) rfl)) rfl
theorem k_1252 : (Cond.instanceMethod (⟨"ChipDeskModel", "rangeFits", "(IIII)Z"⟩ : MethodName)) ∈ tb := tb_of (tb_6 (List.mem_of_getElem? (i := 52) rfl)) rfl
theorem k_1253 : (Cond.code (⟨"ChipDeskModel", "rangeFits", "(IIII)Z"⟩ : MethodName) prog_14_method_41_code 5 (Option.some ClassFile.FieldType.boolean)) ∈ tb := tb_of (tb_6 (List.mem_of_getElem? (i := 53) rfl)) rfl
theorem k_1254 : (Cond.methodLink "ChipDeskModel" 325 (⟨"ChipDeskModel", "bitsOf", "(IIII)I"⟩ : MethodName)) ∈ tb := tb_of (tb_6 (List.mem_of_getElem? (i := 54) rfl)) rfl
theorem k_1256 : (Cond.instanceMethod (⟨"ChipDeskModel", "bitsOf", "(IIII)I"⟩ : MethodName)) ∈ tb := tb_of (tb_6 (List.mem_of_getElem? (i := 56) rfl)) rfl
theorem k_1257 : (Cond.code (⟨"ChipDeskModel", "bitsOf", "(IIII)I"⟩ : MethodName) prog_14_method_42_code 5 (Option.some ClassFile.FieldType.int)) ∈ tb := tb_of (tb_6 (List.mem_of_getElem? (i := 57) rfl)) rfl
theorem k_1258 : (Cond.methodLink "ChipDeskModel" 401 (⟨"ChipDeskModel", "checkLinks", "(I)V"⟩ : MethodName)) ∈ tb := tb_of (tb_6 (List.mem_of_getElem? (i := 58) rfl)) rfl
theorem k_1260 : (Cond.instanceMethod (⟨"ChipDeskModel", "checkLinks", "(I)V"⟩ : MethodName)) ∈ tb := tb_of (tb_6 (List.mem_of_getElem? (i := 60) rfl)) rfl
theorem k_1261 : (Cond.code (⟨"ChipDeskModel", "checkLinks", "(I)V"⟩ : MethodName) prog_14_method_46_code 11 (Option.none : Option ClassFile.FieldType)) ∈ tb := tb_of (tb_6 (List.mem_of_getElem? (i := 61) rfl)) rfl
theorem k_1262 : (Cond.methodLink "ChipDeskModel" 329 (⟨"ChipDeskModel", "checkRight", "(IIZI)V"⟩ : MethodName)) ∈ tb := tb_of (tb_6 (List.mem_of_getElem? (i := 62) rfl)) rfl
theorem k_1264 : (Cond.instanceMethod (⟨"ChipDeskModel", "checkRight", "(IIZI)V"⟩ : MethodName)) ∈ tb := tb_of (tb_6 (List.mem_of_getElem? (i := 64) rfl)) rfl
theorem k_1265 : (Cond.code (⟨"ChipDeskModel", "checkRight", "(IIZI)V"⟩ : MethodName) prog_14_method_45_code 10 (Option.none : Option ClassFile.FieldType)) ∈ tb := tb_of (tb_6 (List.mem_of_getElem? (i := 65) rfl)) rfl
theorem k_1266 : (Cond.methodLink "ChipDeskModel" 404 (⟨"ChipDeskModel", "checkRing", "()V"⟩ : MethodName)) ∈ tb := tb_of (tb_6 (List.mem_of_getElem? (i := 66) rfl)) rfl
theorem k_1268 : (Cond.instanceMethod (⟨"ChipDeskModel", "checkRing", "()V"⟩ : MethodName)) ∈ tb := tb_of (tb_6 (List.mem_of_getElem? (i := 68) rfl)) rfl
theorem k_1269 : (Cond.code (⟨"ChipDeskModel", "checkRing", "()V"⟩ : MethodName) prog_14_method_47_code 4 (Option.none : Option ClassFile.FieldType)) ∈ tb := tb_of (tb_6 (List.mem_of_getElem? (i := 69) rfl)) rfl
theorem k_1270 : (Cond.methodLink "ChipDeskModel" 407 (⟨"ChipDeskModel", "countAll", "()V"⟩ : MethodName)) ∈ tb := tb_of (tb_6 (List.mem_of_getElem? (i := 70) rfl)) rfl
theorem k_1272 : (Cond.instanceMethod (⟨"ChipDeskModel", "countAll", "()V"⟩ : MethodName)) ∈ tb := tb_of (tb_6 (List.mem_of_getElem? (i := 72) rfl)) rfl
theorem k_1273 : (Cond.code (⟨"ChipDeskModel", "countAll", "()V"⟩ : MethodName) prog_14_method_48_code 9 (Option.none : Option ClassFile.FieldType)) ∈ tb := tb_of (tb_6 (List.mem_of_getElem? (i := 73) rfl)) rfl
theorem k_1274 : (Cond.constantLong "ChipDeskModel" 333 3) ∈ tb := tb_of (tb_6 (List.mem_of_getElem? (i := 74) rfl)) rfl
theorem k_1275 : (Cond.constantLong "ChipDeskModel" 335 2) ∈ tb := tb_of (tb_6 (List.mem_of_getElem? (i := 75) rfl)) rfl
theorem k_1276 : (Cond.constantLong "ChipDeskModel" 337 1000000) ∈ tb := tb_of (tb_6 (List.mem_of_getElem? (i := 76) rfl)) rfl
theorem k_1277 : (Cond.constantLong "ChipDeskModel" 410 300) ∈ tb := tb_of (tb_6 (List.mem_of_getElem? (i := 77) rfl)) rfl
theorem k_1278 : (Cond.constantLong "ChipDeskModel" 412 8000) ∈ tb := tb_of (tb_6 (List.mem_of_getElem? (i := 78) rfl)) rfl
theorem k_1279 : (Cond.methodLink "ChipDeskModel" 414 (⟨"ChipDeskModel", "build", "()V"⟩ : MethodName)) ∈ tb := tb_of (tb_6 (List.mem_of_getElem? (i := 79) rfl)) rfl
theorem k_1281 : (Cond.instanceMethod (⟨"ChipDeskModel", "build", "()V"⟩ : MethodName)) ∈ tb := tb_of (tb_6 (List.mem_of_getElem? (i := 81) rfl)) rfl
theorem k_1282 : (Cond.code (⟨"ChipDeskModel", "build", "()V"⟩ : MethodName) prog_14_method_56_code 7 (Option.none : Option ClassFile.FieldType)) ∈ tb := tb_of (tb_6 (List.mem_of_getElem? (i := 82) rfl)) rfl
theorem k_1283 : (Cond.methodLink "ChipDeskModel" 366 (⟨"ChipDeskModel", "newPart", "(I)I"⟩ : MethodName)) ∈ tb := tb_of (tb_6 (List.mem_of_getElem? (i := 83) rfl)) rfl
theorem k_1285 : (Cond.instanceMethod (⟨"ChipDeskModel", "newPart", "(I)I"⟩ : MethodName)) ∈ tb := tb_of (tb_6 (List.mem_of_getElem? (i := 85) rfl)) rfl
theorem k_1286 : (Cond.code (⟨"ChipDeskModel", "newPart", "(I)I"⟩ : MethodName) prog_14_method_53_code 3 (Option.some ClassFile.FieldType.int)) ∈ tb := tb_of (tb_6 (List.mem_of_getElem? (i := 86) rfl)) rfl
theorem k_1287 : (Cond.methodLink "ChipDeskModel" 348 (⟨"ChipDeskModel", "ownBits", "(I)I"⟩ : MethodName)) ∈ tb := tb_of (tb_6 (List.mem_of_getElem? (i := 87) rfl)) rfl
theorem k_1289 : (Cond.instanceMethod (⟨"ChipDeskModel", "ownBits", "(I)I"⟩ : MethodName)) ∈ tb := tb_of (tb_6 (List.mem_of_getElem? (i := 89) rfl)) rfl
theorem k_1290 : (Cond.code (⟨"ChipDeskModel", "ownBits", "(I)I"⟩ : MethodName) prog_14_method_52_code 2 (Option.some ClassFile.FieldType.int)) ∈ tb := tb_of (tb_6 (List.mem_of_getElem? (i := 90) rfl)) rfl
theorem k_1291 : (Cond.methodLink "ChipDeskModel" 345 (⟨"ChipDeskModel", "innerPlace", "(II)I"⟩ : MethodName)) ∈ tb := tb_of (tb_6 (List.mem_of_getElem? (i := 91) rfl)) rfl
theorem k_1293 : (Cond.instanceMethod (⟨"ChipDeskModel", "innerPlace", "(II)I"⟩ : MethodName)) ∈ tb := tb_of (tb_6 (List.mem_of_getElem? (i := 93) rfl)) rfl
theorem k_1294 : (Cond.code (⟨"ChipDeskModel", "innerPlace", "(II)I"⟩ : MethodName) prog_14_method_51_code 5 (Option.some ClassFile.FieldType.int)) ∈ tb := tb_of (tb_6 (List.mem_of_getElem? (i := 94) rfl)) rfl
theorem k_1295 : (Cond.methodLink "ChipDeskModel" 342 (⟨"ChipDeskModel", "pinPlace", "(II)I"⟩ : MethodName)) ∈ tb := tb_of (tb_6 (List.mem_of_getElem? (i := 95) rfl)) rfl
theorem k_1297 : (Cond.instanceMethod (⟨"ChipDeskModel", "pinPlace", "(II)I"⟩ : MethodName)) ∈ tb := tb_of (tb_6 (List.mem_of_getElem? (i := 97) rfl)) rfl
theorem k_1298 : (Cond.code (⟨"ChipDeskModel", "pinPlace", "(II)I"⟩ : MethodName) prog_14_method_50_code 5 (Option.some ClassFile.FieldType.int)) ∈ tb := tb_of (tb_6 (List.mem_of_getElem? (i := 98) rfl)) rfl
theorem k_1299 : (Cond.methodLink "ChipDeskModel" 351 (⟨"ChipDeskModel", "newBits", "(I)I"⟩ : MethodName)) ∈ tb := tb_of (tb_6 (List.mem_of_getElem? (i := 99) rfl)) rfl
theorem k_1301 : (Cond.instanceMethod (⟨"ChipDeskModel", "newBits", "(I)I"⟩ : MethodName)) ∈ tb := tb_of (tb_6 (List.mem_of_getElem? (i := 101) rfl)) rfl
theorem k_1302 : (Cond.code (⟨"ChipDeskModel", "newBits", "(I)I"⟩ : MethodName) prog_14_method_49_code 3 (Option.some ClassFile.FieldType.int)) ∈ tb := tb_of (tb_6 (List.mem_of_getElem? (i := 102) rfl)) rfl
theorem k_1303 : (Cond.methodLink "ChipDeskModel" 369 (⟨"ChipDeskModel", "connect", "(IIIII)V"⟩ : MethodName)) ∈ tb := tb_of (tb_6 (List.mem_of_getElem? (i := 103) rfl)) rfl
theorem k_1305 : (Cond.instanceMethod (⟨"ChipDeskModel", "connect", "(IIIII)V"⟩ : MethodName)) ∈ tb := tb_of (tb_6 (List.mem_of_getElem? (i := 105) rfl)) rfl
theorem k_1306 : (Cond.code (⟨"ChipDeskModel", "connect", "(IIIII)V"⟩ : MethodName) prog_14_method_54_code 14 (Option.none : Option ClassFile.FieldType)) ∈ tb := tb_of (tb_6 (List.mem_of_getElem? (i := 106) rfl)) rfl
theorem k_1307 : (Cond.methodLink "ChipDeskModel" 360 (⟨"ChipDeskModel", "isTrue", "(I)I"⟩ : MethodName)) ∈ tb := tb_of (tb_6 (List.mem_of_getElem? (i := 107) rfl)) rfl
theorem k_1309 : (Cond.instanceMethod (⟨"ChipDeskModel", "isTrue", "(I)I"⟩ : MethodName)) ∈ tb := tb_of (tb_6 (List.mem_of_getElem? (i := 109) rfl)) rfl
theorem k_1310 : (Cond.code (⟨"ChipDeskModel", "isTrue", "(I)I"⟩ : MethodName) prog_14_method_55_code 2 (Option.some ClassFile.FieldType.int)) ∈ tb := tb_of (tb_6 (List.mem_of_getElem? (i := 110) rfl)) rfl
theorem k_1311 : (Cond.methodLink "ChipDeskModel" 373 (⟨"ChipDeskModel", "source", "(I)I"⟩ : MethodName)) ∈ tb := tb_of (tb_6 (List.mem_of_getElem? (i := 111) rfl)) rfl
theorem k_1313 : (Cond.instanceMethod (⟨"ChipDeskModel", "source", "(I)I"⟩ : MethodName)) ∈ tb := tb_of (tb_6 (List.mem_of_getElem? (i := 113) rfl)) rfl
theorem k_1314 : (Cond.code (⟨"ChipDeskModel", "source", "(I)I"⟩ : MethodName) prog_14_method_57_code 3 (Option.some ClassFile.FieldType.int)) ∈ tb := tb_of (tb_6 (List.mem_of_getElem? (i := 114) rfl)) rfl
theorem k_1315 : (Cond.methodLink "ChipDeskModel" 417 (⟨"ChipDeskModel", "order", "()Z"⟩ : MethodName)) ∈ tb := tb_of (tb_6 (List.mem_of_getElem? (i := 115) rfl)) rfl
theorem k_1317 : (Cond.instanceMethod (⟨"ChipDeskModel", "order", "()Z"⟩ : MethodName)) ∈ tb := tb_of (tb_6 (List.mem_of_getElem? (i := 117) rfl)) rfl
theorem k_1318 : (Cond.code (⟨"ChipDeskModel", "order", "()Z"⟩ : MethodName) prog_14_method_59_code 6 (Option.some ClassFile.FieldType.boolean)) ∈ tb := tb_of (tb_6 (List.mem_of_getElem? (i := 118) rfl)) rfl
theorem k_1319 : (Cond.methodLink "ChipDeskModel" 379 (⟨"ChipDeskModel", "levelOf", "(I)I"⟩ : MethodName)) ∈ tb := tb_of (tb_6 (List.mem_of_getElem? (i := 119) rfl)) rfl
theorem k_1321 : (Cond.instanceMethod (⟨"ChipDeskModel", "levelOf", "(I)I"⟩ : MethodName)) ∈ tb := tb_of (tb_6 (List.mem_of_getElem? (i := 121) rfl)) rfl
theorem k_1322 : (Cond.code (⟨"ChipDeskModel", "levelOf", "(I)I"⟩ : MethodName) prog_14_method_58_code 2 (Option.some ClassFile.FieldType.int)) ∈ tb := tb_of (tb_6 (List.mem_of_getElem? (i := 122) rfl)) rfl
theorem k_1323 : (Cond.methodLink "ChipDeskModel" 424 (⟨"ChipDeskModel", "settle", "()V"⟩ : MethodName)) ∈ tb := tb_of (tb_6 (List.mem_of_getElem? (i := 123) rfl)) rfl
theorem k_1325 : (Cond.instanceMethod (⟨"ChipDeskModel", "settle", "()V"⟩ : MethodName)) ∈ tb := tb_of (tb_6 (List.mem_of_getElem? (i := 125) rfl)) rfl
theorem k_1326 : (Cond.code (⟨"ChipDeskModel", "settle", "()V"⟩ : MethodName) prog_14_method_61_code 3 (Option.none : Option ClassFile.FieldType)) ∈ tb := tb_of (tb_6 (List.mem_of_getElem? (i := 126) rfl)) rfl
theorem k_1327 : (Cond.methodLink "ChipDeskModel" 382 (⟨"ChipDeskModel", "valueOf", "(I)I"⟩ : MethodName)) ∈ tb := tb_of (tb_6 (List.mem_of_getElem? (i := 127) rfl)) rfl
theorem k_1329 : (Cond.instanceMethod (⟨"ChipDeskModel", "valueOf", "(I)I"⟩ : MethodName)) ∈ tb := tb_of (tb_6 (List.mem_of_getElem? (i := 129) rfl)) rfl
theorem k_1330 : (Cond.code (⟨"ChipDeskModel", "valueOf", "(I)I"⟩ : MethodName) prog_14_method_60_code 2 (Option.some ClassFile.FieldType.int)) ∈ tb := tb_of (tb_6 (List.mem_of_getElem? (i := 130) rfl)) rfl
theorem k_1331 : (Cond.methodLink "ChipDeskLaw" 33 (⟨"ChipDeskModel", "drive", "(II)Z"⟩ : MethodName)) ∈ tb := tb_of (tb_6 (List.mem_of_getElem? (i := 131) rfl)) rfl
theorem k_1332 : (Cond.instanceMethod (⟨"ChipDeskModel", "drive", "(II)Z"⟩ : MethodName)) ∈ tb := tb_of (tb_6 (List.mem_of_getElem? (i := 132) rfl)) rfl
theorem k_1333 : (Cond.selects "ChipDeskModel" (⟨"ChipDeskModel", "drive", "(II)Z"⟩ : MethodName) (⟨"ChipDeskModel", "drive", "(II)Z"⟩ : MethodName)) ∈ tb := tb_of (tb_6 (List.mem_of_getElem? (i := 133) rfl)) rfl
theorem k_1334 : (Cond.code (⟨"ChipDeskModel", "drive", "(II)Z"⟩ : MethodName) prog_14_method_64_code 5 (Option.some ClassFile.FieldType.boolean)) ∈ tb := tb_of (tb_6 (List.mem_of_getElem? (i := 134) rfl)) rfl
theorem k_1335 : (Cond.methodLink "ChipDeskModel" 427 (⟨"ChipDeskModel", "boardPin", "(IZ)I"⟩ : MethodName)) ∈ tb := tb_of (tb_6 (List.mem_of_getElem? (i := 135) rfl)) rfl
theorem k_1337 : (Cond.instanceMethod (⟨"ChipDeskModel", "boardPin", "(IZ)I"⟩ : MethodName)) ∈ tb := tb_of (tb_6 (List.mem_of_getElem? (i := 137) rfl)) rfl
theorem k_1338 : (Cond.code (⟨"ChipDeskModel", "boardPin", "(IZ)I"⟩ : MethodName) prog_14_method_63_code 5 (Option.some ClassFile.FieldType.int)) ∈ tb := tb_of (tb_6 (List.mem_of_getElem? (i := 138) rfl)) rfl
theorem k_1339 : (Cond.methodLink "ChipDeskLaw" 38 (⟨"ChipDeskModel", "pin", "(I)I"⟩ : MethodName)) ∈ tb := tb_of (tb_6 (List.mem_of_getElem? (i := 139) rfl)) rfl
theorem k_1340 : (Cond.instanceMethod (⟨"ChipDeskModel", "pin", "(I)I"⟩ : MethodName)) ∈ tb := tb_of (tb_6 (List.mem_of_getElem? (i := 140) rfl)) rfl
theorem k_1341 : (Cond.selects "ChipDeskModel" (⟨"ChipDeskModel", "pin", "(I)I"⟩ : MethodName) (⟨"ChipDeskModel", "pin", "(I)I"⟩ : MethodName)) ∈ tb := tb_of (tb_6 (List.mem_of_getElem? (i := 141) rfl)) rfl
theorem k_1342 : (Cond.code (⟨"ChipDeskModel", "pin", "(I)I"⟩ : MethodName) prog_14_method_65_code 5 (Option.some ClassFile.FieldType.int)) ∈ tb := tb_of (tb_6 (List.mem_of_getElem? (i := 142) rfl)) rfl
theorem k_1343 : (Cond.methodLink "ChipDeskLaw" 42 (⟨"ChipDeskModel", "tick", "()I"⟩ : MethodName)) ∈ tb := tb_of (tb_6 (List.mem_of_getElem? (i := 143) rfl)) rfl
theorem k_1344 : (Cond.instanceMethod (⟨"ChipDeskModel", "tick", "()I"⟩ : MethodName)) ∈ tb := tb_of (tb_6 (List.mem_of_getElem? (i := 144) rfl)) rfl
theorem k_1345 : (Cond.selects "ChipDeskModel" (⟨"ChipDeskModel", "tick", "()I"⟩ : MethodName) (⟨"ChipDeskModel", "tick", "()I"⟩ : MethodName)) ∈ tb := tb_of (tb_6 (List.mem_of_getElem? (i := 145) rfl)) rfl
theorem k_1346 : (Cond.code (⟨"ChipDeskModel", "tick", "()I"⟩ : MethodName) prog_14_method_66_code 3 (Option.some ClassFile.FieldType.int)) ∈ tb := tb_of (tb_6 (List.mem_of_getElem? (i := 146) rfl)) rfl
theorem k_1347 : (Cond.methodLink "ChipDeskLaw" 46 (⟨"ChipDeskModel", "gates", "(I)I"⟩ : MethodName)) ∈ tb := tb_of (tb_6 (List.mem_of_getElem? (i := 147) rfl)) rfl
theorem k_1348 : (Cond.instanceMethod (⟨"ChipDeskModel", "gates", "(I)I"⟩ : MethodName)) ∈ tb := tb_of (tb_6 (List.mem_of_getElem? (i := 148) rfl)) rfl
theorem k_1349 : (Cond.selects "ChipDeskModel" (⟨"ChipDeskModel", "gates", "(I)I"⟩ : MethodName) (⟨"ChipDeskModel", "gates", "(I)I"⟩ : MethodName)) ∈ tb := tb_of (tb_6 (List.mem_of_getElem? (i := 149) rfl)) rfl
theorem k_1350 : (Cond.code (⟨"ChipDeskModel", "gates", "(I)I"⟩ : MethodName) prog_14_method_68_code 6 (Option.some ClassFile.FieldType.int)) ∈ tb := tb_of (tb_6 (List.mem_of_getElem? (i := 150) rfl)) rfl
theorem k_1351 : (Cond.methodLink "ChipDeskModel" 431 (⟨"ChipDeskModel", "countPins", "(Z)I"⟩ : MethodName)) ∈ tb := tb_of (tb_6 (List.mem_of_getElem? (i := 151) rfl)) rfl
theorem k_1353 : (Cond.instanceMethod (⟨"ChipDeskModel", "countPins", "(Z)I"⟩ : MethodName)) ∈ tb := tb_of (tb_6 (List.mem_of_getElem? (i := 153) rfl)) rfl
theorem k_1354 : (Cond.code (⟨"ChipDeskModel", "countPins", "(Z)I"⟩ : MethodName) prog_14_method_67_code 4 (Option.some ClassFile.FieldType.int)) ∈ tb := tb_of (tb_6 (List.mem_of_getElem? (i := 154) rfl)) rfl
theorem k_1355 : (Cond.constantLong "ChipDeskLaw" 13 4294967295) ∈ tb := tb_of (tb_6 (List.mem_of_getElem? (i := 155) rfl)) rfl
theorem k_1360 : (Cond.sameMethod "[Ljava/lang/Object;" "java/lang/Object" "getClass" "()Ljava/lang/Class;") ∈ tb := tb_of (tb_6 (List.mem_of_getElem? (i := 160) rfl)) rfl
theorem k_1361 : (Cond.selects "[Ljava/lang/Object;" (⟨"java/lang/Object", "getClass", "()Ljava/lang/Class;"⟩ : MethodName) (⟨"java/lang/Object", "getClass", "()Ljava/lang/Class;"⟩ : MethodName)) ∈ tb := tb_of (tb_6 (List.mem_of_getElem? (i := 161) rfl)) rfl
