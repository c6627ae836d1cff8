/-! THE WORDS: each good word of the tables stands in uWS (printed by wip/gen/gen_names.py) -/
theorem tm1 {w : Cond} (h : w ∈ tables_1_1) : w ∈ lw_tbl := List.mem_append_right _ (List.mem_append_left _ h)
theorem tm2 {w : Cond} (h : w ∈ tables_1_2) : w ∈ lw_tbl := List.mem_append_right _ (List.mem_append_right _ (List.mem_append_left _ h))
theorem tm3 {w : Cond} (h : w ∈ tables_1_3) : w ∈ lw_tbl := List.mem_append_right _ (List.mem_append_right _ (List.mem_append_right _ (List.mem_append_left _ h)))
theorem tm4 {w : Cond} (h : w ∈ tables_1_4) : w ∈ lw_tbl := List.mem_append_right _ (List.mem_append_right _ (List.mem_append_right _ (List.mem_append_right _ h)))
theorem t1_0 : Cond.initialized "LightingDeskLaw" ∈ uWS := uWS_mem (tm1 (List.mem_of_getElem? (i := 0) rfl)) rfl
theorem t1_1 : Cond.initialized "LightingDesk" ∈ uWS := uWS_mem (tm1 (List.mem_of_getElem? (i := 1) rfl)) rfl
theorem t1_2 : Cond.initialized "LightingDesk$ValueRow" ∈ uWS := uWS_mem (tm1 (List.mem_of_getElem? (i := 2) rfl)) rfl
theorem t1_3 : Cond.initialized "java/util/Arrays" ∈ uWS := uWS_mem (tm1 (List.mem_of_getElem? (i := 3) rfl)) rfl
theorem t1_4 : Cond.initialized "LightingDesk$PaletteBox" ∈ uWS := uWS_mem (tm1 (List.mem_of_getElem? (i := 4) rfl)) rfl
theorem t1_5 : Cond.initialized "LightingDesk$CueBook" ∈ uWS := uWS_mem (tm1 (List.mem_of_getElem? (i := 5) rfl)) rfl
theorem t1_6 : Cond.initialized "LightingDesk$Cue" ∈ uWS := uWS_mem (tm1 (List.mem_of_getElem? (i := 6) rfl)) rfl
theorem t1_7 : Cond.initialized "LightingDesk$Player" ∈ uWS := uWS_mem (tm1 (List.mem_of_getElem? (i := 7) rfl)) rfl
theorem t1_8 : Cond.initialized "LightingDeskModel" ∈ uWS := uWS_mem (tm1 (List.mem_of_getElem? (i := 8) rfl)) rfl
theorem t1_15 : Cond.initialized "java/lang/Long" ∈ uWS := uWS_mem (tm1 (List.mem_of_getElem? (i := 15) rfl)) rfl
theorem t1_17 : Cond.initialized "java/lang/Math" ∈ uWS := uWS_mem (tm1 (List.mem_of_getElem? (i := 17) rfl)) rfl
theorem t1_18 : Cond.classLink "LightingDeskLaw" 8 "LightingDesk" ∈ uWS := uWS_mem (tm1 (List.mem_of_getElem? (i := 18) rfl)) rfl
theorem t1_19 : Cond.instantiable "LightingDesk" 7 ∈ uWS := uWS_mem (tm1 (List.mem_of_getElem? (i := 19) rfl)) rfl
theorem t1_20 : Cond.methodLink "LightingDeskLaw" 51 ⟨"LightingDesk", "<init>", "()V"⟩ ∈ uWS := uWS_mem (tm1 (List.mem_of_getElem? (i := 20) rfl)) rfl
theorem t1_21 : Cond.instanceMethod ⟨"LightingDesk", "<init>", "()V"⟩ ∈ uWS := uWS_mem (tm1 (List.mem_of_getElem? (i := 21) rfl)) rfl
theorem t1_22 : Cond.code ⟨"LightingDesk", "<init>", "()V"⟩ prog_1_method_1_code 2 (none : Option Jvm.ClassFile.FieldType) ∈ uWS := uWS_mem (tm1 (List.mem_of_getElem? (i := 22) rfl)) rfl
theorem t1_23 : Cond.methodLink "LightingDesk" 3 ⟨"java/lang/Object", "<init>", "()V"⟩ ∈ uWS := uWS_mem (tm1 (List.mem_of_getElem? (i := 23) rfl)) rfl
theorem t1_24 : Cond.instanceMethod ⟨"java/lang/Object", "<init>", "()V"⟩ ∈ uWS := uWS_mem (tm1 (List.mem_of_getElem? (i := 24) rfl)) rfl
theorem t1_25 : Cond.code ⟨"java/lang/Object", "<init>", "()V"⟩ object_method_1_code 1 (none : Option Jvm.ClassFile.FieldType) ∈ uWS := uWS_mem (tm1 (List.mem_of_getElem? (i := 25) rfl)) rfl
theorem t1_26 : Cond.classLink "LightingDesk" 13 "LightingDesk$ValueRow" ∈ uWS := uWS_mem (tm1 (List.mem_of_getElem? (i := 26) rfl)) rfl
theorem t1_27 : Cond.instantiable "LightingDesk$ValueRow" 2 ∈ uWS := uWS_mem (tm1 (List.mem_of_getElem? (i := 27) rfl)) rfl
theorem t1_28 : Cond.methodLink "LightingDesk" 15 ⟨"LightingDesk$ValueRow", "<init>", "()V"⟩ ∈ uWS := uWS_mem (tm1 (List.mem_of_getElem? (i := 28) rfl)) rfl
theorem t1_29 : Cond.instanceMethod ⟨"LightingDesk$ValueRow", "<init>", "()V"⟩ ∈ uWS := uWS_mem (tm1 (List.mem_of_getElem? (i := 29) rfl)) rfl
theorem t1_30 : Cond.code ⟨"LightingDesk$ValueRow", "<init>", "()V"⟩ prog_6_method_1_code 1 (none : Option Jvm.ClassFile.FieldType) ∈ uWS := uWS_mem (tm1 (List.mem_of_getElem? (i := 30) rfl)) rfl
theorem t1_31 : Cond.methodLink "LightingDesk$ValueRow" 3 ⟨"java/lang/Object", "<init>", "()V"⟩ ∈ uWS := uWS_mem (tm1 (List.mem_of_getElem? (i := 31) rfl)) rfl
theorem t1_32 : Cond.methodLink "LightingDesk$ValueRow" 19 ⟨"java/util/Arrays", "fill", "([II)V"⟩ ∈ uWS := uWS_mem (tm1 (List.mem_of_getElem? (i := 32) rfl)) rfl
theorem t1_33 : Cond.static ⟨"java/util/Arrays", "fill", "([II)V"⟩ ∈ uWS := uWS_mem (tm1 (List.mem_of_getElem? (i := 33) rfl)) rfl
theorem t1_34 : Cond.code ⟨"java/util/Arrays", "fill", "([II)V"⟩ prog_18_method_103_code 4 (none : Option Jvm.ClassFile.FieldType) ∈ uWS := uWS_mem (tm1 (List.mem_of_getElem? (i := 34) rfl)) rfl
theorem t1_35 : Cond.fieldLink "LightingDesk$ValueRow" 9 "LightingDesk$ValueRow" "values" "[I" ∈ uWS := uWS_mem (tm1 (List.mem_of_getElem? (i := 35) rfl)) rfl
theorem t1_36 : Cond.fieldLink "LightingDesk$ValueRow" 15 "LightingDesk$ValueRow" "held" "I" ∈ uWS := uWS_mem (tm1 (List.mem_of_getElem? (i := 36) rfl)) rfl
theorem t1_37 : Cond.fieldLinkNest "LightingDesk$CueBook" 26 "LightingDesk$ValueRow" "held" "I" "LightingDesk" ∈ uNW := uNW_mem (tm1 (List.mem_of_getElem? (i := 37) rfl)) rfl
theorem t1_38 : Cond.fieldLinkNest "LightingDesk$Cue" 40 "LightingDesk$ValueRow" "held" "I" "LightingDesk" ∈ uNW := uNW_mem (tm1 (List.mem_of_getElem? (i := 38) rfl)) rfl
theorem t1_39 : Cond.fieldLinkNest "LightingDesk" 62 "LightingDesk$ValueRow" "held" "I" "LightingDesk" ∈ uNW := uNW_mem (tm1 (List.mem_of_getElem? (i := 39) rfl)) rfl
theorem t1_40 : Cond.laysFinal "LightingDesk$ValueRow" "LightingDesk$ValueRow" "values" "[I" ∈ uWS := uWS_mem (tm1 (List.mem_of_getElem? (i := 40) rfl)) rfl
theorem t1_42 : Cond.lays "LightingDesk$ValueRow" "LightingDesk$ValueRow" "held" "I" ∈ uWS := uWS_mem (tm1 (List.mem_of_getElem? (i := 42) rfl)) rfl
theorem t1_44 : Cond.superclass "LightingDesk$ValueRow" "java/lang/Object" ∈ uWS := uWS_mem (tm1 (List.mem_of_getElem? (i := 44) rfl)) rfl
theorem t1_45 : Cond.arrayClass .boolean ∈ uWS := uWS_mem (tm1 (List.mem_of_getElem? (i := 45) rfl)) rfl
theorem t1_46 : Cond.arrayClass .int ∈ uWS := uWS_mem (tm1 (List.mem_of_getElem? (i := 46) rfl)) rfl
theorem t1_47 : Cond.classLink "LightingDesk" 20 "LightingDesk$PaletteBox" ∈ uWS := uWS_mem (tm1 (List.mem_of_getElem? (i := 47) rfl)) rfl
theorem t1_48 : Cond.instantiable "LightingDesk$PaletteBox" 1 ∈ uWS := uWS_mem (tm1 (List.mem_of_getElem? (i := 48) rfl)) rfl
theorem t1_49 : Cond.methodLink "LightingDesk" 22 ⟨"LightingDesk$PaletteBox", "<init>", "()V"⟩ ∈ uWS := uWS_mem (tm1 (List.mem_of_getElem? (i := 49) rfl)) rfl
theorem t1_50 : Cond.instanceMethod ⟨"LightingDesk$PaletteBox", "<init>", "()V"⟩ ∈ uWS := uWS_mem (tm1 (List.mem_of_getElem? (i := 50) rfl)) rfl
theorem t1_51 : Cond.code ⟨"LightingDesk$PaletteBox", "<init>", "()V"⟩ prog_4_method_1_code 1 (none : Option Jvm.ClassFile.FieldType) ∈ uWS := uWS_mem (tm1 (List.mem_of_getElem? (i := 51) rfl)) rfl
theorem t1_52 : Cond.methodLink "LightingDesk$PaletteBox" 3 ⟨"java/lang/Object", "<init>", "()V"⟩ ∈ uWS := uWS_mem (tm1 (List.mem_of_getElem? (i := 52) rfl)) rfl
theorem t1_53 : Cond.methodLink "LightingDesk$PaletteBox" 15 ⟨"java/util/Arrays", "fill", "([II)V"⟩ ∈ uWS := uWS_mem (tm1 (List.mem_of_getElem? (i := 53) rfl)) rfl
theorem t1_54 : Cond.fieldLink "LightingDesk$PaletteBox" 9 "LightingDesk$PaletteBox" "levels" "[I" ∈ uWS := uWS_mem (tm1 (List.mem_of_getElem? (i := 54) rfl)) rfl
theorem t1_55 : Cond.laysFinal "LightingDesk$PaletteBox" "LightingDesk$PaletteBox" "levels" "[I" ∈ uWS := uWS_mem (tm1 (List.mem_of_getElem? (i := 55) rfl)) rfl
theorem t1_57 : Cond.superclass "LightingDesk$PaletteBox" "java/lang/Object" ∈ uWS := uWS_mem (tm1 (List.mem_of_getElem? (i := 57) rfl)) rfl
theorem t1_58 : Cond.classLink "LightingDesk" 27 "LightingDesk$CueBook" ∈ uWS := uWS_mem (tm1 (List.mem_of_getElem? (i := 58) rfl)) rfl
theorem t1_59 : Cond.instantiable "LightingDesk$CueBook" 2 ∈ uWS := uWS_mem (tm1 (List.mem_of_getElem? (i := 59) rfl)) rfl
theorem t1_60 : Cond.methodLink "LightingDesk" 29 ⟨"LightingDesk$CueBook", "<init>", "()V"⟩ ∈ uWS := uWS_mem (tm1 (List.mem_of_getElem? (i := 60) rfl)) rfl
theorem t1_61 : Cond.instanceMethod ⟨"LightingDesk$CueBook", "<init>", "()V"⟩ ∈ uWS := uWS_mem (tm1 (List.mem_of_getElem? (i := 61) rfl)) rfl
theorem t1_62 : Cond.code ⟨"LightingDesk$CueBook", "<init>", "()V"⟩ prog_3_method_1_code 2 (none : Option Jvm.ClassFile.FieldType) ∈ uWS := uWS_mem (tm1 (List.mem_of_getElem? (i := 62) rfl)) rfl
theorem t1_63 : Cond.methodLink "LightingDesk$CueBook" 3 ⟨"java/lang/Object", "<init>", "()V"⟩ ∈ uWS := uWS_mem (tm1 (List.mem_of_getElem? (i := 63) rfl)) rfl
theorem t1_64 : Cond.classLink "LightingDesk$CueBook" 9 "LightingDesk$Cue" ∈ uWS := uWS_mem (tm1 (List.mem_of_getElem? (i := 64) rfl)) rfl
theorem t1_66 : Cond.instantiable "LightingDesk$Cue" 7 ∈ uWS := uWS_mem (tm1 (List.mem_of_getElem? (i := 66) rfl)) rfl
theorem t1_67 : Cond.methodLinkNest "LightingDesk$CueBook" 21 ⟨"LightingDesk$Cue", "<init>", "()V"⟩ "LightingDesk" ∈ uNW := uNW_mem (tm1 (List.mem_of_getElem? (i := 67) rfl)) rfl
theorem t1_68 : Cond.instanceMethod ⟨"LightingDesk$Cue", "<init>", "()V"⟩ ∈ uWS := uWS_mem (tm1 (List.mem_of_getElem? (i := 68) rfl)) rfl
theorem t1_69 : Cond.code ⟨"LightingDesk$Cue", "<init>", "()V"⟩ prog_2_method_1_code 1 (none : Option Jvm.ClassFile.FieldType) ∈ uWS := uWS_mem (tm1 (List.mem_of_getElem? (i := 69) rfl)) rfl
theorem t1_70 : Cond.methodLink "LightingDesk$Cue" 3 ⟨"java/lang/Object", "<init>", "()V"⟩ ∈ uWS := uWS_mem (tm1 (List.mem_of_getElem? (i := 70) rfl)) rfl
theorem t1_71 : Cond.classLink "LightingDesk$Cue" 9 "LightingDesk$ValueRow" ∈ uWS := uWS_mem (tm1 (List.mem_of_getElem? (i := 71) rfl)) rfl
theorem t1_72 : Cond.methodLink "LightingDesk$Cue" 11 ⟨"LightingDesk$ValueRow", "<init>", "()V"⟩ ∈ uWS := uWS_mem (tm1 (List.mem_of_getElem? (i := 72) rfl)) rfl
theorem t1_73 : Cond.fieldLink "LightingDesk$Cue" 12 "LightingDesk$Cue" "moves" "LLightingDesk$ValueRow;" ∈ uWS := uWS_mem (tm1 (List.mem_of_getElem? (i := 73) rfl)) rfl
theorem t1_74 : Cond.fieldLinkNest "LightingDesk$CueBook" 22 "LightingDesk$Cue" "moves" "LLightingDesk$ValueRow;" "LightingDesk" ∈ uNW := uNW_mem (tm1 (List.mem_of_getElem? (i := 74) rfl)) rfl
theorem t1_75 : Cond.fieldLink "LightingDesk$Cue" 18 "LightingDesk$Cue" "list" "I" ∈ uWS := uWS_mem (tm1 (List.mem_of_getElem? (i := 75) rfl)) rfl
theorem t1_76 : Cond.fieldLinkNest "LightingDesk$CueBook" 46 "LightingDesk$Cue" "list" "I" "LightingDesk" ∈ uNW := uNW_mem (tm1 (List.mem_of_getElem? (i := 76) rfl)) rfl
theorem t1_77 : Cond.fieldLink "LightingDesk$Cue" 22 "LightingDesk$Cue" "number" "I" ∈ uWS := uWS_mem (tm1 (List.mem_of_getElem? (i := 77) rfl)) rfl
theorem t1_78 : Cond.fieldLinkNest "LightingDesk$CueBook" 43 "LightingDesk$Cue" "number" "I" "LightingDesk" ∈ uNW := uNW_mem (tm1 (List.mem_of_getElem? (i := 78) rfl)) rfl
theorem t1_79 : Cond.fieldLinkNest "LightingDesk" 157 "LightingDesk$Cue" "number" "I" "LightingDesk" ∈ uNW := uNW_mem (tm1 (List.mem_of_getElem? (i := 79) rfl)) rfl
theorem t1_80 : Cond.fieldLink "LightingDesk$Cue" 25 "LightingDesk$Cue" "up" "I" ∈ uWS := uWS_mem (tm1 (List.mem_of_getElem? (i := 80) rfl)) rfl
theorem t1_81 : Cond.fieldLinkNest "LightingDesk$Player" 58 "LightingDesk$Cue" "up" "I" "LightingDesk" ∈ uNW := uNW_mem (tm1 (List.mem_of_getElem? (i := 81) rfl)) rfl
theorem t1_82 : Cond.fieldLinkNest "LightingDesk" 129 "LightingDesk$Cue" "up" "I" "LightingDesk" ∈ uNW := uNW_mem (tm1 (List.mem_of_getElem? (i := 82) rfl)) rfl
theorem t1_83 : Cond.fieldLink "LightingDesk$Cue" 28 "LightingDesk$Cue" "down" "I" ∈ uWS := uWS_mem (tm1 (List.mem_of_getElem? (i := 83) rfl)) rfl
theorem t1_84 : Cond.fieldLinkNest "LightingDesk$Player" 61 "LightingDesk$Cue" "down" "I" "LightingDesk" ∈ uNW := uNW_mem (tm1 (List.mem_of_getElem? (i := 84) rfl)) rfl
theorem t1_85 : Cond.fieldLinkNest "LightingDesk" 134 "LightingDesk$Cue" "down" "I" "LightingDesk" ∈ uNW := uNW_mem (tm1 (List.mem_of_getElem? (i := 85) rfl)) rfl
theorem t1_86 : Cond.fieldLink "LightingDesk$Cue" 31 "LightingDesk$Cue" "delay" "I" ∈ uWS := uWS_mem (tm1 (List.mem_of_getElem? (i := 86) rfl)) rfl
theorem t1_87 : Cond.fieldLinkNest "LightingDesk$Player" 53 "LightingDesk$Cue" "delay" "I" "LightingDesk" ∈ uNW := uNW_mem (tm1 (List.mem_of_getElem? (i := 87) rfl)) rfl
theorem t1_88 : Cond.fieldLinkNest "LightingDesk" 137 "LightingDesk$Cue" "delay" "I" "LightingDesk" ∈ uNW := uNW_mem (tm1 (List.mem_of_getElem? (i := 88) rfl)) rfl
theorem t1_89 : Cond.fieldLink "LightingDesk$Cue" 34 "LightingDesk$Cue" "follow" "I" ∈ uWS := uWS_mem (tm1 (List.mem_of_getElem? (i := 89) rfl)) rfl
theorem t1_90 : Cond.fieldLinkNest "LightingDesk" 140 "LightingDesk$Cue" "follow" "I" "LightingDesk" ∈ uNW := uNW_mem (tm1 (List.mem_of_getElem? (i := 90) rfl)) rfl
theorem t1_91 : Cond.laysFinal "LightingDesk$Cue" "LightingDesk$Cue" "moves" "LLightingDesk$ValueRow;" ∈ uWS := uWS_mem (tm1 (List.mem_of_getElem? (i := 91) rfl)) rfl
theorem t1_93 : Cond.lays "LightingDesk$Cue" "LightingDesk$Cue" "list" "I" ∈ uWS := uWS_mem (tm1 (List.mem_of_getElem? (i := 93) rfl)) rfl
theorem t1_95 : Cond.lays "LightingDesk$Cue" "LightingDesk$Cue" "number" "I" ∈ uWS := uWS_mem (tm1 (List.mem_of_getElem? (i := 95) rfl)) rfl
theorem t1_97 : Cond.lays "LightingDesk$Cue" "LightingDesk$Cue" "up" "I" ∈ uWS := uWS_mem (tm1 (List.mem_of_getElem? (i := 97) rfl)) rfl
theorem t1_99 : Cond.lays "LightingDesk$Cue" "LightingDesk$Cue" "down" "I" ∈ uWS := uWS_mem (tm1 (List.mem_of_getElem? (i := 99) rfl)) rfl
theorem t1_101 : Cond.lays "LightingDesk$Cue" "LightingDesk$Cue" "delay" "I" ∈ uWS := uWS_mem (tm1 (List.mem_of_getElem? (i := 101) rfl)) rfl
theorem t1_103 : Cond.lays "LightingDesk$Cue" "LightingDesk$Cue" "follow" "I" ∈ uWS := uWS_mem (tm1 (List.mem_of_getElem? (i := 103) rfl)) rfl
theorem t1_105 : Cond.superclass "LightingDesk$Cue" "java/lang/Object" ∈ uWS := uWS_mem (tm1 (List.mem_of_getElem? (i := 105) rfl)) rfl
theorem t1_106 : Cond.fieldLink "LightingDesk$CueBook" 11 "LightingDesk$CueBook" "cues" "[LLightingDesk$Cue;" ∈ uWS := uWS_mem (tm1 (List.mem_of_getElem? (i := 106) rfl)) rfl
theorem t1_107 : Cond.fieldLink "LightingDesk$CueBook" 17 "LightingDesk$CueBook" "size" "I" ∈ uWS := uWS_mem (tm1 (List.mem_of_getElem? (i := 107) rfl)) rfl
theorem t1_108 : Cond.fieldLinkNest "LightingDesk" 232 "LightingDesk$CueBook" "size" "I" "LightingDesk" ∈ uNW := uNW_mem (tm1 (List.mem_of_getElem? (i := 108) rfl)) rfl
theorem t1_109 : Cond.laysFinal "LightingDesk$CueBook" "LightingDesk$CueBook" "cues" "[LLightingDesk$Cue;" ∈ uWS := uWS_mem (tm1 (List.mem_of_getElem? (i := 109) rfl)) rfl
theorem t1_111 : Cond.lays "LightingDesk$CueBook" "LightingDesk$CueBook" "size" "I" ∈ uWS := uWS_mem (tm1 (List.mem_of_getElem? (i := 111) rfl)) rfl
theorem t1_113 : Cond.superclass "LightingDesk$CueBook" "java/lang/Object" ∈ uWS := uWS_mem (tm1 (List.mem_of_getElem? (i := 113) rfl)) rfl
theorem t1_114 : Cond.classLink "LightingDesk" 34 "LightingDesk$Player" ∈ uWS := uWS_mem (tm1 (List.mem_of_getElem? (i := 114) rfl)) rfl
theorem t1_116 : Cond.instantiable "LightingDesk$Player" 10 ∈ uWS := uWS_mem (tm1 (List.mem_of_getElem? (i := 116) rfl)) rfl
theorem t1_117 : Cond.methodLink "LightingDesk" 47 ⟨"LightingDesk$Player", "<init>", "()V"⟩ ∈ uWS := uWS_mem (tm1 (List.mem_of_getElem? (i := 117) rfl)) rfl
theorem t1_118 : Cond.instanceMethod ⟨"LightingDesk$Player", "<init>", "()V"⟩ ∈ uWS := uWS_mem (tm1 (List.mem_of_getElem? (i := 118) rfl)) rfl
theorem t1_119 : Cond.code ⟨"LightingDesk$Player", "<init>", "()V"⟩ prog_5_method_1_code 1 (none : Option Jvm.ClassFile.FieldType) ∈ uWS := uWS_mem (tm1 (List.mem_of_getElem? (i := 119) rfl)) rfl
theorem t1_120 : Cond.methodLink "LightingDesk$Player" 3 ⟨"java/lang/Object", "<init>", "()V"⟩ ∈ uWS := uWS_mem (tm1 (List.mem_of_getElem? (i := 120) rfl)) rfl
theorem t1_121 : Cond.methodLink "LightingDesk$Player" 43 ⟨"java/util/Arrays", "fill", "([II)V"⟩ ∈ uWS := uWS_mem (tm1 (List.mem_of_getElem? (i := 121) rfl)) rfl
theorem t1_122 : Cond.fieldLink "LightingDesk$Player" 9 "LightingDesk$Player" "from" "[I" ∈ uWS := uWS_mem (tm1 (List.mem_of_getElem? (i := 122) rfl)) rfl
theorem t1_123 : Cond.fieldLink "LightingDesk$Player" 15 "LightingDesk$Player" "to" "[I" ∈ uWS := uWS_mem (tm1 (List.mem_of_getElem? (i := 123) rfl)) rfl
theorem t1_124 : Cond.fieldLink "LightingDesk$Player" 18 "LightingDesk$Player" "begin" "[I" ∈ uWS := uWS_mem (tm1 (List.mem_of_getElem? (i := 124) rfl)) rfl
theorem t1_125 : Cond.fieldLink "LightingDesk$Player" 21 "LightingDesk$Player" "length" "[I" ∈ uWS := uWS_mem (tm1 (List.mem_of_getElem? (i := 125) rfl)) rfl
theorem t1_126 : Cond.fieldLink "LightingDesk$Player" 24 "LightingDesk$Player" "lookTicks" "[I" ∈ uWS := uWS_mem (tm1 (List.mem_of_getElem? (i := 126) rfl)) rfl
theorem t1_127 : Cond.fieldLink "LightingDesk$Player" 27 "LightingDesk$Player" "list" "I" ∈ uWS := uWS_mem (tm1 (List.mem_of_getElem? (i := 127) rfl)) rfl
theorem t1_128 : Cond.fieldLinkNest "LightingDesk" 179 "LightingDesk$Player" "list" "I" "LightingDesk" ∈ uNW := uNW_mem (tm1 (List.mem_of_getElem? (i := 128) rfl)) rfl
theorem t1_129 : Cond.fieldLink "LightingDesk$Player" 31 "LightingDesk$Player" "master" "I" ∈ uWS := uWS_mem (tm1 (List.mem_of_getElem? (i := 129) rfl)) rfl
theorem t1_130 : Cond.fieldLinkNest "LightingDesk" 208 "LightingDesk$Player" "master" "I" "LightingDesk" ∈ uNW := uNW_mem (tm1 (List.mem_of_getElem? (i := 130) rfl)) rfl
theorem t1_131 : Cond.fieldLink "LightingDesk$Player" 34 "LightingDesk$Player" "current" "I" ∈ uWS := uWS_mem (tm1 (List.mem_of_getElem? (i := 131) rfl)) rfl
theorem t1_132 : Cond.fieldLinkNest "LightingDesk" 190 "LightingDesk$Player" "current" "I" "LightingDesk" ∈ uNW := uNW_mem (tm1 (List.mem_of_getElem? (i := 132) rfl)) rfl
theorem t1_133 : Cond.fieldLink "LightingDesk$Player" 37 "LightingDesk$Player" "startTick" "I" ∈ uWS := uWS_mem (tm1 (List.mem_of_getElem? (i := 133) rfl)) rfl
theorem t1_134 : Cond.fieldLinkNest "LightingDesk" 176 "LightingDesk$Player" "startTick" "I" "LightingDesk" ∈ uNW := uNW_mem (tm1 (List.mem_of_getElem? (i := 134) rfl)) rfl
theorem t1_135 : Cond.fieldLink "LightingDesk$Player" 40 "LightingDesk$Player" "followOn" "I" ∈ uWS := uWS_mem (tm1 (List.mem_of_getElem? (i := 135) rfl)) rfl
theorem t1_136 : Cond.fieldLinkNest "LightingDesk" 224 "LightingDesk$Player" "followOn" "I" "LightingDesk" ∈ uNW := uNW_mem (tm1 (List.mem_of_getElem? (i := 136) rfl)) rfl
theorem t1_137 : Cond.laysFinal "LightingDesk$Player" "LightingDesk$Player" "from" "[I" ∈ uWS := uWS_mem (tm1 (List.mem_of_getElem? (i := 137) rfl)) rfl
theorem t1_139 : Cond.laysFinal "LightingDesk$Player" "LightingDesk$Player" "to" "[I" ∈ uWS := uWS_mem (tm1 (List.mem_of_getElem? (i := 139) rfl)) rfl
theorem t1_141 : Cond.laysFinal "LightingDesk$Player" "LightingDesk$Player" "begin" "[I" ∈ uWS := uWS_mem (tm1 (List.mem_of_getElem? (i := 141) rfl)) rfl
theorem t1_143 : Cond.laysFinal "LightingDesk$Player" "LightingDesk$Player" "length" "[I" ∈ uWS := uWS_mem (tm1 (List.mem_of_getElem? (i := 143) rfl)) rfl
theorem t1_145 : Cond.laysFinal "LightingDesk$Player" "LightingDesk$Player" "lookTicks" "[I" ∈ uWS := uWS_mem (tm1 (List.mem_of_getElem? (i := 145) rfl)) rfl
theorem t1_147 : Cond.lays "LightingDesk$Player" "LightingDesk$Player" "list" "I" ∈ uWS := uWS_mem (tm1 (List.mem_of_getElem? (i := 147) rfl)) rfl
theorem t1_149 : Cond.lays "LightingDesk$Player" "LightingDesk$Player" "master" "I" ∈ uWS := uWS_mem (tm1 (List.mem_of_getElem? (i := 149) rfl)) rfl
theorem t1_151 : Cond.lays "LightingDesk$Player" "LightingDesk$Player" "current" "I" ∈ uWS := uWS_mem (tm1 (List.mem_of_getElem? (i := 151) rfl)) rfl
theorem t1_153 : Cond.lays "LightingDesk$Player" "LightingDesk$Player" "startTick" "I" ∈ uWS := uWS_mem (tm1 (List.mem_of_getElem? (i := 153) rfl)) rfl
theorem t1_155 : Cond.lays "LightingDesk$Player" "LightingDesk$Player" "followOn" "I" ∈ uWS := uWS_mem (tm1 (List.mem_of_getElem? (i := 155) rfl)) rfl
theorem t1_157 : Cond.superclass "LightingDesk$Player" "java/lang/Object" ∈ uWS := uWS_mem (tm1 (List.mem_of_getElem? (i := 157) rfl)) rfl
theorem t1_158 : Cond.fieldLink "LightingDesk" 9 "LightingDesk" "attributes" "[Z" ∈ uWS := uWS_mem (tm1 (List.mem_of_getElem? (i := 158) rfl)) rfl
theorem t1_159 : Cond.fieldLink "LightingDesk" 16 "LightingDesk" "programmer" "LLightingDesk$ValueRow;" ∈ uWS := uWS_mem (tm1 (List.mem_of_getElem? (i := 159) rfl)) rfl
theorem t1_160 : Cond.fieldLink "LightingDesk" 23 "LightingDesk" "palettes" "LLightingDesk$PaletteBox;" ∈ uWS := uWS_mem (tm1 (List.mem_of_getElem? (i := 160) rfl)) rfl
theorem t1_161 : Cond.fieldLink "LightingDesk" 30 "LightingDesk" "book" "LLightingDesk$CueBook;" ∈ uWS := uWS_mem (tm1 (List.mem_of_getElem? (i := 161) rfl)) rfl
theorem t1_162 : Cond.fieldLink "LightingDesk" 36 "LightingDesk" "players" "[LLightingDesk$Player;" ∈ uWS := uWS_mem (tm1 (List.mem_of_getElem? (i := 162) rfl)) rfl
theorem t1_163 : Cond.fieldLink "LightingDesk" 40 "LightingDesk" "now" "I" ∈ uWS := uWS_mem (tm1 (List.mem_of_getElem? (i := 163) rfl)) rfl
theorem t1_164 : Cond.fieldLink "LightingDesk" 44 "LightingDesk" "started" "I" ∈ uWS := uWS_mem (tm1 (List.mem_of_getElem? (i := 164) rfl)) rfl
theorem t1_165 : Cond.laysFinal "LightingDesk" "LightingDesk" "attributes" "[Z" ∈ uWS := uWS_mem (tm1 (List.mem_of_getElem? (i := 165) rfl)) rfl
theorem t1_167 : Cond.laysFinal "LightingDesk" "LightingDesk" "programmer" "LLightingDesk$ValueRow;" ∈ uWS := uWS_mem (tm1 (List.mem_of_getElem? (i := 167) rfl)) rfl
theorem t1_169 : Cond.laysFinal "LightingDesk" "LightingDesk" "palettes" "LLightingDesk$PaletteBox;" ∈ uWS := uWS_mem (tm1 (List.mem_of_getElem? (i := 169) rfl)) rfl
theorem t1_171 : Cond.laysFinal "LightingDesk" "LightingDesk" "book" "LLightingDesk$CueBook;" ∈ uWS := uWS_mem (tm1 (List.mem_of_getElem? (i := 171) rfl)) rfl
theorem t1_173 : Cond.laysFinal "LightingDesk" "LightingDesk" "players" "[LLightingDesk$Player;" ∈ uWS := uWS_mem (tm1 (List.mem_of_getElem? (i := 173) rfl)) rfl
theorem t1_175 : Cond.lays "LightingDesk" "LightingDesk" "now" "I" ∈ uWS := uWS_mem (tm1 (List.mem_of_getElem? (i := 175) rfl)) rfl
theorem t1_177 : Cond.lays "LightingDesk" "LightingDesk" "started" "I" ∈ uWS := uWS_mem (tm1 (List.mem_of_getElem? (i := 177) rfl)) rfl
theorem t1_179 : Cond.superclass "LightingDesk" "java/lang/Object" ∈ uWS := uWS_mem (tm1 (List.mem_of_getElem? (i := 179) rfl)) rfl
theorem t1_180 : Cond.methodLink "LightingDeskLaw" 55 ⟨"LightingDesk", "kind", "(IZ)Z"⟩ ∈ uWS := uWS_mem (tm1 (List.mem_of_getElem? (i := 180) rfl)) rfl
theorem t1_181 : Cond.instanceMethod ⟨"LightingDesk", "kind", "(IZ)Z"⟩ ∈ uWS := uWS_mem (tm1 (List.mem_of_getElem? (i := 181) rfl)) rfl
theorem t1_182 : Cond.selects "LightingDesk" ⟨"LightingDesk", "kind", "(IZ)Z"⟩ ⟨"LightingDesk", "kind", "(IZ)Z"⟩ ∈ uWS := uWS_mem (tm1 (List.mem_of_getElem? (i := 182) rfl)) rfl
theorem t1_183 : Cond.code ⟨"LightingDesk", "kind", "(IZ)Z"⟩ prog_1_method_2_code 3 (some .boolean) ∈ uWS := uWS_mem (tm1 (List.mem_of_getElem? (i := 183) rfl)) rfl
theorem t1_184 : Cond.methodLink "LightingDesk" 48 ⟨"LightingDesk", "isChannel", "(I)Z"⟩ ∈ uWS := uWS_mem (tm1 (List.mem_of_getElem? (i := 184) rfl)) rfl
theorem t1_185 : Cond.static ⟨"LightingDesk", "isChannel", "(I)Z"⟩ ∈ uWS := uWS_mem (tm1 (List.mem_of_getElem? (i := 185) rfl)) rfl
theorem t1_186 : Cond.code ⟨"LightingDesk", "isChannel", "(I)Z"⟩ prog_1_method_22_code 1 (some .boolean) ∈ uWS := uWS_mem (tm1 (List.mem_of_getElem? (i := 186) rfl)) rfl
theorem t1_187 : Cond.methodLink "LightingDeskLaw" 60 ⟨"LightingDesk", "set", "(II)Z"⟩ ∈ uWS := uWS_mem (tm1 (List.mem_of_getElem? (i := 187) rfl)) rfl
theorem t1_188 : Cond.instanceMethod ⟨"LightingDesk", "set", "(II)Z"⟩ ∈ uWS := uWS_mem (tm1 (List.mem_of_getElem? (i := 188) rfl)) rfl
theorem t1_189 : Cond.selects "LightingDesk" ⟨"LightingDesk", "set", "(II)Z"⟩ ⟨"LightingDesk", "set", "(II)Z"⟩ ∈ uWS := uWS_mem (tm1 (List.mem_of_getElem? (i := 189) rfl)) rfl
theorem t1_190 : Cond.code ⟨"LightingDesk", "set", "(II)Z"⟩ prog_1_method_3_code 3 (some .boolean) ∈ uWS := uWS_mem (tm1 (List.mem_of_getElem? (i := 190) rfl)) rfl
theorem t1_191 : Cond.methodLink "LightingDesk" 52 ⟨"LightingDesk", "isLevel", "(I)Z"⟩ ∈ uWS := uWS_mem (tm1 (List.mem_of_getElem? (i := 191) rfl)) rfl
theorem t1_192 : Cond.static ⟨"LightingDesk", "isLevel", "(I)Z"⟩ ∈ uWS := uWS_mem (tm1 (List.mem_of_getElem? (i := 192) rfl)) rfl
theorem t1_193 : Cond.code ⟨"LightingDesk", "isLevel", "(I)Z"⟩ prog_1_method_23_code 1 (some .boolean) ∈ uWS := uWS_mem (tm1 (List.mem_of_getElem? (i := 193) rfl)) rfl
theorem t1_194 : Cond.methodLink "LightingDesk" 55 ⟨"LightingDesk$ValueRow", "put", "(II)V"⟩ ∈ uWS := uWS_mem (tm1 (List.mem_of_getElem? (i := 194) rfl)) rfl
theorem t1_195 : Cond.instanceMethod ⟨"LightingDesk$ValueRow", "put", "(II)V"⟩ ∈ uWS := uWS_mem (tm1 (List.mem_of_getElem? (i := 195) rfl)) rfl
theorem t1_196 : Cond.selects "LightingDesk$ValueRow" ⟨"LightingDesk$ValueRow", "put", "(II)V"⟩ ⟨"LightingDesk$ValueRow", "put", "(II)V"⟩ ∈ uWS := uWS_mem (tm1 (List.mem_of_getElem? (i := 196) rfl)) rfl
theorem t1_197 : Cond.code ⟨"LightingDesk$ValueRow", "put", "(II)V"⟩ prog_6_method_4_code 3 (none : Option Jvm.ClassFile.FieldType) ∈ uWS := uWS_mem (tm1 (List.mem_of_getElem? (i := 197) rfl)) rfl
theorem t1_198 : Cond.methodLink "LightingDeskLaw" 65 ⟨"LightingDesk", "use", "(II)Z"⟩ ∈ uWS := uWS_mem (tm1 (List.mem_of_getElem? (i := 198) rfl)) rfl
theorem t1_199 : Cond.instanceMethod ⟨"LightingDesk", "use", "(II)Z"⟩ ∈ uWS := uWS_mem (tm1 (List.mem_of_getElem? (i := 199) rfl)) rfl
theorem t1_200 : Cond.selects "LightingDesk" ⟨"LightingDesk", "use", "(II)Z"⟩ ⟨"LightingDesk", "use", "(II)Z"⟩ ∈ uWS := uWS_mem (tm1 (List.mem_of_getElem? (i := 200) rfl)) rfl
theorem t1_201 : Cond.code ⟨"LightingDesk", "use", "(II)Z"⟩ prog_1_method_4_code 3 (some .boolean) ∈ uWS := uWS_mem (tm1 (List.mem_of_getElem? (i := 201) rfl)) rfl
theorem t1_202 : Cond.methodLink "LightingDesk" 59 ⟨"LightingDesk", "isPalette", "(I)Z"⟩ ∈ uWS := uWS_mem (tm1 (List.mem_of_getElem? (i := 202) rfl)) rfl
theorem t1_203 : Cond.static ⟨"LightingDesk", "isPalette", "(I)Z"⟩ ∈ uWS := uWS_mem (tm1 (List.mem_of_getElem? (i := 203) rfl)) rfl
theorem t1_204 : Cond.code ⟨"LightingDesk", "isPalette", "(I)Z"⟩ prog_1_method_24_code 1 (some .boolean) ∈ uWS := uWS_mem (tm1 (List.mem_of_getElem? (i := 204) rfl)) rfl
theorem t1_205 : Cond.methodLink "LightingDeskLaw" 69 ⟨"LightingDesk", "release", "(I)I"⟩ ∈ uWS := uWS_mem (tm1 (List.mem_of_getElem? (i := 205) rfl)) rfl
theorem t1_206 : Cond.instanceMethod ⟨"LightingDesk", "release", "(I)I"⟩ ∈ uWS := uWS_mem (tm1 (List.mem_of_getElem? (i := 206) rfl)) rfl
theorem t1_207 : Cond.selects "LightingDesk" ⟨"LightingDesk", "release", "(I)I"⟩ ⟨"LightingDesk", "release", "(I)I"⟩ ∈ uWS := uWS_mem (tm1 (List.mem_of_getElem? (i := 207) rfl)) rfl
theorem t1_208 : Cond.code ⟨"LightingDesk", "release", "(I)I"⟩ prog_1_method_5_code 3 (some .int) ∈ uWS := uWS_mem (tm1 (List.mem_of_getElem? (i := 208) rfl)) rfl
theorem t1_209 : Cond.methodLink "LightingDesk" 65 ⟨"LightingDesk$ValueRow", "dropAll", "()V"⟩ ∈ uWS := uWS_mem (tm1 (List.mem_of_getElem? (i := 209) rfl)) rfl
theorem t1_210 : Cond.instanceMethod ⟨"LightingDesk$ValueRow", "dropAll", "()V"⟩ ∈ uWS := uWS_mem (tm1 (List.mem_of_getElem? (i := 210) rfl)) rfl
theorem t1_211 : Cond.selects "LightingDesk$ValueRow" ⟨"LightingDesk$ValueRow", "dropAll", "()V"⟩ ⟨"LightingDesk$ValueRow", "dropAll", "()V"⟩ ∈ uWS := uWS_mem (tm1 (List.mem_of_getElem? (i := 211) rfl)) rfl
theorem t1_212 : Cond.code ⟨"LightingDesk$ValueRow", "dropAll", "()V"⟩ prog_6_method_6_code 1 (none : Option Jvm.ClassFile.FieldType) ∈ uWS := uWS_mem (tm1 (List.mem_of_getElem? (i := 212) rfl)) rfl
theorem t1_213 : Cond.methodLink "LightingDesk" 68 ⟨"LightingDesk$ValueRow", "drop", "(I)V"⟩ ∈ uWS := uWS_mem (tm1 (List.mem_of_getElem? (i := 213) rfl)) rfl
theorem t1_214 : Cond.instanceMethod ⟨"LightingDesk$ValueRow", "drop", "(I)V"⟩ ∈ uWS := uWS_mem (tm1 (List.mem_of_getElem? (i := 214) rfl)) rfl
theorem t1_215 : Cond.selects "LightingDesk$ValueRow" ⟨"LightingDesk$ValueRow", "drop", "(I)V"⟩ ⟨"LightingDesk$ValueRow", "drop", "(I)V"⟩ ∈ uWS := uWS_mem (tm1 (List.mem_of_getElem? (i := 215) rfl)) rfl
theorem t1_216 : Cond.code ⟨"LightingDesk$ValueRow", "drop", "(I)V"⟩ prog_6_method_5_code 2 (none : Option Jvm.ClassFile.FieldType) ∈ uWS := uWS_mem (tm1 (List.mem_of_getElem? (i := 216) rfl)) rfl
theorem t1_217 : Cond.methodLink "LightingDeskLaw" 74 ⟨"LightingDesk", "palette", "(III)Z"⟩ ∈ uWS := uWS_mem (tm1 (List.mem_of_getElem? (i := 217) rfl)) rfl
theorem t1_218 : Cond.instanceMethod ⟨"LightingDesk", "palette", "(III)Z"⟩ ∈ uWS := uWS_mem (tm1 (List.mem_of_getElem? (i := 218) rfl)) rfl
theorem t1_219 : Cond.selects "LightingDesk" ⟨"LightingDesk", "palette", "(III)Z"⟩ ⟨"LightingDesk", "palette", "(III)Z"⟩ ∈ uWS := uWS_mem (tm1 (List.mem_of_getElem? (i := 219) rfl)) rfl
theorem t1_220 : Cond.code ⟨"LightingDesk", "palette", "(III)Z"⟩ prog_1_method_6_code 4 (some .boolean) ∈ uWS := uWS_mem (tm1 (List.mem_of_getElem? (i := 220) rfl)) rfl
theorem t1_221 : Cond.methodLink "LightingDesk" 72 ⟨"LightingDesk$PaletteBox", "store", "(III)V"⟩ ∈ uWS := uWS_mem (tm1 (List.mem_of_getElem? (i := 221) rfl)) rfl
theorem t1_222 : Cond.instanceMethod ⟨"LightingDesk$PaletteBox", "store", "(III)V"⟩ ∈ uWS := uWS_mem (tm1 (List.mem_of_getElem? (i := 222) rfl)) rfl
theorem t1_223 : Cond.selects "LightingDesk$PaletteBox" ⟨"LightingDesk$PaletteBox", "store", "(III)V"⟩ ⟨"LightingDesk$PaletteBox", "store", "(III)V"⟩ ∈ uWS := uWS_mem (tm1 (List.mem_of_getElem? (i := 223) rfl)) rfl
theorem t1_224 : Cond.code ⟨"LightingDesk$PaletteBox", "store", "(III)V"⟩ prog_4_method_2_code 4 (none : Option Jvm.ClassFile.FieldType) ∈ uWS := uWS_mem (tm1 (List.mem_of_getElem? (i := 224) rfl)) rfl
theorem t1_225 : Cond.methodLink "LightingDeskLaw" 99 ⟨"LightingDesk", "times", "(IIII)Z"⟩ ∈ uWS := uWS_mem (tm1 (List.mem_of_getElem? (i := 225) rfl)) rfl
theorem t1_226 : Cond.instanceMethod ⟨"LightingDesk", "times", "(IIII)Z"⟩ ∈ uWS := uWS_mem (tm1 (List.mem_of_getElem? (i := 226) rfl)) rfl
theorem t1_227 : Cond.selects "LightingDesk" ⟨"LightingDesk", "times", "(IIII)Z"⟩ ⟨"LightingDesk", "times", "(IIII)Z"⟩ ∈ uWS := uWS_mem (tm1 (List.mem_of_getElem? (i := 227) rfl)) rfl
theorem t1_228 : Cond.code ⟨"LightingDesk", "times", "(IIII)Z"⟩ prog_1_method_11_code 7 (some .boolean) ∈ uWS := uWS_mem (tm1 (List.mem_of_getElem? (i := 228) rfl)) rfl
theorem t1_229 : Cond.methodLink "LightingDesk" 119 ⟨"LightingDesk$CueBook", "find", "(II)I"⟩ ∈ uWS := uWS_mem (tm1 (List.mem_of_getElem? (i := 229) rfl)) rfl
theorem t1_230 : Cond.instanceMethod ⟨"LightingDesk$CueBook", "find", "(II)I"⟩ ∈ uWS := uWS_mem (tm1 (List.mem_of_getElem? (i := 230) rfl)) rfl
theorem t1_231 : Cond.selects "LightingDesk$CueBook" ⟨"LightingDesk$CueBook", "find", "(II)I"⟩ ⟨"LightingDesk$CueBook", "find", "(II)I"⟩ ∈ uWS := uWS_mem (tm1 (List.mem_of_getElem? (i := 231) rfl)) rfl
theorem t1_232 : Cond.code ⟨"LightingDesk$CueBook", "find", "(II)I"⟩ prog_3_method_6_code 4 (some .int) ∈ uWS := uWS_mem (tm1 (List.mem_of_getElem? (i := 232) rfl)) rfl
theorem t1_233 : Cond.methodLink "LightingDesk$CueBook" 31 ⟨"LightingDesk$CueBook", "placeFor", "(II)I"⟩ ∈ uWS := uWS_mem (tm1 (List.mem_of_getElem? (i := 233) rfl)) rfl
theorem t1_235 : Cond.instanceMethod ⟨"LightingDesk$CueBook", "placeFor", "(II)I"⟩ ∈ uWS := uWS_mem (tm1 (List.mem_of_getElem? (i := 235) rfl)) rfl
theorem t1_236 : Cond.code ⟨"LightingDesk$CueBook", "placeFor", "(II)I"⟩ prog_3_method_20_code 4 (some .int) ∈ uWS := uWS_mem (tm1 (List.mem_of_getElem? (i := 236) rfl)) rfl
theorem t1_237 : Cond.methodLink "LightingDesk$CueBook" 110 ⟨"LightingDesk$Cue", "isBefore", "(II)Z"⟩ ∈ uWS := uWS_mem (tm1 (List.mem_of_getElem? (i := 237) rfl)) rfl
theorem t1_238 : Cond.instanceMethod ⟨"LightingDesk$Cue", "isBefore", "(II)Z"⟩ ∈ uWS := uWS_mem (tm1 (List.mem_of_getElem? (i := 238) rfl)) rfl
theorem t1_239 : Cond.selects "LightingDesk$Cue" ⟨"LightingDesk$Cue", "isBefore", "(II)Z"⟩ ⟨"LightingDesk$Cue", "isBefore", "(II)Z"⟩ ∈ uWS := uWS_mem (tm1 (List.mem_of_getElem? (i := 239) rfl)) rfl
theorem t2_0 : Cond.code ⟨"LightingDesk$Cue", "isBefore", "(II)Z"⟩ prog_2_method_3_code 3 (some .boolean) ∈ uWS := uWS_mem (tm2 (List.mem_of_getElem? (i := 0) rfl)) rfl
theorem t2_1 : Cond.methodLink "LightingDesk$CueBook" 39 ⟨"LightingDesk$CueBook", "isIn", "(II)Z"⟩ ∈ uWS := uWS_mem (tm2 (List.mem_of_getElem? (i := 1) rfl)) rfl
theorem t2_3 : Cond.instanceMethod ⟨"LightingDesk$CueBook", "isIn", "(II)Z"⟩ ∈ uWS := uWS_mem (tm2 (List.mem_of_getElem? (i := 3) rfl)) rfl
theorem t2_4 : Cond.code ⟨"LightingDesk$CueBook", "isIn", "(II)Z"⟩ prog_3_method_19_code 3 (some .boolean) ∈ uWS := uWS_mem (tm2 (List.mem_of_getElem? (i := 4) rfl)) rfl
theorem t2_5 : Cond.methodLink "LightingDesk" 122 ⟨"LightingDesk", "isTime", "(I)Z"⟩ ∈ uWS := uWS_mem (tm2 (List.mem_of_getElem? (i := 5) rfl)) rfl
theorem t2_6 : Cond.static ⟨"LightingDesk", "isTime", "(I)Z"⟩ ∈ uWS := uWS_mem (tm2 (List.mem_of_getElem? (i := 6) rfl)) rfl
theorem t2_7 : Cond.code ⟨"LightingDesk", "isTime", "(I)Z"⟩ prog_1_method_28_code 1 (some .boolean) ∈ uWS := uWS_mem (tm2 (List.mem_of_getElem? (i := 7) rfl)) rfl
theorem t2_8 : Cond.methodLink "LightingDesk" 125 ⟨"LightingDesk$CueBook", "at", "(I)LLightingDesk$Cue;"⟩ ∈ uWS := uWS_mem (tm2 (List.mem_of_getElem? (i := 8) rfl)) rfl
theorem t2_9 : Cond.instanceMethod ⟨"LightingDesk$CueBook", "at", "(I)LLightingDesk$Cue;"⟩ ∈ uWS := uWS_mem (tm2 (List.mem_of_getElem? (i := 9) rfl)) rfl
theorem t2_10 : Cond.selects "LightingDesk$CueBook" ⟨"LightingDesk$CueBook", "at", "(I)LLightingDesk$Cue;"⟩ ⟨"LightingDesk$CueBook", "at", "(I)LLightingDesk$Cue;"⟩ ∈ uWS := uWS_mem (tm2 (List.mem_of_getElem? (i := 10) rfl)) rfl
theorem t2_11 : Cond.code ⟨"LightingDesk$CueBook", "at", "(I)LLightingDesk$Cue;"⟩ prog_3_method_2_code 2 (some (.object "LightingDesk$Cue")) ∈ uWS := uWS_mem (tm2 (List.mem_of_getElem? (i := 11) rfl)) rfl
theorem t2_12 : Cond.methodLink "LightingDeskLaw" 104 ⟨"LightingDesk", "delays", "(IIII)Z"⟩ ∈ uWS := uWS_mem (tm2 (List.mem_of_getElem? (i := 12) rfl)) rfl
theorem t2_13 : Cond.instanceMethod ⟨"LightingDesk", "delays", "(IIII)Z"⟩ ∈ uWS := uWS_mem (tm2 (List.mem_of_getElem? (i := 13) rfl)) rfl
theorem t2_14 : Cond.selects "LightingDesk" ⟨"LightingDesk", "delays", "(IIII)Z"⟩ ⟨"LightingDesk", "delays", "(IIII)Z"⟩ ∈ uWS := uWS_mem (tm2 (List.mem_of_getElem? (i := 14) rfl)) rfl
theorem t2_15 : Cond.code ⟨"LightingDesk", "delays", "(IIII)Z"⟩ prog_1_method_12_code 7 (some .boolean) ∈ uWS := uWS_mem (tm2 (List.mem_of_getElem? (i := 15) rfl)) rfl
theorem t2_16 : Cond.methodLink "LightingDeskLaw" 118 ⟨"LightingDesk", "assign", "(II)Z"⟩ ∈ uWS := uWS_mem (tm2 (List.mem_of_getElem? (i := 16) rfl)) rfl
theorem t2_17 : Cond.instanceMethod ⟨"LightingDesk", "assign", "(II)Z"⟩ ∈ uWS := uWS_mem (tm2 (List.mem_of_getElem? (i := 17) rfl)) rfl
theorem t2_18 : Cond.selects "LightingDesk" ⟨"LightingDesk", "assign", "(II)Z"⟩ ⟨"LightingDesk", "assign", "(II)Z"⟩ ∈ uWS := uWS_mem (tm2 (List.mem_of_getElem? (i := 18) rfl)) rfl
theorem t2_19 : Cond.code ⟨"LightingDesk", "assign", "(II)Z"⟩ prog_1_method_16_code 4 (some .boolean) ∈ uWS := uWS_mem (tm2 (List.mem_of_getElem? (i := 19) rfl)) rfl
theorem t2_20 : Cond.methodLink "LightingDesk" 173 ⟨"LightingDesk", "isPlayback", "(I)Z"⟩ ∈ uWS := uWS_mem (tm2 (List.mem_of_getElem? (i := 20) rfl)) rfl
theorem t2_21 : Cond.static ⟨"LightingDesk", "isPlayback", "(I)Z"⟩ ∈ uWS := uWS_mem (tm2 (List.mem_of_getElem? (i := 21) rfl)) rfl
theorem t2_22 : Cond.code ⟨"LightingDesk", "isPlayback", "(I)Z"⟩ prog_1_method_27_code 1 (some .boolean) ∈ uWS := uWS_mem (tm2 (List.mem_of_getElem? (i := 22) rfl)) rfl
theorem t2_23 : Cond.methodLink "LightingDesk" 76 ⟨"LightingDesk", "isList", "(I)Z"⟩ ∈ uWS := uWS_mem (tm2 (List.mem_of_getElem? (i := 23) rfl)) rfl
theorem t2_24 : Cond.static ⟨"LightingDesk", "isList", "(I)Z"⟩ ∈ uWS := uWS_mem (tm2 (List.mem_of_getElem? (i := 24) rfl)) rfl
theorem t2_25 : Cond.code ⟨"LightingDesk", "isList", "(I)Z"⟩ prog_1_method_25_code 1 (some .boolean) ∈ uWS := uWS_mem (tm2 (List.mem_of_getElem? (i := 25) rfl)) rfl
theorem t2_26 : Cond.methodLink "LightingDeskLaw" 126 ⟨"LightingDesk", "master", "(II)Z"⟩ ∈ uWS := uWS_mem (tm2 (List.mem_of_getElem? (i := 26) rfl)) rfl
theorem t2_27 : Cond.instanceMethod ⟨"LightingDesk", "master", "(II)Z"⟩ ∈ uWS := uWS_mem (tm2 (List.mem_of_getElem? (i := 27) rfl)) rfl
theorem t2_28 : Cond.selects "LightingDesk" ⟨"LightingDesk", "master", "(II)Z"⟩ ⟨"LightingDesk", "master", "(II)Z"⟩ ∈ uWS := uWS_mem (tm2 (List.mem_of_getElem? (i := 28) rfl)) rfl
theorem t2_29 : Cond.code ⟨"LightingDesk", "master", "(II)Z"⟩ prog_1_method_18_code 3 (some .boolean) ∈ uWS := uWS_mem (tm2 (List.mem_of_getElem? (i := 29) rfl)) rfl
theorem t2_30 : Cond.methodLink "LightingDeskLaw" 136 ⟨"LightingDesk", "count", "(I)I"⟩ ∈ uWS := uWS_mem (tm2 (List.mem_of_getElem? (i := 30) rfl)) rfl
theorem t2_31 : Cond.instanceMethod ⟨"LightingDesk", "count", "(I)I"⟩ ∈ uWS := uWS_mem (tm2 (List.mem_of_getElem? (i := 31) rfl)) rfl
theorem t2_32 : Cond.selects "LightingDesk" ⟨"LightingDesk", "count", "(I)I"⟩ ⟨"LightingDesk", "count", "(I)I"⟩ ∈ uWS := uWS_mem (tm2 (List.mem_of_getElem? (i := 32) rfl)) rfl
theorem t2_33 : Cond.code ⟨"LightingDesk", "count", "(I)I"⟩ prog_1_method_21_code 2 (some .int) ∈ uWS := uWS_mem (tm2 (List.mem_of_getElem? (i := 33) rfl)) rfl
theorem t2_34 : Cond.methodLink "LightingDesk" 235 ⟨"LightingDesk$CueBook", "moveCount", "()I"⟩ ∈ uWS := uWS_mem (tm2 (List.mem_of_getElem? (i := 34) rfl)) rfl
theorem t2_35 : Cond.instanceMethod ⟨"LightingDesk$CueBook", "moveCount", "()I"⟩ ∈ uWS := uWS_mem (tm2 (List.mem_of_getElem? (i := 35) rfl)) rfl
theorem t2_36 : Cond.selects "LightingDesk$CueBook" ⟨"LightingDesk$CueBook", "moveCount", "()I"⟩ ⟨"LightingDesk$CueBook", "moveCount", "()I"⟩ ∈ uWS := uWS_mem (tm2 (List.mem_of_getElem? (i := 36) rfl)) rfl
theorem t2_37 : Cond.code ⟨"LightingDesk$CueBook", "moveCount", "()I"⟩ prog_3_method_3_code 3 (some .int) ∈ uWS := uWS_mem (tm2 (List.mem_of_getElem? (i := 37) rfl)) rfl
theorem t2_38 : Cond.methodLink "LightingDeskLaw" 79 ⟨"LightingDeskLaw", "record", "(LLightingDesk;IIZ[J)I"⟩ ∈ uWS := uWS_mem (tm2 (List.mem_of_getElem? (i := 38) rfl)) rfl
theorem t2_39 : Cond.static ⟨"LightingDeskLaw", "record", "(LLightingDesk;IIZ[J)I"⟩ ∈ uWS := uWS_mem (tm2 (List.mem_of_getElem? (i := 39) rfl)) rfl
theorem t2_40 : Cond.codeWith ⟨"LightingDeskLaw", "record", "(LLightingDesk;IIZ[J)I"⟩ method_3_code 6 (some .int) [(0, 12, 15, 13), (0, 12, 19, 15)] ∈ uWS := uWS_mem (tm2 (List.mem_of_getElem? (i := 40) rfl)) rfl
theorem t2_43 : Cond.methodLink "LightingDeskLaw" 7 ⟨"LightingDesk", "record", "(IIZ)I"⟩ ∈ uWS := uWS_mem (tm2 (List.mem_of_getElem? (i := 43) rfl)) rfl
theorem t2_44 : Cond.instanceMethod ⟨"LightingDesk", "record", "(IIZ)I"⟩ ∈ uWS := uWS_mem (tm2 (List.mem_of_getElem? (i := 44) rfl)) rfl
theorem t2_45 : Cond.selects "LightingDesk" ⟨"LightingDesk", "record", "(IIZ)I"⟩ ⟨"LightingDesk", "record", "(IIZ)I"⟩ ∈ uWS := uWS_mem (tm2 (List.mem_of_getElem? (i := 45) rfl)) rfl
theorem t2_46 : Cond.code ⟨"LightingDesk", "record", "(IIZ)I"⟩ prog_1_method_7_code 5 (some .int) ∈ uWS := uWS_mem (tm2 (List.mem_of_getElem? (i := 46) rfl)) rfl
theorem t2_47 : Cond.methodLink "LightingDesk" 79 ⟨"LightingDesk", "isNumber", "(I)Z"⟩ ∈ uWS := uWS_mem (tm2 (List.mem_of_getElem? (i := 47) rfl)) rfl
theorem t2_48 : Cond.static ⟨"LightingDesk", "isNumber", "(I)Z"⟩ ∈ uWS := uWS_mem (tm2 (List.mem_of_getElem? (i := 48) rfl)) rfl
theorem t2_49 : Cond.code ⟨"LightingDesk", "isNumber", "(I)Z"⟩ prog_1_method_26_code 1 (some .boolean) ∈ uWS := uWS_mem (tm2 (List.mem_of_getElem? (i := 49) rfl)) rfl
theorem t2_118 : Cond.arrayClass .byte ∈ uWS := uWS_mem (tm2 (List.mem_of_getElem? (i := 118) rfl)) rfl
theorem t2_119 : Cond.methodLink "LightingDesk" 89 ⟨"LightingDesk$CueBook", "recordCue", "(LLightingDesk$ValueRow;IIZ)I"⟩ ∈ uWS := uWS_mem (tm2 (List.mem_of_getElem? (i := 119) rfl)) rfl
theorem t2_120 : Cond.instanceMethod ⟨"LightingDesk$CueBook", "recordCue", "(LLightingDesk$ValueRow;IIZ)I"⟩ ∈ uWS := uWS_mem (tm2 (List.mem_of_getElem? (i := 120) rfl)) rfl
theorem t2_121 : Cond.selects "LightingDesk$CueBook" ⟨"LightingDesk$CueBook", "recordCue", "(LLightingDesk$ValueRow;IIZ)I"⟩ ⟨"LightingDesk$CueBook", "recordCue", "(LLightingDesk$ValueRow;IIZ)I"⟩ ∈ uWS := uWS_mem (tm2 (List.mem_of_getElem? (i := 121) rfl)) rfl
theorem t2_122 : Cond.code ⟨"LightingDesk$CueBook", "recordCue", "(LLightingDesk$ValueRow;IIZ)I"⟩ prog_3_method_11_code 9 (some .int) ∈ uWS := uWS_mem (tm2 (List.mem_of_getElem? (i := 122) rfl)) rfl
theorem t2_123 : Cond.methodLink "LightingDesk$CueBook" 59 ⟨"LightingDesk$CueBook", "find", "(II)I"⟩ ∈ uWS := uWS_mem (tm2 (List.mem_of_getElem? (i := 123) rfl)) rfl
theorem t2_124 : Cond.methodLink "LightingDesk$CueBook" 62 ⟨"LightingDesk$CueBook", "placeAbove", "(II)I"⟩ ∈ uWS := uWS_mem (tm2 (List.mem_of_getElem? (i := 124) rfl)) rfl
theorem t2_125 : Cond.instanceMethod ⟨"LightingDesk$CueBook", "placeAbove", "(II)I"⟩ ∈ uWS := uWS_mem (tm2 (List.mem_of_getElem? (i := 125) rfl)) rfl
theorem t2_126 : Cond.selects "LightingDesk$CueBook" ⟨"LightingDesk$CueBook", "placeAbove", "(II)I"⟩ ⟨"LightingDesk$CueBook", "placeAbove", "(II)I"⟩ ∈ uWS := uWS_mem (tm2 (List.mem_of_getElem? (i := 126) rfl)) rfl
theorem t2_127 : Cond.code ⟨"LightingDesk$CueBook", "placeAbove", "(II)I"⟩ prog_3_method_7_code 4 (some .int) ∈ uWS := uWS_mem (tm2 (List.mem_of_getElem? (i := 127) rfl)) rfl
theorem t2_128 : Cond.methodLink "LightingDesk$CueBook" 65 ⟨"LightingDesk$ValueRow", "lackedOf", "(LLightingDesk$ValueRow;)I"⟩ ∈ uWS := uWS_mem (tm2 (List.mem_of_getElem? (i := 128) rfl)) rfl
theorem t2_129 : Cond.instanceMethod ⟨"LightingDesk$ValueRow", "lackedOf", "(LLightingDesk$ValueRow;)I"⟩ ∈ uWS := uWS_mem (tm2 (List.mem_of_getElem? (i := 129) rfl)) rfl
theorem t2_130 : Cond.selects "LightingDesk$ValueRow" ⟨"LightingDesk$ValueRow", "lackedOf", "(LLightingDesk$ValueRow;)I"⟩ ⟨"LightingDesk$ValueRow", "lackedOf", "(LLightingDesk$ValueRow;)I"⟩ ∈ uWS := uWS_mem (tm2 (List.mem_of_getElem? (i := 130) rfl)) rfl
theorem t2_131 : Cond.code ⟨"LightingDesk$ValueRow", "lackedOf", "(LLightingDesk$ValueRow;)I"⟩ prog_6_method_7_code 4 (some .int) ∈ uWS := uWS_mem (tm2 (List.mem_of_getElem? (i := 131) rfl)) rfl
theorem t2_132 : Cond.methodLink "LightingDesk$ValueRow" 25 ⟨"LightingDesk$ValueRow", "has", "(I)Z"⟩ ∈ uWS := uWS_mem (tm2 (List.mem_of_getElem? (i := 132) rfl)) rfl
theorem t2_133 : Cond.instanceMethod ⟨"LightingDesk$ValueRow", "has", "(I)Z"⟩ ∈ uWS := uWS_mem (tm2 (List.mem_of_getElem? (i := 133) rfl)) rfl
theorem t2_134 : Cond.selects "LightingDesk$ValueRow" ⟨"LightingDesk$ValueRow", "has", "(I)Z"⟩ ⟨"LightingDesk$ValueRow", "has", "(I)Z"⟩ ∈ uWS := uWS_mem (tm2 (List.mem_of_getElem? (i := 134) rfl)) rfl
theorem t2_135 : Cond.code ⟨"LightingDesk$ValueRow", "has", "(I)Z"⟩ prog_6_method_2_code 2 (some .boolean) ∈ uWS := uWS_mem (tm2 (List.mem_of_getElem? (i := 135) rfl)) rfl
theorem t2_136 : Cond.methodLink "LightingDesk$CueBook" 69 ⟨"LightingDesk$CueBook", "moveCount", "()I"⟩ ∈ uWS := uWS_mem (tm2 (List.mem_of_getElem? (i := 136) rfl)) rfl
theorem t2_137 : Cond.methodLink "LightingDesk$CueBook" 73 ⟨"LightingDesk$CueBook", "insert", "(III)V"⟩ ∈ uWS := uWS_mem (tm2 (List.mem_of_getElem? (i := 137) rfl)) rfl
theorem t2_139 : Cond.instanceMethod ⟨"LightingDesk$CueBook", "insert", "(III)V"⟩ ∈ uWS := uWS_mem (tm2 (List.mem_of_getElem? (i := 139) rfl)) rfl
theorem t2_140 : Cond.code ⟨"LightingDesk$CueBook", "insert", "(III)V"⟩ prog_3_method_21_code 6 (none : Option Jvm.ClassFile.FieldType) ∈ uWS := uWS_mem (tm2 (List.mem_of_getElem? (i := 140) rfl)) rfl
theorem t2_141 : Cond.methodLink "LightingDesk$CueBook" 113 ⟨"LightingDesk$Cue", "beginAs", "(II)V"⟩ ∈ uWS := uWS_mem (tm2 (List.mem_of_getElem? (i := 141) rfl)) rfl
theorem t2_142 : Cond.instanceMethod ⟨"LightingDesk$Cue", "beginAs", "(II)V"⟩ ∈ uWS := uWS_mem (tm2 (List.mem_of_getElem? (i := 142) rfl)) rfl
theorem t2_143 : Cond.selects "LightingDesk$Cue" ⟨"LightingDesk$Cue", "beginAs", "(II)V"⟩ ⟨"LightingDesk$Cue", "beginAs", "(II)V"⟩ ∈ uWS := uWS_mem (tm2 (List.mem_of_getElem? (i := 143) rfl)) rfl
theorem t2_144 : Cond.code ⟨"LightingDesk$Cue", "beginAs", "(II)V"⟩ prog_2_method_2_code 3 (none : Option Jvm.ClassFile.FieldType) ∈ uWS := uWS_mem (tm2 (List.mem_of_getElem? (i := 144) rfl)) rfl
theorem t2_145 : Cond.methodLink "LightingDesk$Cue" 37 ⟨"LightingDesk$ValueRow", "dropAll", "()V"⟩ ∈ uWS := uWS_mem (tm2 (List.mem_of_getElem? (i := 145) rfl)) rfl
theorem t2_146 : Cond.methodLink "LightingDesk$CueBook" 77 ⟨"LightingDesk$CueBook", "keepChannels", "(ILLightingDesk$ValueRow;)V"⟩ ∈ uWS := uWS_mem (tm2 (List.mem_of_getElem? (i := 146) rfl)) rfl
theorem t2_148 : Cond.instanceMethod ⟨"LightingDesk$CueBook", "keepChannels", "(ILLightingDesk$ValueRow;)V"⟩ ∈ uWS := uWS_mem (tm2 (List.mem_of_getElem? (i := 148) rfl)) rfl
theorem t2_149 : Cond.code ⟨"LightingDesk$CueBook", "keepChannels", "(ILLightingDesk$ValueRow;)V"⟩ prog_3_method_16_code 5 (none : Option Jvm.ClassFile.FieldType) ∈ uWS := uWS_mem (tm2 (List.mem_of_getElem? (i := 149) rfl)) rfl
theorem t2_150 : Cond.methodLink "LightingDesk$CueBook" 49 ⟨"LightingDesk$ValueRow", "has", "(I)Z"⟩ ∈ uWS := uWS_mem (tm2 (List.mem_of_getElem? (i := 150) rfl)) rfl
theorem t2_151 : Cond.methodLink "LightingDesk$CueBook" 98 ⟨"LightingDesk$CueBook", "trackedAt", "(II)I"⟩ ∈ uWS := uWS_mem (tm2 (List.mem_of_getElem? (i := 151) rfl)) rfl
theorem t2_152 : Cond.instanceMethod ⟨"LightingDesk$CueBook", "trackedAt", "(II)I"⟩ ∈ uWS := uWS_mem (tm2 (List.mem_of_getElem? (i := 152) rfl)) rfl
theorem t2_153 : Cond.selects "LightingDesk$CueBook" ⟨"LightingDesk$CueBook", "trackedAt", "(II)I"⟩ ⟨"LightingDesk$CueBook", "trackedAt", "(II)I"⟩ ∈ uWS := uWS_mem (tm2 (List.mem_of_getElem? (i := 153) rfl)) rfl
theorem t2_154 : Cond.code ⟨"LightingDesk$CueBook", "trackedAt", "(II)I"⟩ prog_3_method_10_code 4 (some .int) ∈ uWS := uWS_mem (tm2 (List.mem_of_getElem? (i := 154) rfl)) rfl
theorem t2_155 : Cond.methodLink "LightingDesk$CueBook" 53 ⟨"LightingDesk$CueBook", "sourceOf", "(II)I"⟩ ∈ uWS := uWS_mem (tm2 (List.mem_of_getElem? (i := 155) rfl)) rfl
theorem t2_156 : Cond.instanceMethod ⟨"LightingDesk$CueBook", "sourceOf", "(II)I"⟩ ∈ uWS := uWS_mem (tm2 (List.mem_of_getElem? (i := 156) rfl)) rfl
theorem t2_157 : Cond.selects "LightingDesk$CueBook" ⟨"LightingDesk$CueBook", "sourceOf", "(II)I"⟩ ⟨"LightingDesk$CueBook", "sourceOf", "(II)I"⟩ ∈ uWS := uWS_mem (tm2 (List.mem_of_getElem? (i := 157) rfl)) rfl
theorem t2_158 : Cond.code ⟨"LightingDesk$CueBook", "sourceOf", "(II)I"⟩ prog_3_method_9_code 5 (some .int) ∈ uWS := uWS_mem (tm2 (List.mem_of_getElem? (i := 158) rfl)) rfl
theorem t2_159 : Cond.methodLink "LightingDesk$CueBook" 56 ⟨"LightingDesk$ValueRow", "valueAt", "(I)I"⟩ ∈ uWS := uWS_mem (tm2 (List.mem_of_getElem? (i := 159) rfl)) rfl
theorem t2_160 : Cond.instanceMethod ⟨"LightingDesk$ValueRow", "valueAt", "(I)I"⟩ ∈ uWS := uWS_mem (tm2 (List.mem_of_getElem? (i := 160) rfl)) rfl
theorem t2_161 : Cond.selects "LightingDesk$ValueRow" ⟨"LightingDesk$ValueRow", "valueAt", "(I)I"⟩ ⟨"LightingDesk$ValueRow", "valueAt", "(I)I"⟩ ∈ uWS := uWS_mem (tm2 (List.mem_of_getElem? (i := 161) rfl)) rfl
theorem t2_162 : Cond.code ⟨"LightingDesk$ValueRow", "valueAt", "(I)I"⟩ prog_6_method_3_code 2 (some .int) ∈ uWS := uWS_mem (tm2 (List.mem_of_getElem? (i := 162) rfl)) rfl
theorem t2_163 : Cond.methodLink "LightingDesk$CueBook" 104 ⟨"LightingDesk$CueBook", "orUnset", "(I)I"⟩ ∈ uWS := uWS_mem (tm2 (List.mem_of_getElem? (i := 163) rfl)) rfl
theorem t2_164 : Cond.static ⟨"LightingDesk$CueBook", "orUnset", "(I)I"⟩ ∈ uWS := uWS_mem (tm2 (List.mem_of_getElem? (i := 164) rfl)) rfl
theorem t2_165 : Cond.code ⟨"LightingDesk$CueBook", "orUnset", "(I)I"⟩ prog_3_method_18_code 1 (some .int) ∈ uWS := uWS_mem (tm2 (List.mem_of_getElem? (i := 165) rfl)) rfl
theorem t2_166 : Cond.methodLink "LightingDesk$CueBook" 84 ⟨"LightingDesk$ValueRow", "put", "(II)V"⟩ ∈ uWS := uWS_mem (tm2 (List.mem_of_getElem? (i := 166) rfl)) rfl
theorem t2_167 : Cond.methodLink "LightingDesk$CueBook" 81 ⟨"LightingDesk$CueBook", "putAll", "(ILLightingDesk$ValueRow;)V"⟩ ∈ uWS := uWS_mem (tm2 (List.mem_of_getElem? (i := 167) rfl)) rfl
theorem t2_169 : Cond.instanceMethod ⟨"LightingDesk$CueBook", "putAll", "(ILLightingDesk$ValueRow;)V"⟩ ∈ uWS := uWS_mem (tm2 (List.mem_of_getElem? (i := 169) rfl)) rfl
theorem t2_170 : Cond.code ⟨"LightingDesk$CueBook", "putAll", "(ILLightingDesk$ValueRow;)V"⟩ prog_3_method_17_code 4 (none : Option Jvm.ClassFile.FieldType) ∈ uWS := uWS_mem (tm2 (List.mem_of_getElem? (i := 170) rfl)) rfl
theorem t2_187 : Cond.methodLink "LightingDeskLaw" 89 ⟨"LightingDeskLaw", "update", "(LLightingDesk;II[J)I"⟩ ∈ uWS := uWS_mem (tm2 (List.mem_of_getElem? (i := 187) rfl)) rfl
theorem t2_188 : Cond.static ⟨"LightingDeskLaw", "update", "(LLightingDesk;II[J)I"⟩ ∈ uWS := uWS_mem (tm2 (List.mem_of_getElem? (i := 188) rfl)) rfl
theorem t2_189 : Cond.codeWith ⟨"LightingDeskLaw", "update", "(LLightingDesk;II[J)I"⟩ method_4_code 5 (some .int) [(0, 10, 13, 21), (0, 10, 17, 15)] ∈ uWS := uWS_mem (tm2 (List.mem_of_getElem? (i := 189) rfl)) rfl
theorem t2_191 : Cond.methodLink "LightingDeskLaw" 17 ⟨"LightingDesk", "update", "(II)I"⟩ ∈ uWS := uWS_mem (tm2 (List.mem_of_getElem? (i := 191) rfl)) rfl
theorem t2_192 : Cond.instanceMethod ⟨"LightingDesk", "update", "(II)I"⟩ ∈ uWS := uWS_mem (tm2 (List.mem_of_getElem? (i := 192) rfl)) rfl
theorem t2_193 : Cond.selects "LightingDesk" ⟨"LightingDesk", "update", "(II)I"⟩ ⟨"LightingDesk", "update", "(II)I"⟩ ∈ uWS := uWS_mem (tm2 (List.mem_of_getElem? (i := 193) rfl)) rfl
theorem t2_194 : Cond.code ⟨"LightingDesk", "update", "(II)I"⟩ prog_1_method_8_code 5 (some .int) ∈ uWS := uWS_mem (tm2 (List.mem_of_getElem? (i := 194) rfl)) rfl
theorem t2_195 : Cond.methodLink "LightingDesk" 98 ⟨"LightingDesk", "placeOrThrow", "(II)I"⟩ ∈ uWS := uWS_mem (tm2 (List.mem_of_getElem? (i := 195) rfl)) rfl
theorem t2_197 : Cond.instanceMethod ⟨"LightingDesk", "placeOrThrow", "(II)I"⟩ ∈ uWS := uWS_mem (tm2 (List.mem_of_getElem? (i := 197) rfl)) rfl
theorem t2_198 : Cond.code ⟨"LightingDesk", "placeOrThrow", "(II)I"⟩ prog_1_method_29_code 4 (some .int) ∈ uWS := uWS_mem (tm2 (List.mem_of_getElem? (i := 198) rfl)) rfl
theorem t2_215 : Cond.methodLink "LightingDesk" 102 ⟨"LightingDesk$CueBook", "updateSources", "(LLightingDesk$ValueRow;I)I"⟩ ∈ uWS := uWS_mem (tm2 (List.mem_of_getElem? (i := 215) rfl)) rfl
theorem t2_216 : Cond.instanceMethod ⟨"LightingDesk$CueBook", "updateSources", "(LLightingDesk$ValueRow;I)I"⟩ ∈ uWS := uWS_mem (tm2 (List.mem_of_getElem? (i := 216) rfl)) rfl
theorem t2_217 : Cond.selects "LightingDesk$CueBook" ⟨"LightingDesk$CueBook", "updateSources", "(LLightingDesk$ValueRow;I)I"⟩ ⟨"LightingDesk$CueBook", "updateSources", "(LLightingDesk$ValueRow;I)I"⟩ ∈ uWS := uWS_mem (tm2 (List.mem_of_getElem? (i := 217) rfl)) rfl
theorem t2_218 : Cond.code ⟨"LightingDesk$CueBook", "updateSources", "(LLightingDesk$ValueRow;I)I"⟩ prog_3_method_12_code 9 (some .int) ∈ uWS := uWS_mem (tm2 (List.mem_of_getElem? (i := 218) rfl)) rfl
theorem t2_219 : Cond.methodLink "LightingDesk$CueBook" 88 ⟨"java/lang/Long", "bitCount", "(J)I"⟩ ∈ uWS := uWS_mem (tm2 (List.mem_of_getElem? (i := 219) rfl)) rfl
theorem t2_220 : Cond.static ⟨"java/lang/Long", "bitCount", "(J)I"⟩ ∈ uWS := uWS_mem (tm2 (List.mem_of_getElem? (i := 220) rfl)) rfl
theorem t2_221 : Cond.code ⟨"java/lang/Long", "bitCount", "(J)I"⟩ prog_13_method_50_code 2 (some .int) ∈ uWS := uWS_mem (tm2 (List.mem_of_getElem? (i := 221) rfl)) rfl
theorem t2_222 : Cond.constantLong "java/lang/Long" 314 6148914691236517205 ∈ uWS := uWS_mem (tm2 (List.mem_of_getElem? (i := 222) rfl)) rfl
theorem t2_223 : Cond.constantLong "java/lang/Long" 316 3689348814741910323 ∈ uWS := uWS_mem (tm2 (List.mem_of_getElem? (i := 223) rfl)) rfl
theorem t2_224 : Cond.constantLong "java/lang/Long" 318 1085102592571150095 ∈ uWS := uWS_mem (tm2 (List.mem_of_getElem? (i := 224) rfl)) rfl
theorem t2_226 : Cond.methodLink "LightingDeskLaw" 93 ⟨"LightingDeskLaw", "delete", "(LLightingDesk;IIZ[J)I"⟩ ∈ uWS := uWS_mem (tm2 (List.mem_of_getElem? (i := 226) rfl)) rfl
theorem t2_227 : Cond.static ⟨"LightingDeskLaw", "delete", "(LLightingDesk;IIZ[J)I"⟩ ∈ uWS := uWS_mem (tm2 (List.mem_of_getElem? (i := 227) rfl)) rfl
theorem t2_228 : Cond.codeWith ⟨"LightingDeskLaw", "delete", "(LLightingDesk;IIZ[J)I"⟩ method_5_code 6 (some .int) [(0, 12, 15, 21), (0, 12, 19, 15)] ∈ uWS := uWS_mem (tm2 (List.mem_of_getElem? (i := 228) rfl)) rfl
theorem t2_229 : Cond.methodLink "LightingDeskLaw" 23 ⟨"LightingDesk", "delete", "(IIZ)I"⟩ ∈ uWS := uWS_mem (tm2 (List.mem_of_getElem? (i := 229) rfl)) rfl
theorem t2_230 : Cond.instanceMethod ⟨"LightingDesk", "delete", "(IIZ)I"⟩ ∈ uWS := uWS_mem (tm2 (List.mem_of_getElem? (i := 230) rfl)) rfl
theorem t2_231 : Cond.selects "LightingDesk" ⟨"LightingDesk", "delete", "(IIZ)I"⟩ ⟨"LightingDesk", "delete", "(IIZ)I"⟩ ∈ uWS := uWS_mem (tm2 (List.mem_of_getElem? (i := 231) rfl)) rfl
theorem t2_232 : Cond.code ⟨"LightingDesk", "delete", "(IIZ)I"⟩ prog_1_method_9_code 5 (some .int) ∈ uWS := uWS_mem (tm2 (List.mem_of_getElem? (i := 232) rfl)) rfl
theorem t2_233 : Cond.methodLink "LightingDesk" 108 ⟨"LightingDesk$CueBook", "deleteCue", "(IZ)I"⟩ ∈ uWS := uWS_mem (tm2 (List.mem_of_getElem? (i := 233) rfl)) rfl
theorem t2_234 : Cond.instanceMethod ⟨"LightingDesk$CueBook", "deleteCue", "(IZ)I"⟩ ∈ uWS := uWS_mem (tm2 (List.mem_of_getElem? (i := 234) rfl)) rfl
theorem t2_235 : Cond.selects "LightingDesk$CueBook" ⟨"LightingDesk$CueBook", "deleteCue", "(IZ)I"⟩ ⟨"LightingDesk$CueBook", "deleteCue", "(IZ)I"⟩ ∈ uWS := uWS_mem (tm2 (List.mem_of_getElem? (i := 235) rfl)) rfl
theorem t2_236 : Cond.code ⟨"LightingDesk$CueBook", "deleteCue", "(IZ)I"⟩ prog_3_method_13_code 5 (some .int) ∈ uWS := uWS_mem (tm2 (List.mem_of_getElem? (i := 236) rfl)) rfl
theorem t2_237 : Cond.methodLink "LightingDesk$CueBook" 94 ⟨"LightingDesk$CueBook", "takeOut", "(I)V"⟩ ∈ uWS := uWS_mem (tm2 (List.mem_of_getElem? (i := 237) rfl)) rfl
theorem t2_239 : Cond.instanceMethod ⟨"LightingDesk$CueBook", "takeOut", "(I)V"⟩ ∈ uWS := uWS_mem (tm2 (List.mem_of_getElem? (i := 239) rfl)) rfl
theorem t3_0 : Cond.code ⟨"LightingDesk$CueBook", "takeOut", "(I)V"⟩ prog_3_method_22_code 4 (none : Option Jvm.ClassFile.FieldType) ∈ uWS := uWS_mem (tm3 (List.mem_of_getElem? (i := 0) rfl)) rfl
theorem t3_1 : Cond.methodLink "LightingDeskLaw" 96 ⟨"LightingDeskLaw", "block", "(LLightingDesk;IIZ[J)I"⟩ ∈ uWS := uWS_mem (tm3 (List.mem_of_getElem? (i := 1) rfl)) rfl
theorem t3_2 : Cond.static ⟨"LightingDeskLaw", "block", "(LLightingDesk;IIZ[J)I"⟩ ∈ uWS := uWS_mem (tm3 (List.mem_of_getElem? (i := 2) rfl)) rfl
theorem t3_3 : Cond.codeWith ⟨"LightingDeskLaw", "block", "(LLightingDesk;IIZ[J)I"⟩ method_6_code 6 (some .int) [(0, 12, 15, 21), (0, 12, 19, 15)] ∈ uWS := uWS_mem (tm3 (List.mem_of_getElem? (i := 3) rfl)) rfl
theorem t3_4 : Cond.methodLink "LightingDeskLaw" 26 ⟨"LightingDesk", "block", "(IIZ)I"⟩ ∈ uWS := uWS_mem (tm3 (List.mem_of_getElem? (i := 4) rfl)) rfl
theorem t3_5 : Cond.instanceMethod ⟨"LightingDesk", "block", "(IIZ)I"⟩ ∈ uWS := uWS_mem (tm3 (List.mem_of_getElem? (i := 5) rfl)) rfl
theorem t3_6 : Cond.selects "LightingDesk" ⟨"LightingDesk", "block", "(IIZ)I"⟩ ⟨"LightingDesk", "block", "(IIZ)I"⟩ ∈ uWS := uWS_mem (tm3 (List.mem_of_getElem? (i := 6) rfl)) rfl
theorem t3_7 : Cond.code ⟨"LightingDesk", "block", "(IIZ)I"⟩ prog_1_method_10_code 6 (some .int) ∈ uWS := uWS_mem (tm3 (List.mem_of_getElem? (i := 7) rfl)) rfl
theorem t3_8 : Cond.methodLink "LightingDesk" 112 ⟨"LightingDesk$CueBook", "blockCue", "(I)I"⟩ ∈ uWS := uWS_mem (tm3 (List.mem_of_getElem? (i := 8) rfl)) rfl
theorem t3_9 : Cond.instanceMethod ⟨"LightingDesk$CueBook", "blockCue", "(I)I"⟩ ∈ uWS := uWS_mem (tm3 (List.mem_of_getElem? (i := 9) rfl)) rfl
theorem t3_10 : Cond.selects "LightingDesk$CueBook" ⟨"LightingDesk$CueBook", "blockCue", "(I)I"⟩ ⟨"LightingDesk$CueBook", "blockCue", "(I)I"⟩ ∈ uWS := uWS_mem (tm3 (List.mem_of_getElem? (i := 10) rfl)) rfl
theorem t3_11 : Cond.code ⟨"LightingDesk$CueBook", "blockCue", "(I)I"⟩ prog_3_method_14_code 6 (some .int) ∈ uWS := uWS_mem (tm3 (List.mem_of_getElem? (i := 11) rfl)) rfl
theorem t3_12 : Cond.methodLink "LightingDesk" 116 ⟨"LightingDesk$CueBook", "unblockCue", "(I)I"⟩ ∈ uWS := uWS_mem (tm3 (List.mem_of_getElem? (i := 12) rfl)) rfl
theorem t3_13 : Cond.instanceMethod ⟨"LightingDesk$CueBook", "unblockCue", "(I)I"⟩ ∈ uWS := uWS_mem (tm3 (List.mem_of_getElem? (i := 13) rfl)) rfl
theorem t3_14 : Cond.selects "LightingDesk$CueBook" ⟨"LightingDesk$CueBook", "unblockCue", "(I)I"⟩ ⟨"LightingDesk$CueBook", "unblockCue", "(I)I"⟩ ∈ uWS := uWS_mem (tm3 (List.mem_of_getElem? (i := 14) rfl)) rfl
theorem t3_15 : Cond.code ⟨"LightingDesk$CueBook", "unblockCue", "(I)I"⟩ prog_3_method_15_code 5 (some .int) ∈ uWS := uWS_mem (tm3 (List.mem_of_getElem? (i := 15) rfl)) rfl
theorem t3_16 : Cond.methodLink "LightingDesk$CueBook" 101 ⟨"LightingDesk$CueBook", "placeBelow", "(II)I"⟩ ∈ uWS := uWS_mem (tm3 (List.mem_of_getElem? (i := 16) rfl)) rfl
theorem t3_17 : Cond.instanceMethod ⟨"LightingDesk$CueBook", "placeBelow", "(II)I"⟩ ∈ uWS := uWS_mem (tm3 (List.mem_of_getElem? (i := 17) rfl)) rfl
theorem t3_18 : Cond.selects "LightingDesk$CueBook" ⟨"LightingDesk$CueBook", "placeBelow", "(II)I"⟩ ⟨"LightingDesk$CueBook", "placeBelow", "(II)I"⟩ ∈ uWS := uWS_mem (tm3 (List.mem_of_getElem? (i := 18) rfl)) rfl
theorem t3_19 : Cond.code ⟨"LightingDesk$CueBook", "placeBelow", "(II)I"⟩ prog_3_method_8_code 4 (some .int) ∈ uWS := uWS_mem (tm3 (List.mem_of_getElem? (i := 19) rfl)) rfl
theorem t3_20 : Cond.methodLink "LightingDesk$CueBook" 107 ⟨"LightingDesk$ValueRow", "drop", "(I)V"⟩ ∈ uWS := uWS_mem (tm3 (List.mem_of_getElem? (i := 20) rfl)) rfl
theorem t3_21 : Cond.methodLink "LightingDeskLaw" 108 ⟨"LightingDeskLaw", "look", "(LLightingDesk;III[J)I"⟩ ∈ uWS := uWS_mem (tm3 (List.mem_of_getElem? (i := 21) rfl)) rfl
theorem t3_22 : Cond.static ⟨"LightingDeskLaw", "look", "(LLightingDesk;III[J)I"⟩ ∈ uWS := uWS_mem (tm3 (List.mem_of_getElem? (i := 22) rfl)) rfl
theorem t3_23 : Cond.codeWith ⟨"LightingDeskLaw", "look", "(LLightingDesk;III[J)I"⟩ method_7_code 6 (some .int) [(0, 12, 15, 21), (0, 12, 19, 33)] ∈ uWS := uWS_mem (tm3 (List.mem_of_getElem? (i := 23) rfl)) rfl
theorem t3_25 : Cond.methodLink "LightingDeskLaw" 29 ⟨"LightingDesk", "look", "(III)I"⟩ ∈ uWS := uWS_mem (tm3 (List.mem_of_getElem? (i := 25) rfl)) rfl
theorem t3_26 : Cond.instanceMethod ⟨"LightingDesk", "look", "(III)I"⟩ ∈ uWS := uWS_mem (tm3 (List.mem_of_getElem? (i := 26) rfl)) rfl
theorem t3_27 : Cond.selects "LightingDesk" ⟨"LightingDesk", "look", "(III)I"⟩ ⟨"LightingDesk", "look", "(III)I"⟩ ∈ uWS := uWS_mem (tm3 (List.mem_of_getElem? (i := 27) rfl)) rfl
theorem t3_28 : Cond.code ⟨"LightingDesk", "look", "(III)I"⟩ prog_1_method_13_code 5 (some .int) ∈ uWS := uWS_mem (tm3 (List.mem_of_getElem? (i := 28) rfl)) rfl
theorem t3_45 : Cond.methodLink "LightingDesk" 148 ⟨"LightingDesk$CueBook", "trackedAt", "(II)I"⟩ ∈ uWS := uWS_mem (tm3 (List.mem_of_getElem? (i := 45) rfl)) rfl
theorem t3_46 : Cond.methodLink "LightingDesk" 151 ⟨"LightingDesk$PaletteBox", "levelOf", "(II)I"⟩ ∈ uWS := uWS_mem (tm3 (List.mem_of_getElem? (i := 46) rfl)) rfl
theorem t3_47 : Cond.instanceMethod ⟨"LightingDesk$PaletteBox", "levelOf", "(II)I"⟩ ∈ uWS := uWS_mem (tm3 (List.mem_of_getElem? (i := 47) rfl)) rfl
theorem t3_48 : Cond.selects "LightingDesk$PaletteBox" ⟨"LightingDesk$PaletteBox", "levelOf", "(II)I"⟩ ⟨"LightingDesk$PaletteBox", "levelOf", "(II)I"⟩ ∈ uWS := uWS_mem (tm3 (List.mem_of_getElem? (i := 48) rfl)) rfl
theorem t3_49 : Cond.code ⟨"LightingDesk$PaletteBox", "levelOf", "(II)I"⟩ prog_4_method_3_code 3 (some .int) ∈ uWS := uWS_mem (tm3 (List.mem_of_getElem? (i := 49) rfl)) rfl
theorem t3_50 : Cond.methodLink "LightingDeskLaw" 112 ⟨"LightingDeskLaw", "source", "(LLightingDesk;III[J)I"⟩ ∈ uWS := uWS_mem (tm3 (List.mem_of_getElem? (i := 50) rfl)) rfl
theorem t3_51 : Cond.static ⟨"LightingDeskLaw", "source", "(LLightingDesk;III[J)I"⟩ ∈ uWS := uWS_mem (tm3 (List.mem_of_getElem? (i := 51) rfl)) rfl
theorem t3_52 : Cond.codeWith ⟨"LightingDeskLaw", "source", "(LLightingDesk;III[J)I"⟩ method_8_code 6 (some .int) [(0, 12, 15, 21), (0, 12, 19, 33)] ∈ uWS := uWS_mem (tm3 (List.mem_of_getElem? (i := 52) rfl)) rfl
theorem t3_53 : Cond.methodLink "LightingDeskLaw" 35 ⟨"LightingDesk", "source", "(III)I"⟩ ∈ uWS := uWS_mem (tm3 (List.mem_of_getElem? (i := 53) rfl)) rfl
theorem t3_54 : Cond.instanceMethod ⟨"LightingDesk", "source", "(III)I"⟩ ∈ uWS := uWS_mem (tm3 (List.mem_of_getElem? (i := 54) rfl)) rfl
theorem t3_55 : Cond.selects "LightingDesk" ⟨"LightingDesk", "source", "(III)I"⟩ ⟨"LightingDesk", "source", "(III)I"⟩ ∈ uWS := uWS_mem (tm3 (List.mem_of_getElem? (i := 55) rfl)) rfl
theorem t3_56 : Cond.code ⟨"LightingDesk", "source", "(III)I"⟩ prog_1_method_14_code 6 (some .int) ∈ uWS := uWS_mem (tm3 (List.mem_of_getElem? (i := 56) rfl)) rfl
theorem t3_57 : Cond.methodLink "LightingDesk" 154 ⟨"LightingDesk$CueBook", "sourceOf", "(II)I"⟩ ∈ uWS := uWS_mem (tm3 (List.mem_of_getElem? (i := 57) rfl)) rfl
theorem t3_58 : Cond.methodLink "LightingDeskLaw" 115 ⟨"LightingDeskLaw", "cue", "(LLightingDesk;III[J)I"⟩ ∈ uWS := uWS_mem (tm3 (List.mem_of_getElem? (i := 58) rfl)) rfl
theorem t3_59 : Cond.static ⟨"LightingDeskLaw", "cue", "(LLightingDesk;III[J)I"⟩ ∈ uWS := uWS_mem (tm3 (List.mem_of_getElem? (i := 59) rfl)) rfl
theorem t3_60 : Cond.codeWith ⟨"LightingDeskLaw", "cue", "(LLightingDesk;III[J)I"⟩ method_9_code 6 (some .int) [(0, 12, 15, 33)] ∈ uWS := uWS_mem (tm3 (List.mem_of_getElem? (i := 60) rfl)) rfl
theorem t3_61 : Cond.methodLink "LightingDeskLaw" 38 ⟨"LightingDesk", "cue", "(III)I"⟩ ∈ uWS := uWS_mem (tm3 (List.mem_of_getElem? (i := 61) rfl)) rfl
theorem t3_62 : Cond.instanceMethod ⟨"LightingDesk", "cue", "(III)I"⟩ ∈ uWS := uWS_mem (tm3 (List.mem_of_getElem? (i := 62) rfl)) rfl
theorem t3_63 : Cond.selects "LightingDesk" ⟨"LightingDesk", "cue", "(III)I"⟩ ⟨"LightingDesk", "cue", "(III)I"⟩ ∈ uWS := uWS_mem (tm3 (List.mem_of_getElem? (i := 63) rfl)) rfl
theorem t3_64 : Cond.code ⟨"LightingDesk", "cue", "(III)I"⟩ prog_1_method_15_code 5 (some .int) ∈ uWS := uWS_mem (tm3 (List.mem_of_getElem? (i := 64) rfl)) rfl
theorem t3_66 : Cond.methodLink "LightingDesk" 162 ⟨"LightingDesk$CueBook", "lengthOf", "(I)I"⟩ ∈ uWS := uWS_mem (tm3 (List.mem_of_getElem? (i := 66) rfl)) rfl
theorem t3_67 : Cond.instanceMethod ⟨"LightingDesk$CueBook", "lengthOf", "(I)I"⟩ ∈ uWS := uWS_mem (tm3 (List.mem_of_getElem? (i := 67) rfl)) rfl
theorem t3_68 : Cond.selects "LightingDesk$CueBook" ⟨"LightingDesk$CueBook", "lengthOf", "(I)I"⟩ ⟨"LightingDesk$CueBook", "lengthOf", "(I)I"⟩ ∈ uWS := uWS_mem (tm3 (List.mem_of_getElem? (i := 68) rfl)) rfl
theorem t3_69 : Cond.code ⟨"LightingDesk$CueBook", "lengthOf", "(I)I"⟩ prog_3_method_5_code 2 (some .int) ∈ uWS := uWS_mem (tm3 (List.mem_of_getElem? (i := 69) rfl)) rfl
theorem t3_70 : Cond.methodLink "LightingDesk$CueBook" 35 ⟨"LightingDesk$CueBook", "firstOf", "(I)I"⟩ ∈ uWS := uWS_mem (tm3 (List.mem_of_getElem? (i := 70) rfl)) rfl
theorem t3_71 : Cond.instanceMethod ⟨"LightingDesk$CueBook", "firstOf", "(I)I"⟩ ∈ uWS := uWS_mem (tm3 (List.mem_of_getElem? (i := 71) rfl)) rfl
theorem t3_72 : Cond.selects "LightingDesk$CueBook" ⟨"LightingDesk$CueBook", "firstOf", "(I)I"⟩ ⟨"LightingDesk$CueBook", "firstOf", "(I)I"⟩ ∈ uWS := uWS_mem (tm3 (List.mem_of_getElem? (i := 72) rfl)) rfl
theorem t3_73 : Cond.code ⟨"LightingDesk$CueBook", "firstOf", "(I)I"⟩ prog_3_method_4_code 2 (some .int) ∈ uWS := uWS_mem (tm3 (List.mem_of_getElem? (i := 73) rfl)) rfl
theorem t3_75 : Cond.methodLink "LightingDesk" 167 ⟨"LightingDesk$CueBook", "firstOf", "(I)I"⟩ ∈ uWS := uWS_mem (tm3 (List.mem_of_getElem? (i := 75) rfl)) rfl
theorem t3_76 : Cond.methodLink "LightingDesk" 170 ⟨"LightingDesk$Cue", "detail", "(I)I"⟩ ∈ uWS := uWS_mem (tm3 (List.mem_of_getElem? (i := 76) rfl)) rfl
theorem t3_77 : Cond.instanceMethod ⟨"LightingDesk$Cue", "detail", "(I)I"⟩ ∈ uWS := uWS_mem (tm3 (List.mem_of_getElem? (i := 77) rfl)) rfl
theorem t3_78 : Cond.selects "LightingDesk$Cue" ⟨"LightingDesk$Cue", "detail", "(I)I"⟩ ⟨"LightingDesk$Cue", "detail", "(I)I"⟩ ∈ uWS := uWS_mem (tm3 (List.mem_of_getElem? (i := 78) rfl)) rfl
theorem t3_79 : Cond.code ⟨"LightingDesk$Cue", "detail", "(I)I"⟩ prog_2_method_4_code 2 (some .int) ∈ uWS := uWS_mem (tm3 (List.mem_of_getElem? (i := 79) rfl)) rfl
theorem t3_80 : Cond.methodLink "LightingDeskLaw" 122 ⟨"LightingDeskLaw", "go", "(LLightingDesk;IZI[J)I"⟩ ∈ uWS := uWS_mem (tm3 (List.mem_of_getElem? (i := 80) rfl)) rfl
theorem t3_81 : Cond.static ⟨"LightingDeskLaw", "go", "(LLightingDesk;IZI[J)I"⟩ ∈ uWS := uWS_mem (tm3 (List.mem_of_getElem? (i := 81) rfl)) rfl
theorem t3_82 : Cond.codeWith ⟨"LightingDeskLaw", "go", "(LLightingDesk;IZI[J)I"⟩ method_10_code 6 (some .int) [(0, 12, 15, 13), (0, 12, 19, 21)] ∈ uWS := uWS_mem (tm3 (List.mem_of_getElem? (i := 82) rfl)) rfl
theorem t3_83 : Cond.methodLink "LightingDeskLaw" 41 ⟨"LightingDesk", "go", "(IZI)I"⟩ ∈ uWS := uWS_mem (tm3 (List.mem_of_getElem? (i := 83) rfl)) rfl
theorem t3_84 : Cond.instanceMethod ⟨"LightingDesk", "go", "(IZI)I"⟩ ∈ uWS := uWS_mem (tm3 (List.mem_of_getElem? (i := 84) rfl)) rfl
theorem t3_85 : Cond.selects "LightingDesk" ⟨"LightingDesk", "go", "(IZI)I"⟩ ⟨"LightingDesk", "go", "(IZI)I"⟩ ∈ uWS := uWS_mem (tm3 (List.mem_of_getElem? (i := 85) rfl)) rfl
theorem t3_86 : Cond.code ⟨"LightingDesk", "go", "(IZI)I"⟩ prog_1_method_17_code 6 (some .int) ∈ uWS := uWS_mem (tm3 (List.mem_of_getElem? (i := 86) rfl)) rfl
theorem t3_87 : Cond.methodLink "LightingDesk" 182 ⟨"LightingDesk", "isTellable", "(I)Z"⟩ ∈ uWS := uWS_mem (tm3 (List.mem_of_getElem? (i := 87) rfl)) rfl
theorem t3_89 : Cond.instanceMethod ⟨"LightingDesk", "isTellable", "(I)Z"⟩ ∈ uWS := uWS_mem (tm3 (List.mem_of_getElem? (i := 89) rfl)) rfl
theorem t3_90 : Cond.code ⟨"LightingDesk", "isTellable", "(I)Z"⟩ prog_1_method_30_code 2 (some .boolean) ∈ uWS := uWS_mem (tm3 (List.mem_of_getElem? (i := 90) rfl)) rfl
theorem t3_91 : Cond.constant "LightingDesk" 241 1000000000 ∈ uWS := uWS_mem (tm3 (List.mem_of_getElem? (i := 91) rfl)) rfl
theorem t3_93 : Cond.methodLink "LightingDesk" 187 ⟨"LightingDesk", "tell", "(I)V"⟩ ∈ uWS := uWS_mem (tm3 (List.mem_of_getElem? (i := 93) rfl)) rfl
theorem t3_95 : Cond.instanceMethod ⟨"LightingDesk", "tell", "(I)V"⟩ ∈ uWS := uWS_mem (tm3 (List.mem_of_getElem? (i := 95) rfl)) rfl
theorem t3_96 : Cond.code ⟨"LightingDesk", "tell", "(I)V"⟩ prog_1_method_31_code 4 (none : Option Jvm.ClassFile.FieldType) ∈ uWS := uWS_mem (tm3 (List.mem_of_getElem? (i := 96) rfl)) rfl
theorem t3_97 : Cond.methodLink "LightingDesk" 242 ⟨"LightingDesk", "earliestDue", "(I)I"⟩ ∈ uWS := uWS_mem (tm3 (List.mem_of_getElem? (i := 97) rfl)) rfl
theorem t3_99 : Cond.instanceMethod ⟨"LightingDesk", "earliestDue", "(I)I"⟩ ∈ uWS := uWS_mem (tm3 (List.mem_of_getElem? (i := 99) rfl)) rfl
theorem t3_100 : Cond.code ⟨"LightingDesk", "earliestDue", "(I)I"⟩ prog_1_method_32_code 6 (some .int) ∈ uWS := uWS_mem (tm3 (List.mem_of_getElem? (i := 100) rfl)) rfl
theorem t3_101 : Cond.methodLink "LightingDesk" 245 ⟨"LightingDesk", "followOn", "(LLightingDesk$Player;)V"⟩ ∈ uWS := uWS_mem (tm3 (List.mem_of_getElem? (i := 101) rfl)) rfl
theorem t3_103 : Cond.instanceMethod ⟨"LightingDesk", "followOn", "(LLightingDesk$Player;)V"⟩ ∈ uWS := uWS_mem (tm3 (List.mem_of_getElem? (i := 103) rfl)) rfl
theorem t3_104 : Cond.code ⟨"LightingDesk", "followOn", "(LLightingDesk$Player;)V"⟩ prog_1_method_33_code 3 (none : Option Jvm.ClassFile.FieldType) ∈ uWS := uWS_mem (tm3 (List.mem_of_getElem? (i := 104) rfl)) rfl
theorem t3_105 : Cond.methodLink "LightingDesk" 196 ⟨"LightingDesk$CueBook", "placeAbove", "(II)I"⟩ ∈ uWS := uWS_mem (tm3 (List.mem_of_getElem? (i := 105) rfl)) rfl
theorem t3_106 : Cond.methodLink "LightingDesk" 204 ⟨"LightingDesk", "startCue", "(LLightingDesk$Player;II)V"⟩ ∈ uWS := uWS_mem (tm3 (List.mem_of_getElem? (i := 106) rfl)) rfl
theorem t3_108 : Cond.instanceMethod ⟨"LightingDesk", "startCue", "(LLightingDesk$Player;II)V"⟩ ∈ uWS := uWS_mem (tm3 (List.mem_of_getElem? (i := 108) rfl)) rfl
theorem t3_109 : Cond.code ⟨"LightingDesk", "startCue", "(LLightingDesk$Player;II)V"⟩ prog_1_method_34_code 7 (none : Option Jvm.ClassFile.FieldType) ∈ uWS := uWS_mem (tm3 (List.mem_of_getElem? (i := 109) rfl)) rfl
theorem t3_110 : Cond.methodLink "LightingDesk" 248 ⟨"LightingDesk$Player", "fade", "(IILLightingDesk$Cue;I)V"⟩ ∈ uWS := uWS_mem (tm3 (List.mem_of_getElem? (i := 110) rfl)) rfl
theorem t3_111 : Cond.instanceMethod ⟨"LightingDesk$Player", "fade", "(IILLightingDesk$Cue;I)V"⟩ ∈ uWS := uWS_mem (tm3 (List.mem_of_getElem? (i := 111) rfl)) rfl
theorem t3_112 : Cond.selects "LightingDesk$Player" ⟨"LightingDesk$Player", "fade", "(IILLightingDesk$Cue;I)V"⟩ ⟨"LightingDesk$Player", "fade", "(IILLightingDesk$Cue;I)V"⟩ ∈ uWS := uWS_mem (tm3 (List.mem_of_getElem? (i := 112) rfl)) rfl
theorem t3_113 : Cond.code ⟨"LightingDesk$Player", "fade", "(IILLightingDesk$Cue;I)V"⟩ prog_5_method_4_code 6 (none : Option Jvm.ClassFile.FieldType) ∈ uWS := uWS_mem (tm3 (List.mem_of_getElem? (i := 113) rfl)) rfl
theorem t3_114 : Cond.methodLink "LightingDesk$Player" 49 ⟨"LightingDesk$Player", "levelAt", "(II)I"⟩ ∈ uWS := uWS_mem (tm3 (List.mem_of_getElem? (i := 114) rfl)) rfl
theorem t3_115 : Cond.instanceMethod ⟨"LightingDesk$Player", "levelAt", "(II)I"⟩ ∈ uWS := uWS_mem (tm3 (List.mem_of_getElem? (i := 115) rfl)) rfl
theorem t3_116 : Cond.selects "LightingDesk$Player" ⟨"LightingDesk$Player", "levelAt", "(II)I"⟩ ⟨"LightingDesk$Player", "levelAt", "(II)I"⟩ ∈ uWS := uWS_mem (tm3 (List.mem_of_getElem? (i := 116) rfl)) rfl
theorem t3_117 : Cond.code ⟨"LightingDesk$Player", "levelAt", "(II)I"⟩ prog_5_method_3_code 5 (some .int) ∈ uWS := uWS_mem (tm3 (List.mem_of_getElem? (i := 117) rfl)) rfl
theorem t3_118 : Cond.methodLink "LightingDesk" 193 ⟨"LightingDesk$CueBook", "placeBelow", "(II)I"⟩ ∈ uWS := uWS_mem (tm3 (List.mem_of_getElem? (i := 118) rfl)) rfl
theorem t3_120 : Cond.methodLink "LightingDeskLaw" 130 ⟨"LightingDeskLaw", "out", "(LLightingDesk;II[J)I"⟩ ∈ uWS := uWS_mem (tm3 (List.mem_of_getElem? (i := 120) rfl)) rfl
theorem t3_121 : Cond.static ⟨"LightingDeskLaw", "out", "(LLightingDesk;II[J)I"⟩ ∈ uWS := uWS_mem (tm3 (List.mem_of_getElem? (i := 121) rfl)) rfl
theorem t3_122 : Cond.codeWith ⟨"LightingDeskLaw", "out", "(LLightingDesk;II[J)I"⟩ method_11_code 5 (some .int) [(0, 10, 13, 13)] ∈ uWS := uWS_mem (tm3 (List.mem_of_getElem? (i := 122) rfl)) rfl
theorem t3_123 : Cond.methodLink "LightingDeskLaw" 45 ⟨"LightingDesk", "out", "(II)I"⟩ ∈ uWS := uWS_mem (tm3 (List.mem_of_getElem? (i := 123) rfl)) rfl
theorem t3_124 : Cond.instanceMethod ⟨"LightingDesk", "out", "(II)I"⟩ ∈ uWS := uWS_mem (tm3 (List.mem_of_getElem? (i := 124) rfl)) rfl
theorem t3_125 : Cond.selects "LightingDesk" ⟨"LightingDesk", "out", "(II)I"⟩ ⟨"LightingDesk", "out", "(II)I"⟩ ∈ uWS := uWS_mem (tm3 (List.mem_of_getElem? (i := 125) rfl)) rfl
theorem t3_126 : Cond.code ⟨"LightingDesk", "out", "(II)I"⟩ prog_1_method_19_code 4 (some .int) ∈ uWS := uWS_mem (tm3 (List.mem_of_getElem? (i := 126) rfl)) rfl
theorem t3_128 : Cond.methodLink "LightingDesk" 213 ⟨"LightingDesk$ValueRow", "valueAt", "(I)I"⟩ ∈ uWS := uWS_mem (tm3 (List.mem_of_getElem? (i := 128) rfl)) rfl
theorem t3_129 : Cond.methodLink "LightingDesk" 216 ⟨"LightingDesk", "latestLevel", "(I)I"⟩ ∈ uWS := uWS_mem (tm3 (List.mem_of_getElem? (i := 129) rfl)) rfl
theorem t3_131 : Cond.instanceMethod ⟨"LightingDesk", "latestLevel", "(I)I"⟩ ∈ uWS := uWS_mem (tm3 (List.mem_of_getElem? (i := 131) rfl)) rfl
theorem t3_132 : Cond.code ⟨"LightingDesk", "latestLevel", "(I)I"⟩ prog_1_method_36_code 6 (some .int) ∈ uWS := uWS_mem (tm3 (List.mem_of_getElem? (i := 132) rfl)) rfl
theorem t3_133 : Cond.methodLink "LightingDesk" 257 ⟨"LightingDesk$Player", "lookTick", "(I)I"⟩ ∈ uWS := uWS_mem (tm3 (List.mem_of_getElem? (i := 133) rfl)) rfl
theorem t3_134 : Cond.instanceMethod ⟨"LightingDesk$Player", "lookTick", "(I)I"⟩ ∈ uWS := uWS_mem (tm3 (List.mem_of_getElem? (i := 134) rfl)) rfl
theorem t3_135 : Cond.selects "LightingDesk$Player" ⟨"LightingDesk$Player", "lookTick", "(I)I"⟩ ⟨"LightingDesk$Player", "lookTick", "(I)I"⟩ ∈ uWS := uWS_mem (tm3 (List.mem_of_getElem? (i := 135) rfl)) rfl
theorem t3_136 : Cond.code ⟨"LightingDesk$Player", "lookTick", "(I)I"⟩ prog_5_method_2_code 2 (some .int) ∈ uWS := uWS_mem (tm3 (List.mem_of_getElem? (i := 136) rfl)) rfl
theorem t3_137 : Cond.methodLink "LightingDesk" 229 ⟨"LightingDesk$Player", "levelAt", "(II)I"⟩ ∈ uWS := uWS_mem (tm3 (List.mem_of_getElem? (i := 137) rfl)) rfl
theorem t3_138 : Cond.methodLink "LightingDesk" 219 ⟨"LightingDesk", "greatestLevel", "(I)I"⟩ ∈ uWS := uWS_mem (tm3 (List.mem_of_getElem? (i := 138) rfl)) rfl
theorem t3_140 : Cond.instanceMethod ⟨"LightingDesk", "greatestLevel", "(I)I"⟩ ∈ uWS := uWS_mem (tm3 (List.mem_of_getElem? (i := 140) rfl)) rfl
theorem t3_141 : Cond.code ⟨"LightingDesk", "greatestLevel", "(I)I"⟩ prog_1_method_35_code 5 (some .int) ∈ uWS := uWS_mem (tm3 (List.mem_of_getElem? (i := 141) rfl)) rfl
theorem t3_142 : Cond.methodLink "LightingDesk" 252 ⟨"java/lang/Math", "max", "(II)I"⟩ ∈ uWS := uWS_mem (tm3 (List.mem_of_getElem? (i := 142) rfl)) rfl
theorem t3_143 : Cond.static ⟨"java/lang/Math", "max", "(II)I"⟩ ∈ uWS := uWS_mem (tm3 (List.mem_of_getElem? (i := 143) rfl)) rfl
theorem t3_144 : Cond.code ⟨"java/lang/Math", "max", "(II)I"⟩ prog_14_method_65_code 2 (some .int) ∈ uWS := uWS_mem (tm3 (List.mem_of_getElem? (i := 144) rfl)) rfl
theorem t3_145 : Cond.methodLink "LightingDeskLaw" 133 ⟨"LightingDeskLaw", "playback", "(LLightingDesk;II[J)I"⟩ ∈ uWS := uWS_mem (tm3 (List.mem_of_getElem? (i := 145) rfl)) rfl
theorem t3_146 : Cond.static ⟨"LightingDeskLaw", "playback", "(LLightingDesk;II[J)I"⟩ ∈ uWS := uWS_mem (tm3 (List.mem_of_getElem? (i := 146) rfl)) rfl
theorem t3_147 : Cond.codeWith ⟨"LightingDeskLaw", "playback", "(LLightingDesk;II[J)I"⟩ method_12_code 5 (some .int) [(0, 10, 13, 33)] ∈ uWS := uWS_mem (tm3 (List.mem_of_getElem? (i := 147) rfl)) rfl
theorem t3_148 : Cond.methodLink "LightingDeskLaw" 48 ⟨"LightingDesk", "playback", "(II)I"⟩ ∈ uWS := uWS_mem (tm3 (List.mem_of_getElem? (i := 148) rfl)) rfl
theorem t3_149 : Cond.instanceMethod ⟨"LightingDesk", "playback", "(II)I"⟩ ∈ uWS := uWS_mem (tm3 (List.mem_of_getElem? (i := 149) rfl)) rfl
theorem t3_150 : Cond.selects "LightingDesk" ⟨"LightingDesk", "playback", "(II)I"⟩ ⟨"LightingDesk", "playback", "(II)I"⟩ ∈ uWS := uWS_mem (tm3 (List.mem_of_getElem? (i := 150) rfl)) rfl
theorem t3_151 : Cond.code ⟨"LightingDesk", "playback", "(II)I"⟩ prog_1_method_20_code 4 (some .int) ∈ uWS := uWS_mem (tm3 (List.mem_of_getElem? (i := 151) rfl)) rfl
theorem t3_154 : Cond.classLink "LightingDeskLaw" 52 "LightingDeskModel" ∈ uWS := uWS_mem (tm3 (List.mem_of_getElem? (i := 154) rfl)) rfl
theorem t3_155 : Cond.instantiable "LightingDeskModel" 24 ∈ uWS := uWS_mem (tm3 (List.mem_of_getElem? (i := 155) rfl)) rfl
theorem t3_156 : Cond.methodLink "LightingDeskLaw" 54 ⟨"LightingDeskModel", "<init>", "()V"⟩ ∈ uWS := uWS_mem (tm3 (List.mem_of_getElem? (i := 156) rfl)) rfl
theorem t3_157 : Cond.instanceMethod ⟨"LightingDeskModel", "<init>", "()V"⟩ ∈ uWS := uWS_mem (tm3 (List.mem_of_getElem? (i := 157) rfl)) rfl
theorem t3_158 : Cond.code ⟨"LightingDeskModel", "<init>", "()V"⟩ prog_8_method_1_code 2 (none : Option Jvm.ClassFile.FieldType) ∈ uWS := uWS_mem (tm3 (List.mem_of_getElem? (i := 158) rfl)) rfl
theorem t3_159 : Cond.methodLink "LightingDeskModel" 1 ⟨"java/lang/Object", "<init>", "()V"⟩ ∈ uWS := uWS_mem (tm3 (List.mem_of_getElem? (i := 159) rfl)) rfl
theorem t3_160 : Cond.fieldLink "LightingDeskModel" 75 "LightingDeskModel" "thrown" "I" ∈ uWS := uWS_mem (tm3 (List.mem_of_getElem? (i := 160) rfl)) rfl
theorem t3_161 : Cond.fieldLink "LightingDeskModel" 7 "LightingDeskModel" "attribute" "[Z" ∈ uWS := uWS_mem (tm3 (List.mem_of_getElem? (i := 161) rfl)) rfl
theorem t3_162 : Cond.fieldLink "LightingDeskModel" 13 "LightingDeskModel" "programmer" "[S" ∈ uWS := uWS_mem (tm3 (List.mem_of_getElem? (i := 162) rfl)) rfl
theorem t3_163 : Cond.fieldLink "LightingDeskModel" 17 "LightingDeskModel" "palettes" "[S" ∈ uWS := uWS_mem (tm3 (List.mem_of_getElem? (i := 163) rfl)) rfl
theorem t3_164 : Cond.fieldLink "LightingDeskModel" 20 "LightingDeskModel" "lists" "[I" ∈ uWS := uWS_mem (tm3 (List.mem_of_getElem? (i := 164) rfl)) rfl
theorem t3_165 : Cond.fieldLink "LightingDeskModel" 24 "LightingDeskModel" "numbers" "[I" ∈ uWS := uWS_mem (tm3 (List.mem_of_getElem? (i := 165) rfl)) rfl
theorem t3_166 : Cond.fieldLink "LightingDeskModel" 27 "LightingDeskModel" "ups" "[I" ∈ uWS := uWS_mem (tm3 (List.mem_of_getElem? (i := 166) rfl)) rfl
theorem t3_167 : Cond.fieldLink "LightingDeskModel" 30 "LightingDeskModel" "downs" "[I" ∈ uWS := uWS_mem (tm3 (List.mem_of_getElem? (i := 167) rfl)) rfl
theorem t3_168 : Cond.fieldLink "LightingDeskModel" 33 "LightingDeskModel" "waits" "[I" ∈ uWS := uWS_mem (tm3 (List.mem_of_getElem? (i := 168) rfl)) rfl
theorem t3_169 : Cond.fieldLink "LightingDeskModel" 36 "LightingDeskModel" "follows" "[I" ∈ uWS := uWS_mem (tm3 (List.mem_of_getElem? (i := 169) rfl)) rfl
theorem t3_170 : Cond.fieldLink "LightingDeskModel" 39 "LightingDeskModel" "moves" "[S" ∈ uWS := uWS_mem (tm3 (List.mem_of_getElem? (i := 170) rfl)) rfl
theorem t3_171 : Cond.fieldLink "LightingDeskModel" 42 "LightingDeskModel" "kept" "[S" ∈ uWS := uWS_mem (tm3 (List.mem_of_getElem? (i := 171) rfl)) rfl
theorem t3_172 : Cond.fieldLink "LightingDeskModel" 45 "LightingDeskModel" "told" "[I" ∈ uWS := uWS_mem (tm3 (List.mem_of_getElem? (i := 172) rfl)) rfl
theorem t3_173 : Cond.fieldLink "LightingDeskModel" 48 "LightingDeskModel" "masters" "[I" ∈ uWS := uWS_mem (tm3 (List.mem_of_getElem? (i := 173) rfl)) rfl
theorem t3_174 : Cond.fieldLink "LightingDeskModel" 51 "LightingDeskModel" "current" "[I" ∈ uWS := uWS_mem (tm3 (List.mem_of_getElem? (i := 174) rfl)) rfl
theorem t3_175 : Cond.fieldLink "LightingDeskModel" 54 "LightingDeskModel" "started" "[I" ∈ uWS := uWS_mem (tm3 (List.mem_of_getElem? (i := 175) rfl)) rfl
theorem t3_176 : Cond.fieldLink "LightingDeskModel" 57 "LightingDeskModel" "followOn" "[I" ∈ uWS := uWS_mem (tm3 (List.mem_of_getElem? (i := 176) rfl)) rfl
theorem t3_177 : Cond.fieldLink "LightingDeskModel" 60 "LightingDeskModel" "from" "[S" ∈ uWS := uWS_mem (tm3 (List.mem_of_getElem? (i := 177) rfl)) rfl
theorem t3_178 : Cond.fieldLink "LightingDeskModel" 63 "LightingDeskModel" "to" "[S" ∈ uWS := uWS_mem (tm3 (List.mem_of_getElem? (i := 178) rfl)) rfl
theorem t3_179 : Cond.fieldLink "LightingDeskModel" 66 "LightingDeskModel" "begins" "[I" ∈ uWS := uWS_mem (tm3 (List.mem_of_getElem? (i := 179) rfl)) rfl
theorem t3_180 : Cond.fieldLink "LightingDeskModel" 69 "LightingDeskModel" "lasts" "[I" ∈ uWS := uWS_mem (tm3 (List.mem_of_getElem? (i := 180) rfl)) rfl
theorem t3_181 : Cond.fieldLink "LightingDeskModel" 72 "LightingDeskModel" "looked" "[I" ∈ uWS := uWS_mem (tm3 (List.mem_of_getElem? (i := 181) rfl)) rfl
theorem t3_182 : Cond.fieldLink "LightingDeskModel" 160 "LightingDeskModel" "now" "I" ∈ uWS := uWS_mem (tm3 (List.mem_of_getElem? (i := 182) rfl)) rfl
theorem t3_183 : Cond.fieldLink "LightingDeskModel" 154 "LightingDeskModel" "starts" "I" ∈ uWS := uWS_mem (tm3 (List.mem_of_getElem? (i := 183) rfl)) rfl
theorem t3_184 : Cond.lays "LightingDeskModel" "LightingDeskModel" "thrown" "I" ∈ uWS := uWS_mem (tm3 (List.mem_of_getElem? (i := 184) rfl)) rfl
theorem t3_186 : Cond.laysFinal "LightingDeskModel" "LightingDeskModel" "attribute" "[Z" ∈ uWS := uWS_mem (tm3 (List.mem_of_getElem? (i := 186) rfl)) rfl
theorem t3_188 : Cond.laysFinal "LightingDeskModel" "LightingDeskModel" "programmer" "[S" ∈ uWS := uWS_mem (tm3 (List.mem_of_getElem? (i := 188) rfl)) rfl
theorem t3_190 : Cond.laysFinal "LightingDeskModel" "LightingDeskModel" "palettes" "[S" ∈ uWS := uWS_mem (tm3 (List.mem_of_getElem? (i := 190) rfl)) rfl
theorem t3_192 : Cond.laysFinal "LightingDeskModel" "LightingDeskModel" "lists" "[I" ∈ uWS := uWS_mem (tm3 (List.mem_of_getElem? (i := 192) rfl)) rfl
theorem t3_194 : Cond.laysFinal "LightingDeskModel" "LightingDeskModel" "numbers" "[I" ∈ uWS := uWS_mem (tm3 (List.mem_of_getElem? (i := 194) rfl)) rfl
theorem t3_196 : Cond.laysFinal "LightingDeskModel" "LightingDeskModel" "ups" "[I" ∈ uWS := uWS_mem (tm3 (List.mem_of_getElem? (i := 196) rfl)) rfl
theorem t3_198 : Cond.laysFinal "LightingDeskModel" "LightingDeskModel" "downs" "[I" ∈ uWS := uWS_mem (tm3 (List.mem_of_getElem? (i := 198) rfl)) rfl
theorem t3_200 : Cond.laysFinal "LightingDeskModel" "LightingDeskModel" "waits" "[I" ∈ uWS := uWS_mem (tm3 (List.mem_of_getElem? (i := 200) rfl)) rfl
theorem t3_202 : Cond.laysFinal "LightingDeskModel" "LightingDeskModel" "follows" "[I" ∈ uWS := uWS_mem (tm3 (List.mem_of_getElem? (i := 202) rfl)) rfl
theorem t3_204 : Cond.laysFinal "LightingDeskModel" "LightingDeskModel" "moves" "[S" ∈ uWS := uWS_mem (tm3 (List.mem_of_getElem? (i := 204) rfl)) rfl
theorem t3_206 : Cond.laysFinal "LightingDeskModel" "LightingDeskModel" "kept" "[S" ∈ uWS := uWS_mem (tm3 (List.mem_of_getElem? (i := 206) rfl)) rfl
theorem t3_208 : Cond.laysFinal "LightingDeskModel" "LightingDeskModel" "told" "[I" ∈ uWS := uWS_mem (tm3 (List.mem_of_getElem? (i := 208) rfl)) rfl
theorem t3_210 : Cond.laysFinal "LightingDeskModel" "LightingDeskModel" "masters" "[I" ∈ uWS := uWS_mem (tm3 (List.mem_of_getElem? (i := 210) rfl)) rfl
theorem t3_212 : Cond.laysFinal "LightingDeskModel" "LightingDeskModel" "current" "[I" ∈ uWS := uWS_mem (tm3 (List.mem_of_getElem? (i := 212) rfl)) rfl
theorem t3_214 : Cond.laysFinal "LightingDeskModel" "LightingDeskModel" "started" "[I" ∈ uWS := uWS_mem (tm3 (List.mem_of_getElem? (i := 214) rfl)) rfl
theorem t3_216 : Cond.laysFinal "LightingDeskModel" "LightingDeskModel" "followOn" "[I" ∈ uWS := uWS_mem (tm3 (List.mem_of_getElem? (i := 216) rfl)) rfl
theorem t3_218 : Cond.laysFinal "LightingDeskModel" "LightingDeskModel" "from" "[S" ∈ uWS := uWS_mem (tm3 (List.mem_of_getElem? (i := 218) rfl)) rfl
theorem t3_220 : Cond.laysFinal "LightingDeskModel" "LightingDeskModel" "to" "[S" ∈ uWS := uWS_mem (tm3 (List.mem_of_getElem? (i := 220) rfl)) rfl
theorem t3_222 : Cond.laysFinal "LightingDeskModel" "LightingDeskModel" "begins" "[I" ∈ uWS := uWS_mem (tm3 (List.mem_of_getElem? (i := 222) rfl)) rfl
theorem t3_224 : Cond.laysFinal "LightingDeskModel" "LightingDeskModel" "lasts" "[I" ∈ uWS := uWS_mem (tm3 (List.mem_of_getElem? (i := 224) rfl)) rfl
theorem t3_226 : Cond.laysFinal "LightingDeskModel" "LightingDeskModel" "looked" "[I" ∈ uWS := uWS_mem (tm3 (List.mem_of_getElem? (i := 226) rfl)) rfl
theorem t3_228 : Cond.lays "LightingDeskModel" "LightingDeskModel" "now" "I" ∈ uWS := uWS_mem (tm3 (List.mem_of_getElem? (i := 228) rfl)) rfl
theorem t3_230 : Cond.lays "LightingDeskModel" "LightingDeskModel" "starts" "I" ∈ uWS := uWS_mem (tm3 (List.mem_of_getElem? (i := 230) rfl)) rfl
theorem t3_232 : Cond.superclass "LightingDeskModel" "java/lang/Object" ∈ uWS := uWS_mem (tm3 (List.mem_of_getElem? (i := 232) rfl)) rfl
theorem t3_233 : Cond.arrayClass .short ∈ uWS := uWS_mem (tm3 (List.mem_of_getElem? (i := 233) rfl)) rfl
theorem t3_234 : Cond.methodLink "LightingDeskLaw" 85 ⟨"LightingDeskModel", "thrown", "()I"⟩ ∈ uWS := uWS_mem (tm3 (List.mem_of_getElem? (i := 234) rfl)) rfl
theorem t3_235 : Cond.instanceMethod ⟨"LightingDeskModel", "thrown", "()I"⟩ ∈ uWS := uWS_mem (tm3 (List.mem_of_getElem? (i := 235) rfl)) rfl
theorem t3_236 : Cond.selects "LightingDeskModel" ⟨"LightingDeskModel", "thrown", "()I"⟩ ⟨"LightingDeskModel", "thrown", "()I"⟩ ∈ uWS := uWS_mem (tm3 (List.mem_of_getElem? (i := 236) rfl)) rfl
theorem t3_237 : Cond.code ⟨"LightingDeskModel", "thrown", "()I"⟩ prog_8_method_2_code 1 (some .int) ∈ uWS := uWS_mem (tm3 (List.mem_of_getElem? (i := 237) rfl)) rfl
theorem t3_238 : Cond.methodLink "LightingDeskLaw" 59 ⟨"LightingDeskModel", "kind", "(IZ)Z"⟩ ∈ uWS := uWS_mem (tm3 (List.mem_of_getElem? (i := 238) rfl)) rfl
theorem t3_239 : Cond.instanceMethod ⟨"LightingDeskModel", "kind", "(IZ)Z"⟩ ∈ uWS := uWS_mem (tm3 (List.mem_of_getElem? (i := 239) rfl)) rfl
theorem t4_0 : Cond.selects "LightingDeskModel" ⟨"LightingDeskModel", "kind", "(IZ)Z"⟩ ⟨"LightingDeskModel", "kind", "(IZ)Z"⟩ ∈ uWS := uWS_mem (tm4 (List.mem_of_getElem? (i := 0) rfl)) rfl
theorem t4_1 : Cond.code ⟨"LightingDeskModel", "kind", "(IZ)Z"⟩ prog_8_method_7_code 3 (some .boolean) ∈ uWS := uWS_mem (tm4 (List.mem_of_getElem? (i := 1) rfl)) rfl
theorem t4_2 : Cond.methodLink "LightingDeskModel" 79 ⟨"LightingDeskModel", "isChannel", "(I)Z"⟩ ∈ uWS := uWS_mem (tm4 (List.mem_of_getElem? (i := 2) rfl)) rfl
theorem t4_3 : Cond.static ⟨"LightingDeskModel", "isChannel", "(I)Z"⟩ ∈ uWS := uWS_mem (tm4 (List.mem_of_getElem? (i := 3) rfl)) rfl
theorem t4_4 : Cond.code ⟨"LightingDeskModel", "isChannel", "(I)Z"⟩ prog_8_method_3_code 1 (some .boolean) ∈ uWS := uWS_mem (tm4 (List.mem_of_getElem? (i := 4) rfl)) rfl
theorem t4_5 : Cond.methodLink "LightingDeskLaw" 64 ⟨"LightingDeskModel", "set", "(II)Z"⟩ ∈ uWS := uWS_mem (tm4 (List.mem_of_getElem? (i := 5) rfl)) rfl
theorem t4_6 : Cond.instanceMethod ⟨"LightingDeskModel", "set", "(II)Z"⟩ ∈ uWS := uWS_mem (tm4 (List.mem_of_getElem? (i := 6) rfl)) rfl
theorem t4_7 : Cond.selects "LightingDeskModel" ⟨"LightingDeskModel", "set", "(II)Z"⟩ ⟨"LightingDeskModel", "set", "(II)Z"⟩ ∈ uWS := uWS_mem (tm4 (List.mem_of_getElem? (i := 7) rfl)) rfl
theorem t4_8 : Cond.code ⟨"LightingDeskModel", "set", "(II)Z"⟩ prog_8_method_8_code 3 (some .boolean) ∈ uWS := uWS_mem (tm4 (List.mem_of_getElem? (i := 8) rfl)) rfl
theorem t4_9 : Cond.methodLink "LightingDeskModel" 83 ⟨"LightingDeskModel", "isLevel", "(I)Z"⟩ ∈ uWS := uWS_mem (tm4 (List.mem_of_getElem? (i := 9) rfl)) rfl
theorem t4_10 : Cond.static ⟨"LightingDeskModel", "isLevel", "(I)Z"⟩ ∈ uWS := uWS_mem (tm4 (List.mem_of_getElem? (i := 10) rfl)) rfl
theorem t4_11 : Cond.code ⟨"LightingDeskModel", "isLevel", "(I)Z"⟩ prog_8_method_4_code 1 (some .boolean) ∈ uWS := uWS_mem (tm4 (List.mem_of_getElem? (i := 11) rfl)) rfl
theorem t4_12 : Cond.methodLink "LightingDeskLaw" 68 ⟨"LightingDeskModel", "use", "(II)Z"⟩ ∈ uWS := uWS_mem (tm4 (List.mem_of_getElem? (i := 12) rfl)) rfl
theorem t4_13 : Cond.instanceMethod ⟨"LightingDeskModel", "use", "(II)Z"⟩ ∈ uWS := uWS_mem (tm4 (List.mem_of_getElem? (i := 13) rfl)) rfl
theorem t4_14 : Cond.selects "LightingDeskModel" ⟨"LightingDeskModel", "use", "(II)Z"⟩ ⟨"LightingDeskModel", "use", "(II)Z"⟩ ∈ uWS := uWS_mem (tm4 (List.mem_of_getElem? (i := 14) rfl)) rfl
theorem t4_15 : Cond.code ⟨"LightingDeskModel", "use", "(II)Z"⟩ prog_8_method_9_code 3 (some .boolean) ∈ uWS := uWS_mem (tm4 (List.mem_of_getElem? (i := 15) rfl)) rfl
theorem t4_16 : Cond.methodLink "LightingDeskLaw" 73 ⟨"LightingDeskModel", "release", "(I)I"⟩ ∈ uWS := uWS_mem (tm4 (List.mem_of_getElem? (i := 16) rfl)) rfl
theorem t4_17 : Cond.instanceMethod ⟨"LightingDeskModel", "release", "(I)I"⟩ ∈ uWS := uWS_mem (tm4 (List.mem_of_getElem? (i := 17) rfl)) rfl
theorem t4_18 : Cond.selects "LightingDeskModel" ⟨"LightingDeskModel", "release", "(I)I"⟩ ⟨"LightingDeskModel", "release", "(I)I"⟩ ∈ uWS := uWS_mem (tm4 (List.mem_of_getElem? (i := 18) rfl)) rfl
theorem t4_19 : Cond.code ⟨"LightingDeskModel", "release", "(I)I"⟩ prog_8_method_10_code 4 (some .int) ∈ uWS := uWS_mem (tm4 (List.mem_of_getElem? (i := 19) rfl)) rfl
theorem t4_20 : Cond.methodLink "LightingDeskLaw" 78 ⟨"LightingDeskModel", "palette", "(III)Z"⟩ ∈ uWS := uWS_mem (tm4 (List.mem_of_getElem? (i := 20) rfl)) rfl
theorem t4_21 : Cond.instanceMethod ⟨"LightingDeskModel", "palette", "(III)Z"⟩ ∈ uWS := uWS_mem (tm4 (List.mem_of_getElem? (i := 21) rfl)) rfl
theorem t4_22 : Cond.selects "LightingDeskModel" ⟨"LightingDeskModel", "palette", "(III)Z"⟩ ⟨"LightingDeskModel", "palette", "(III)Z"⟩ ∈ uWS := uWS_mem (tm4 (List.mem_of_getElem? (i := 22) rfl)) rfl
theorem t4_23 : Cond.code ⟨"LightingDeskModel", "palette", "(III)Z"⟩ prog_8_method_11_code 4 (some .boolean) ∈ uWS := uWS_mem (tm4 (List.mem_of_getElem? (i := 23) rfl)) rfl
theorem t4_24 : Cond.methodLink "LightingDeskLaw" 84 ⟨"LightingDeskModel", "record", "(IIZ)I"⟩ ∈ uWS := uWS_mem (tm4 (List.mem_of_getElem? (i := 24) rfl)) rfl
theorem t4_25 : Cond.instanceMethod ⟨"LightingDeskModel", "record", "(IIZ)I"⟩ ∈ uWS := uWS_mem (tm4 (List.mem_of_getElem? (i := 25) rfl)) rfl
theorem t4_26 : Cond.selects "LightingDeskModel" ⟨"LightingDeskModel", "record", "(IIZ)I"⟩ ⟨"LightingDeskModel", "record", "(IIZ)I"⟩ ∈ uWS := uWS_mem (tm4 (List.mem_of_getElem? (i := 26) rfl)) rfl
theorem t4_27 : Cond.code ⟨"LightingDeskModel", "record", "(IIZ)I"⟩ prog_8_method_27_code 8 (some .int) ∈ uWS := uWS_mem (tm4 (List.mem_of_getElem? (i := 27) rfl)) rfl
theorem t4_28 : Cond.methodLink "LightingDeskModel" 108 ⟨"LightingDeskModel", "find", "(II)I"⟩ ∈ uWS := uWS_mem (tm4 (List.mem_of_getElem? (i := 28) rfl)) rfl
theorem t4_30 : Cond.instanceMethod ⟨"LightingDeskModel", "find", "(II)I"⟩ ∈ uWS := uWS_mem (tm4 (List.mem_of_getElem? (i := 30) rfl)) rfl
theorem t4_31 : Cond.code ⟨"LightingDeskModel", "find", "(II)I"⟩ prog_8_method_13_code 5 (some .int) ∈ uWS := uWS_mem (tm4 (List.mem_of_getElem? (i := 31) rfl)) rfl
theorem t4_32 : Cond.methodLink "LightingDeskModel" 111 ⟨"LightingDeskModel", "above", "(II)I"⟩ ∈ uWS := uWS_mem (tm4 (List.mem_of_getElem? (i := 32) rfl)) rfl
theorem t4_34 : Cond.instanceMethod ⟨"LightingDeskModel", "above", "(II)I"⟩ ∈ uWS := uWS_mem (tm4 (List.mem_of_getElem? (i := 34) rfl)) rfl
theorem t4_35 : Cond.code ⟨"LightingDeskModel", "above", "(II)I"⟩ prog_8_method_14_code 5 (some .int) ∈ uWS := uWS_mem (tm4 (List.mem_of_getElem? (i := 35) rfl)) rfl
theorem t4_36 : Cond.methodLink "LightingDeskModel" 90 ⟨"LightingDeskModel", "moveOf", "(II)I"⟩ ∈ uWS := uWS_mem (tm4 (List.mem_of_getElem? (i := 36) rfl)) rfl
theorem t4_38 : Cond.instanceMethod ⟨"LightingDeskModel", "moveOf", "(II)I"⟩ ∈ uWS := uWS_mem (tm4 (List.mem_of_getElem? (i := 38) rfl)) rfl
theorem t4_39 : Cond.code ⟨"LightingDeskModel", "moveOf", "(II)I"⟩ prog_8_method_16_code 3 (some .int) ∈ uWS := uWS_mem (tm4 (List.mem_of_getElem? (i := 39) rfl)) rfl
theorem t4_40 : Cond.methodLink "LightingDeskModel" 114 ⟨"LightingDeskModel", "cueCount", "()I"⟩ ∈ uWS := uWS_mem (tm4 (List.mem_of_getElem? (i := 40) rfl)) rfl
theorem t4_42 : Cond.instanceMethod ⟨"LightingDeskModel", "cueCount", "()I"⟩ ∈ uWS := uWS_mem (tm4 (List.mem_of_getElem? (i := 42) rfl)) rfl
theorem t4_43 : Cond.code ⟨"LightingDeskModel", "cueCount", "()I"⟩ prog_8_method_20_code 3 (some .int) ∈ uWS := uWS_mem (tm4 (List.mem_of_getElem? (i := 43) rfl)) rfl
theorem t4_44 : Cond.methodLink "LightingDeskModel" 118 ⟨"LightingDeskModel", "moveCount", "()I"⟩ ∈ uWS := uWS_mem (tm4 (List.mem_of_getElem? (i := 44) rfl)) rfl
theorem t4_46 : Cond.instanceMethod ⟨"LightingDeskModel", "moveCount", "()I"⟩ ∈ uWS := uWS_mem (tm4 (List.mem_of_getElem? (i := 46) rfl)) rfl
theorem t4_47 : Cond.code ⟨"LightingDeskModel", "moveCount", "()I"⟩ prog_8_method_21_code 3 (some .int) ∈ uWS := uWS_mem (tm4 (List.mem_of_getElem? (i := 47) rfl)) rfl
theorem t4_48 : Cond.methodLink "LightingDeskModel" 97 ⟨"LightingDeskModel", "movesOf", "(I)I"⟩ ∈ uWS := uWS_mem (tm4 (List.mem_of_getElem? (i := 48) rfl)) rfl
theorem t4_50 : Cond.instanceMethod ⟨"LightingDeskModel", "movesOf", "(I)I"⟩ ∈ uWS := uWS_mem (tm4 (List.mem_of_getElem? (i := 50) rfl)) rfl
theorem t4_51 : Cond.code ⟨"LightingDeskModel", "movesOf", "(I)I"⟩ prog_8_method_19_code 4 (some .int) ∈ uWS := uWS_mem (tm4 (List.mem_of_getElem? (i := 51) rfl)) rfl
theorem t4_52 : Cond.methodLink "LightingDeskModel" 121 ⟨"LightingDeskModel", "keptMoves", "(I)I"⟩ ∈ uWS := uWS_mem (tm4 (List.mem_of_getElem? (i := 52) rfl)) rfl
theorem t4_54 : Cond.instanceMethod ⟨"LightingDeskModel", "keptMoves", "(I)I"⟩ ∈ uWS := uWS_mem (tm4 (List.mem_of_getElem? (i := 54) rfl)) rfl
theorem t4_55 : Cond.code ⟨"LightingDeskModel", "keptMoves", "(I)I"⟩ prog_8_method_25_code 4 (some .int) ∈ uWS := uWS_mem (tm4 (List.mem_of_getElem? (i := 55) rfl)) rfl
theorem t4_56 : Cond.methodLink "LightingDeskModel" 124 ⟨"LightingDeskModel", "note", "(I)V"⟩ ∈ uWS := uWS_mem (tm4 (List.mem_of_getElem? (i := 56) rfl)) rfl
theorem t4_58 : Cond.instanceMethod ⟨"LightingDeskModel", "note", "(I)V"⟩ ∈ uWS := uWS_mem (tm4 (List.mem_of_getElem? (i := 58) rfl)) rfl
theorem t4_59 : Cond.code ⟨"LightingDeskModel", "note", "(I)V"⟩ prog_8_method_23_code 3 (none : Option Jvm.ClassFile.FieldType) ∈ uWS := uWS_mem (tm4 (List.mem_of_getElem? (i := 59) rfl)) rfl
theorem t4_60 : Cond.methodLink "LightingDeskModel" 101 ⟨"LightingDeskModel", "tracked", "(III)I"⟩ ∈ uWS := uWS_mem (tm4 (List.mem_of_getElem? (i := 60) rfl)) rfl
theorem t4_62 : Cond.instanceMethod ⟨"LightingDeskModel", "tracked", "(III)I"⟩ ∈ uWS := uWS_mem (tm4 (List.mem_of_getElem? (i := 62) rfl)) rfl
theorem t4_63 : Cond.code ⟨"LightingDeskModel", "tracked", "(III)I"⟩ prog_8_method_18_code 5 (some .int) ∈ uWS := uWS_mem (tm4 (List.mem_of_getElem? (i := 63) rfl)) rfl
theorem t4_64 : Cond.methodLink "LightingDeskModel" 93 ⟨"LightingDeskModel", "sourceOf", "(III)I"⟩ ∈ uWS := uWS_mem (tm4 (List.mem_of_getElem? (i := 64) rfl)) rfl
theorem t4_66 : Cond.instanceMethod ⟨"LightingDeskModel", "sourceOf", "(III)I"⟩ ∈ uWS := uWS_mem (tm4 (List.mem_of_getElem? (i := 66) rfl)) rfl
theorem t4_67 : Cond.code ⟨"LightingDeskModel", "sourceOf", "(III)I"⟩ prog_8_method_17_code 5 (some .int) ∈ uWS := uWS_mem (tm4 (List.mem_of_getElem? (i := 67) rfl)) rfl
theorem t4_68 : Cond.methodLink "LightingDeskModel" 86 ⟨"LightingDeskModel", "below", "(II)I"⟩ ∈ uWS := uWS_mem (tm4 (List.mem_of_getElem? (i := 68) rfl)) rfl
theorem t4_70 : Cond.instanceMethod ⟨"LightingDeskModel", "below", "(II)I"⟩ ∈ uWS := uWS_mem (tm4 (List.mem_of_getElem? (i := 70) rfl)) rfl
theorem t4_71 : Cond.code ⟨"LightingDeskModel", "below", "(II)I"⟩ prog_8_method_15_code 5 (some .int) ∈ uWS := uWS_mem (tm4 (List.mem_of_getElem? (i := 71) rfl)) rfl
theorem t4_72 : Cond.methodLink "LightingDeskModel" 128 ⟨"LightingDeskModel", "make", "(II)I"⟩ ∈ uWS := uWS_mem (tm4 (List.mem_of_getElem? (i := 72) rfl)) rfl
theorem t4_74 : Cond.instanceMethod ⟨"LightingDeskModel", "make", "(II)I"⟩ ∈ uWS := uWS_mem (tm4 (List.mem_of_getElem? (i := 74) rfl)) rfl
theorem t4_75 : Cond.code ⟨"LightingDeskModel", "make", "(II)I"⟩ prog_8_method_26_code 5 (some .int) ∈ uWS := uWS_mem (tm4 (List.mem_of_getElem? (i := 75) rfl)) rfl
theorem t4_76 : Cond.methodLink "LightingDeskModel" 104 ⟨"LightingDeskModel", "put", "(III)V"⟩ ∈ uWS := uWS_mem (tm4 (List.mem_of_getElem? (i := 76) rfl)) rfl
theorem t4_78 : Cond.instanceMethod ⟨"LightingDeskModel", "put", "(III)V"⟩ ∈ uWS := uWS_mem (tm4 (List.mem_of_getElem? (i := 78) rfl)) rfl
theorem t4_79 : Cond.code ⟨"LightingDeskModel", "put", "(III)V"⟩ prog_8_method_22_code 4 (none : Option Jvm.ClassFile.FieldType) ∈ uWS := uWS_mem (tm4 (List.mem_of_getElem? (i := 79) rfl)) rfl
theorem t4_80 : Cond.methodLink "LightingDeskModel" 131 ⟨"LightingDeskModel", "keep", "(II)V"⟩ ∈ uWS := uWS_mem (tm4 (List.mem_of_getElem? (i := 80) rfl)) rfl
theorem t4_82 : Cond.instanceMethod ⟨"LightingDeskModel", "keep", "(II)V"⟩ ∈ uWS := uWS_mem (tm4 (List.mem_of_getElem? (i := 82) rfl)) rfl
theorem t4_83 : Cond.code ⟨"LightingDeskModel", "keep", "(II)V"⟩ prog_8_method_24_code 3 (none : Option Jvm.ClassFile.FieldType) ∈ uWS := uWS_mem (tm4 (List.mem_of_getElem? (i := 83) rfl)) rfl
theorem t4_84 : Cond.methodLink "LightingDeskLaw" 92 ⟨"LightingDeskModel", "update", "(II)I"⟩ ∈ uWS := uWS_mem (tm4 (List.mem_of_getElem? (i := 84) rfl)) rfl
theorem t4_85 : Cond.instanceMethod ⟨"LightingDeskModel", "update", "(II)I"⟩ ∈ uWS := uWS_mem (tm4 (List.mem_of_getElem? (i := 85) rfl)) rfl
theorem t4_86 : Cond.selects "LightingDeskModel" ⟨"LightingDeskModel", "update", "(II)I"⟩ ⟨"LightingDeskModel", "update", "(II)I"⟩ ∈ uWS := uWS_mem (tm4 (List.mem_of_getElem? (i := 86) rfl)) rfl
theorem t4_87 : Cond.code ⟨"LightingDeskModel", "update", "(II)I"⟩ prog_8_method_29_code 9 (some .int) ∈ uWS := uWS_mem (tm4 (List.mem_of_getElem? (i := 87) rfl)) rfl
theorem t4_88 : Cond.methodLink "LightingDeskModel" 135 ⟨"LightingDeskModel", "has", "(II)Z"⟩ ∈ uWS := uWS_mem (tm4 (List.mem_of_getElem? (i := 88) rfl)) rfl
theorem t4_90 : Cond.instanceMethod ⟨"LightingDeskModel", "has", "(II)Z"⟩ ∈ uWS := uWS_mem (tm4 (List.mem_of_getElem? (i := 90) rfl)) rfl
theorem t4_91 : Cond.code ⟨"LightingDeskModel", "has", "(II)Z"⟩ prog_8_method_28_code 3 (some .boolean) ∈ uWS := uWS_mem (tm4 (List.mem_of_getElem? (i := 91) rfl)) rfl
theorem t4_92 : Cond.methodLink "LightingDeskLaw" 95 ⟨"LightingDeskModel", "delete", "(IIZ)I"⟩ ∈ uWS := uWS_mem (tm4 (List.mem_of_getElem? (i := 92) rfl)) rfl
theorem t4_93 : Cond.instanceMethod ⟨"LightingDeskModel", "delete", "(IIZ)I"⟩ ∈ uWS := uWS_mem (tm4 (List.mem_of_getElem? (i := 93) rfl)) rfl
theorem t4_94 : Cond.selects "LightingDeskModel" ⟨"LightingDeskModel", "delete", "(IIZ)I"⟩ ⟨"LightingDeskModel", "delete", "(IIZ)I"⟩ ∈ uWS := uWS_mem (tm4 (List.mem_of_getElem? (i := 94) rfl)) rfl
theorem t4_95 : Cond.code ⟨"LightingDeskModel", "delete", "(IIZ)I"⟩ prog_8_method_30_code 8 (some .int) ∈ uWS := uWS_mem (tm4 (List.mem_of_getElem? (i := 95) rfl)) rfl
theorem t4_96 : Cond.methodLink "LightingDeskLaw" 98 ⟨"LightingDeskModel", "block", "(IIZ)I"⟩ ∈ uWS := uWS_mem (tm4 (List.mem_of_getElem? (i := 96) rfl)) rfl
theorem t4_97 : Cond.instanceMethod ⟨"LightingDeskModel", "block", "(IIZ)I"⟩ ∈ uWS := uWS_mem (tm4 (List.mem_of_getElem? (i := 97) rfl)) rfl
theorem t4_98 : Cond.selects "LightingDeskModel" ⟨"LightingDeskModel", "block", "(IIZ)I"⟩ ⟨"LightingDeskModel", "block", "(IIZ)I"⟩ ∈ uWS := uWS_mem (tm4 (List.mem_of_getElem? (i := 98) rfl)) rfl
theorem t4_99 : Cond.code ⟨"LightingDeskModel", "block", "(IIZ)I"⟩ prog_8_method_31_code 8 (some .int) ∈ uWS := uWS_mem (tm4 (List.mem_of_getElem? (i := 99) rfl)) rfl
theorem t4_100 : Cond.methodLink "LightingDeskLaw" 103 ⟨"LightingDeskModel", "times", "(IIII)Z"⟩ ∈ uWS := uWS_mem (tm4 (List.mem_of_getElem? (i := 100) rfl)) rfl
theorem t4_101 : Cond.instanceMethod ⟨"LightingDeskModel", "times", "(IIII)Z"⟩ ∈ uWS := uWS_mem (tm4 (List.mem_of_getElem? (i := 101) rfl)) rfl
theorem t4_102 : Cond.selects "LightingDeskModel" ⟨"LightingDeskModel", "times", "(IIII)Z"⟩ ⟨"LightingDeskModel", "times", "(IIII)Z"⟩ ∈ uWS := uWS_mem (tm4 (List.mem_of_getElem? (i := 102) rfl)) rfl
theorem t4_103 : Cond.code ⟨"LightingDeskModel", "times", "(IIII)Z"⟩ prog_8_method_32_code 6 (some .boolean) ∈ uWS := uWS_mem (tm4 (List.mem_of_getElem? (i := 103) rfl)) rfl
theorem t4_104 : Cond.methodLink "LightingDeskModel" 139 ⟨"LightingDeskModel", "isTime", "(I)Z"⟩ ∈ uWS := uWS_mem (tm4 (List.mem_of_getElem? (i := 104) rfl)) rfl
theorem t4_105 : Cond.static ⟨"LightingDeskModel", "isTime", "(I)Z"⟩ ∈ uWS := uWS_mem (tm4 (List.mem_of_getElem? (i := 105) rfl)) rfl
theorem t4_106 : Cond.code ⟨"LightingDeskModel", "isTime", "(I)Z"⟩ prog_8_method_5_code 1 (some .boolean) ∈ uWS := uWS_mem (tm4 (List.mem_of_getElem? (i := 106) rfl)) rfl
theorem t4_107 : Cond.methodLink "LightingDeskLaw" 107 ⟨"LightingDeskModel", "delays", "(IIII)Z"⟩ ∈ uWS := uWS_mem (tm4 (List.mem_of_getElem? (i := 107) rfl)) rfl
theorem t4_108 : Cond.instanceMethod ⟨"LightingDeskModel", "delays", "(IIII)Z"⟩ ∈ uWS := uWS_mem (tm4 (List.mem_of_getElem? (i := 108) rfl)) rfl
theorem t4_109 : Cond.selects "LightingDeskModel" ⟨"LightingDeskModel", "delays", "(IIII)Z"⟩ ⟨"LightingDeskModel", "delays", "(IIII)Z"⟩ ∈ uWS := uWS_mem (tm4 (List.mem_of_getElem? (i := 109) rfl)) rfl
theorem t4_110 : Cond.code ⟨"LightingDeskModel", "delays", "(IIII)Z"⟩ prog_8_method_33_code 6 (some .boolean) ∈ uWS := uWS_mem (tm4 (List.mem_of_getElem? (i := 110) rfl)) rfl
theorem t4_111 : Cond.methodLink "LightingDeskLaw" 111 ⟨"LightingDeskModel", "look", "(III)I"⟩ ∈ uWS := uWS_mem (tm4 (List.mem_of_getElem? (i := 111) rfl)) rfl
theorem t4_112 : Cond.instanceMethod ⟨"LightingDeskModel", "look", "(III)I"⟩ ∈ uWS := uWS_mem (tm4 (List.mem_of_getElem? (i := 112) rfl)) rfl
theorem t4_113 : Cond.selects "LightingDeskModel" ⟨"LightingDeskModel", "look", "(III)I"⟩ ⟨"LightingDeskModel", "look", "(III)I"⟩ ∈ uWS := uWS_mem (tm4 (List.mem_of_getElem? (i := 113) rfl)) rfl
theorem t4_114 : Cond.code ⟨"LightingDeskModel", "look", "(III)I"⟩ prog_8_method_35_code 4 (some .int) ∈ uWS := uWS_mem (tm4 (List.mem_of_getElem? (i := 114) rfl)) rfl
theorem t4_115 : Cond.methodLink "LightingDeskModel" 145 ⟨"LightingDeskModel", "lookOf", "(III)I"⟩ ∈ uWS := uWS_mem (tm4 (List.mem_of_getElem? (i := 115) rfl)) rfl
theorem t4_117 : Cond.instanceMethod ⟨"LightingDeskModel", "lookOf", "(III)I"⟩ ∈ uWS := uWS_mem (tm4 (List.mem_of_getElem? (i := 117) rfl)) rfl
theorem t4_118 : Cond.code ⟨"LightingDeskModel", "lookOf", "(III)I"⟩ prog_8_method_34_code 5 (some .int) ∈ uWS := uWS_mem (tm4 (List.mem_of_getElem? (i := 118) rfl)) rfl
theorem t4_119 : Cond.methodLink "LightingDeskModel" 142 ⟨"LightingDeskModel", "levelOf", "(II)I"⟩ ∈ uWS := uWS_mem (tm4 (List.mem_of_getElem? (i := 119) rfl)) rfl
theorem t4_121 : Cond.instanceMethod ⟨"LightingDeskModel", "levelOf", "(II)I"⟩ ∈ uWS := uWS_mem (tm4 (List.mem_of_getElem? (i := 121) rfl)) rfl
theorem t4_122 : Cond.code ⟨"LightingDeskModel", "levelOf", "(II)I"⟩ prog_8_method_12_code 3 (some .int) ∈ uWS := uWS_mem (tm4 (List.mem_of_getElem? (i := 122) rfl)) rfl
theorem t4_123 : Cond.methodLink "LightingDeskLaw" 114 ⟨"LightingDeskModel", "source", "(III)I"⟩ ∈ uWS := uWS_mem (tm4 (List.mem_of_getElem? (i := 123) rfl)) rfl
theorem t4_124 : Cond.instanceMethod ⟨"LightingDeskModel", "source", "(III)I"⟩ ∈ uWS := uWS_mem (tm4 (List.mem_of_getElem? (i := 124) rfl)) rfl
theorem t4_125 : Cond.selects "LightingDeskModel" ⟨"LightingDeskModel", "source", "(III)I"⟩ ⟨"LightingDeskModel", "source", "(III)I"⟩ ∈ uWS := uWS_mem (tm4 (List.mem_of_getElem? (i := 125) rfl)) rfl
theorem t4_126 : Cond.code ⟨"LightingDeskModel", "source", "(III)I"⟩ prog_8_method_36_code 5 (some .int) ∈ uWS := uWS_mem (tm4 (List.mem_of_getElem? (i := 126) rfl)) rfl
theorem t4_127 : Cond.methodLink "LightingDeskLaw" 117 ⟨"LightingDeskModel", "cue", "(III)I"⟩ ∈ uWS := uWS_mem (tm4 (List.mem_of_getElem? (i := 127) rfl)) rfl
theorem t4_128 : Cond.instanceMethod ⟨"LightingDeskModel", "cue", "(III)I"⟩ ∈ uWS := uWS_mem (tm4 (List.mem_of_getElem? (i := 128) rfl)) rfl
theorem t4_129 : Cond.selects "LightingDeskModel" ⟨"LightingDeskModel", "cue", "(III)I"⟩ ⟨"LightingDeskModel", "cue", "(III)I"⟩ ∈ uWS := uWS_mem (tm4 (List.mem_of_getElem? (i := 129) rfl)) rfl
theorem t4_130 : Cond.code ⟨"LightingDeskModel", "cue", "(III)I"⟩ prog_8_method_37_code 8 (some .int) ∈ uWS := uWS_mem (tm4 (List.mem_of_getElem? (i := 130) rfl)) rfl
theorem t4_131 : Cond.methodLink "LightingDeskLaw" 121 ⟨"LightingDeskModel", "assign", "(II)Z"⟩ ∈ uWS := uWS_mem (tm4 (List.mem_of_getElem? (i := 131) rfl)) rfl
theorem t4_132 : Cond.instanceMethod ⟨"LightingDeskModel", "assign", "(II)Z"⟩ ∈ uWS := uWS_mem (tm4 (List.mem_of_getElem? (i := 132) rfl)) rfl
theorem t4_133 : Cond.selects "LightingDeskModel" ⟨"LightingDeskModel", "assign", "(II)Z"⟩ ⟨"LightingDeskModel", "assign", "(II)Z"⟩ ∈ uWS := uWS_mem (tm4 (List.mem_of_getElem? (i := 133) rfl)) rfl
theorem t4_134 : Cond.code ⟨"LightingDeskModel", "assign", "(II)Z"⟩ prog_8_method_38_code 3 (some .boolean) ∈ uWS := uWS_mem (tm4 (List.mem_of_getElem? (i := 134) rfl)) rfl
theorem t4_135 : Cond.methodLink "LightingDeskModel" 148 ⟨"LightingDeskModel", "isPlayback", "(I)Z"⟩ ∈ uWS := uWS_mem (tm4 (List.mem_of_getElem? (i := 135) rfl)) rfl
theorem t4_136 : Cond.static ⟨"LightingDeskModel", "isPlayback", "(I)Z"⟩ ∈ uWS := uWS_mem (tm4 (List.mem_of_getElem? (i := 136) rfl)) rfl
theorem t4_137 : Cond.code ⟨"LightingDeskModel", "isPlayback", "(I)Z"⟩ prog_8_method_6_code 1 (some .boolean) ∈ uWS := uWS_mem (tm4 (List.mem_of_getElem? (i := 137) rfl)) rfl
theorem t4_138 : Cond.methodLink "LightingDeskLaw" 125 ⟨"LightingDeskModel", "go", "(IZI)I"⟩ ∈ uWS := uWS_mem (tm4 (List.mem_of_getElem? (i := 138) rfl)) rfl
theorem t4_139 : Cond.instanceMethod ⟨"LightingDeskModel", "go", "(IZI)I"⟩ ∈ uWS := uWS_mem (tm4 (List.mem_of_getElem? (i := 139) rfl)) rfl
theorem t4_140 : Cond.selects "LightingDeskModel" ⟨"LightingDeskModel", "go", "(IZI)I"⟩ ⟨"LightingDeskModel", "go", "(IZI)I"⟩ ∈ uWS := uWS_mem (tm4 (List.mem_of_getElem? (i := 140) rfl)) rfl
theorem t4_141 : Cond.code ⟨"LightingDeskModel", "go", "(IZI)I"⟩ prog_8_method_43_code 5 (some .int) ∈ uWS := uWS_mem (tm4 (List.mem_of_getElem? (i := 141) rfl)) rfl
theorem t4_142 : Cond.methodLink "LightingDeskModel" 164 ⟨"LightingDeskModel", "isTick", "(I)Z"⟩ ∈ uWS := uWS_mem (tm4 (List.mem_of_getElem? (i := 142) rfl)) rfl
theorem t4_144 : Cond.instanceMethod ⟨"LightingDeskModel", "isTick", "(I)Z"⟩ ∈ uWS := uWS_mem (tm4 (List.mem_of_getElem? (i := 144) rfl)) rfl
theorem t4_145 : Cond.code ⟨"LightingDeskModel", "isTick", "(I)Z"⟩ prog_8_method_42_code 2 (some .boolean) ∈ uWS := uWS_mem (tm4 (List.mem_of_getElem? (i := 145) rfl)) rfl
theorem t4_146 : Cond.constant "LightingDeskModel" 163 1000000000 ∈ uWS := uWS_mem (tm4 (List.mem_of_getElem? (i := 146) rfl)) rfl
theorem t4_147 : Cond.methodLink "LightingDeskModel" 167 ⟨"LightingDeskModel", "tell", "(I)V"⟩ ∈ uWS := uWS_mem (tm4 (List.mem_of_getElem? (i := 147) rfl)) rfl
theorem t4_149 : Cond.instanceMethod ⟨"LightingDeskModel", "tell", "(I)V"⟩ ∈ uWS := uWS_mem (tm4 (List.mem_of_getElem? (i := 149) rfl)) rfl
theorem t4_150 : Cond.code ⟨"LightingDeskModel", "tell", "(I)V"⟩ prog_8_method_41_code 6 (none : Option Jvm.ClassFile.FieldType) ∈ uWS := uWS_mem (tm4 (List.mem_of_getElem? (i := 150) rfl)) rfl
theorem t4_151 : Cond.methodLink "LightingDeskModel" 157 ⟨"LightingDeskModel", "start", "(III)V"⟩ ∈ uWS := uWS_mem (tm4 (List.mem_of_getElem? (i := 151) rfl)) rfl
theorem t4_153 : Cond.instanceMethod ⟨"LightingDeskModel", "start", "(III)V"⟩ ∈ uWS := uWS_mem (tm4 (List.mem_of_getElem? (i := 153) rfl)) rfl
theorem t4_154 : Cond.code ⟨"LightingDeskModel", "start", "(III)V"⟩ prog_8_method_40_code 8 (none : Option Jvm.ClassFile.FieldType) ∈ uWS := uWS_mem (tm4 (List.mem_of_getElem? (i := 154) rfl)) rfl
theorem t4_155 : Cond.methodLink "LightingDeskModel" 151 ⟨"LightingDeskModel", "levelAt", "(III)I"⟩ ∈ uWS := uWS_mem (tm4 (List.mem_of_getElem? (i := 155) rfl)) rfl
theorem t4_157 : Cond.instanceMethod ⟨"LightingDeskModel", "levelAt", "(III)I"⟩ ∈ uWS := uWS_mem (tm4 (List.mem_of_getElem? (i := 157) rfl)) rfl
theorem t4_158 : Cond.code ⟨"LightingDeskModel", "levelAt", "(III)I"⟩ prog_8_method_39_code 5 (some .int) ∈ uWS := uWS_mem (tm4 (List.mem_of_getElem? (i := 158) rfl)) rfl
theorem t4_159 : Cond.methodLink "LightingDeskLaw" 129 ⟨"LightingDeskModel", "master", "(II)Z"⟩ ∈ uWS := uWS_mem (tm4 (List.mem_of_getElem? (i := 159) rfl)) rfl
theorem t4_160 : Cond.instanceMethod ⟨"LightingDeskModel", "master", "(II)Z"⟩ ∈ uWS := uWS_mem (tm4 (List.mem_of_getElem? (i := 160) rfl)) rfl
theorem t4_161 : Cond.selects "LightingDeskModel" ⟨"LightingDeskModel", "master", "(II)Z"⟩ ⟨"LightingDeskModel", "master", "(II)Z"⟩ ∈ uWS := uWS_mem (tm4 (List.mem_of_getElem? (i := 161) rfl)) rfl
theorem t4_162 : Cond.code ⟨"LightingDeskModel", "master", "(II)Z"⟩ prog_8_method_44_code 3 (some .boolean) ∈ uWS := uWS_mem (tm4 (List.mem_of_getElem? (i := 162) rfl)) rfl
theorem t4_163 : Cond.methodLink "LightingDeskLaw" 132 ⟨"LightingDeskModel", "out", "(II)I"⟩ ∈ uWS := uWS_mem (tm4 (List.mem_of_getElem? (i := 163) rfl)) rfl
theorem t4_164 : Cond.instanceMethod ⟨"LightingDeskModel", "out", "(II)I"⟩ ∈ uWS := uWS_mem (tm4 (List.mem_of_getElem? (i := 164) rfl)) rfl
theorem t4_165 : Cond.selects "LightingDeskModel" ⟨"LightingDeskModel", "out", "(II)I"⟩ ⟨"LightingDeskModel", "out", "(II)I"⟩ ∈ uWS := uWS_mem (tm4 (List.mem_of_getElem? (i := 165) rfl)) rfl
theorem t4_166 : Cond.code ⟨"LightingDeskModel", "out", "(II)I"⟩ prog_8_method_46_code 4 (some .int) ∈ uWS := uWS_mem (tm4 (List.mem_of_getElem? (i := 166) rfl)) rfl
theorem t4_167 : Cond.methodLink "LightingDeskModel" 170 ⟨"LightingDeskModel", "merged", "(I)I"⟩ ∈ uWS := uWS_mem (tm4 (List.mem_of_getElem? (i := 167) rfl)) rfl
theorem t4_169 : Cond.instanceMethod ⟨"LightingDeskModel", "merged", "(I)I"⟩ ∈ uWS := uWS_mem (tm4 (List.mem_of_getElem? (i := 169) rfl)) rfl
theorem t4_170 : Cond.code ⟨"LightingDeskModel", "merged", "(I)I"⟩ prog_8_method_45_code 7 (some .int) ∈ uWS := uWS_mem (tm4 (List.mem_of_getElem? (i := 170) rfl)) rfl
theorem t4_171 : Cond.methodLink "LightingDeskLaw" 135 ⟨"LightingDeskModel", "playback", "(II)I"⟩ ∈ uWS := uWS_mem (tm4 (List.mem_of_getElem? (i := 171) rfl)) rfl
theorem t4_172 : Cond.instanceMethod ⟨"LightingDeskModel", "playback", "(II)I"⟩ ∈ uWS := uWS_mem (tm4 (List.mem_of_getElem? (i := 172) rfl)) rfl
theorem t4_173 : Cond.selects "LightingDeskModel" ⟨"LightingDeskModel", "playback", "(II)I"⟩ ⟨"LightingDeskModel", "playback", "(II)I"⟩ ∈ uWS := uWS_mem (tm4 (List.mem_of_getElem? (i := 173) rfl)) rfl
theorem t4_174 : Cond.code ⟨"LightingDeskModel", "playback", "(II)I"⟩ prog_8_method_47_code 3 (some .int) ∈ uWS := uWS_mem (tm4 (List.mem_of_getElem? (i := 174) rfl)) rfl
theorem t4_175 : Cond.methodLink "LightingDeskLaw" 139 ⟨"LightingDeskModel", "count", "(I)I"⟩ ∈ uWS := uWS_mem (tm4 (List.mem_of_getElem? (i := 175) rfl)) rfl
theorem t4_176 : Cond.instanceMethod ⟨"LightingDeskModel", "count", "(I)I"⟩ ∈ uWS := uWS_mem (tm4 (List.mem_of_getElem? (i := 176) rfl)) rfl
theorem t4_177 : Cond.selects "LightingDeskModel" ⟨"LightingDeskModel", "count", "(I)I"⟩ ⟨"LightingDeskModel", "count", "(I)I"⟩ ∈ uWS := uWS_mem (tm4 (List.mem_of_getElem? (i := 177) rfl)) rfl
theorem t4_178 : Cond.code ⟨"LightingDeskModel", "count", "(I)I"⟩ prog_8_method_48_code 4 (some .int) ∈ uWS := uWS_mem (tm4 (List.mem_of_getElem? (i := 178) rfl)) rfl
theorem t4_179 : Cond.arrayClass .long ∈ uWS := uWS_mem (tm4 (List.mem_of_getElem? (i := 179) rfl)) rfl
theorem tp_0 : Cond.selects "LightingDesk$CueBook" ⟨"LightingDesk$CueBook", "placeFor", "(II)I"⟩ ⟨"LightingDesk$CueBook", "placeFor", "(II)I"⟩ ∈ uWS := uWS_mem (List.mem_append_left _ (List.mem_of_getElem? (i := 0) rfl)) rfl
theorem tp_1 : Cond.selects "LightingDesk$CueBook" ⟨"LightingDesk$CueBook", "isIn", "(II)Z"⟩ ⟨"LightingDesk$CueBook", "isIn", "(II)Z"⟩ ∈ uWS := uWS_mem (List.mem_append_left _ (List.mem_of_getElem? (i := 1) rfl)) rfl
theorem tp_3 : Cond.selects "LightingDesk$CueBook" ⟨"LightingDesk$CueBook", "insert", "(III)V"⟩ ⟨"LightingDesk$CueBook", "insert", "(III)V"⟩ ∈ uWS := uWS_mem (List.mem_append_left _ (List.mem_of_getElem? (i := 3) rfl)) rfl
theorem tp_4 : Cond.selects "LightingDesk$CueBook" ⟨"LightingDesk$CueBook", "keepChannels", "(ILLightingDesk$ValueRow;)V"⟩ ⟨"LightingDesk$CueBook", "keepChannels", "(ILLightingDesk$ValueRow;)V"⟩ ∈ uWS := uWS_mem (List.mem_append_left _ (List.mem_of_getElem? (i := 4) rfl)) rfl
theorem tp_5 : Cond.selects "LightingDesk$CueBook" ⟨"LightingDesk$CueBook", "putAll", "(ILLightingDesk$ValueRow;)V"⟩ ⟨"LightingDesk$CueBook", "putAll", "(ILLightingDesk$ValueRow;)V"⟩ ∈ uWS := uWS_mem (List.mem_append_left _ (List.mem_of_getElem? (i := 5) rfl)) rfl
theorem tp_6 : Cond.selects "LightingDesk" ⟨"LightingDesk", "placeOrThrow", "(II)I"⟩ ⟨"LightingDesk", "placeOrThrow", "(II)I"⟩ ∈ uWS := uWS_mem (List.mem_append_left _ (List.mem_of_getElem? (i := 6) rfl)) rfl
theorem tp_7 : Cond.selects "LightingDesk$CueBook" ⟨"LightingDesk$CueBook", "takeOut", "(I)V"⟩ ⟨"LightingDesk$CueBook", "takeOut", "(I)V"⟩ ∈ uWS := uWS_mem (List.mem_append_left _ (List.mem_of_getElem? (i := 7) rfl)) rfl
theorem tp_8 : Cond.selects "LightingDesk" ⟨"LightingDesk", "isTellable", "(I)Z"⟩ ⟨"LightingDesk", "isTellable", "(I)Z"⟩ ∈ uWS := uWS_mem (List.mem_append_left _ (List.mem_of_getElem? (i := 8) rfl)) rfl
theorem tp_9 : Cond.selects "LightingDesk" ⟨"LightingDesk", "tell", "(I)V"⟩ ⟨"LightingDesk", "tell", "(I)V"⟩ ∈ uWS := uWS_mem (List.mem_append_left _ (List.mem_of_getElem? (i := 9) rfl)) rfl
theorem tp_10 : Cond.selects "LightingDesk" ⟨"LightingDesk", "earliestDue", "(I)I"⟩ ⟨"LightingDesk", "earliestDue", "(I)I"⟩ ∈ uWS := uWS_mem (List.mem_append_left _ (List.mem_of_getElem? (i := 10) rfl)) rfl
theorem tp_11 : Cond.selects "LightingDesk" ⟨"LightingDesk", "followOn", "(LLightingDesk$Player;)V"⟩ ⟨"LightingDesk", "followOn", "(LLightingDesk$Player;)V"⟩ ∈ uWS := uWS_mem (List.mem_append_left _ (List.mem_of_getElem? (i := 11) rfl)) rfl
theorem tp_12 : Cond.selects "LightingDesk" ⟨"LightingDesk", "startCue", "(LLightingDesk$Player;II)V"⟩ ⟨"LightingDesk", "startCue", "(LLightingDesk$Player;II)V"⟩ ∈ uWS := uWS_mem (List.mem_append_left _ (List.mem_of_getElem? (i := 12) rfl)) rfl
theorem tp_13 : Cond.selects "LightingDesk" ⟨"LightingDesk", "latestLevel", "(I)I"⟩ ⟨"LightingDesk", "latestLevel", "(I)I"⟩ ∈ uWS := uWS_mem (List.mem_append_left _ (List.mem_of_getElem? (i := 13) rfl)) rfl
theorem tp_14 : Cond.selects "LightingDesk" ⟨"LightingDesk", "greatestLevel", "(I)I"⟩ ⟨"LightingDesk", "greatestLevel", "(I)I"⟩ ∈ uWS := uWS_mem (List.mem_append_left _ (List.mem_of_getElem? (i := 14) rfl)) rfl
theorem tp_15 : Cond.selects "LightingDeskModel" ⟨"LightingDeskModel", "find", "(II)I"⟩ ⟨"LightingDeskModel", "find", "(II)I"⟩ ∈ uWS := uWS_mem (List.mem_append_left _ (List.mem_of_getElem? (i := 15) rfl)) rfl
theorem tp_16 : Cond.selects "LightingDeskModel" ⟨"LightingDeskModel", "above", "(II)I"⟩ ⟨"LightingDeskModel", "above", "(II)I"⟩ ∈ uWS := uWS_mem (List.mem_append_left _ (List.mem_of_getElem? (i := 16) rfl)) rfl
theorem tp_17 : Cond.selects "LightingDeskModel" ⟨"LightingDeskModel", "moveOf", "(II)I"⟩ ⟨"LightingDeskModel", "moveOf", "(II)I"⟩ ∈ uWS := uWS_mem (List.mem_append_left _ (List.mem_of_getElem? (i := 17) rfl)) rfl
theorem tp_18 : Cond.selects "LightingDeskModel" ⟨"LightingDeskModel", "cueCount", "()I"⟩ ⟨"LightingDeskModel", "cueCount", "()I"⟩ ∈ uWS := uWS_mem (List.mem_append_left _ (List.mem_of_getElem? (i := 18) rfl)) rfl
theorem tp_19 : Cond.selects "LightingDeskModel" ⟨"LightingDeskModel", "moveCount", "()I"⟩ ⟨"LightingDeskModel", "moveCount", "()I"⟩ ∈ uWS := uWS_mem (List.mem_append_left _ (List.mem_of_getElem? (i := 19) rfl)) rfl
theorem tp_20 : Cond.selects "LightingDeskModel" ⟨"LightingDeskModel", "movesOf", "(I)I"⟩ ⟨"LightingDeskModel", "movesOf", "(I)I"⟩ ∈ uWS := uWS_mem (List.mem_append_left _ (List.mem_of_getElem? (i := 20) rfl)) rfl
theorem tp_21 : Cond.selects "LightingDeskModel" ⟨"LightingDeskModel", "keptMoves", "(I)I"⟩ ⟨"LightingDeskModel", "keptMoves", "(I)I"⟩ ∈ uWS := uWS_mem (List.mem_append_left _ (List.mem_of_getElem? (i := 21) rfl)) rfl
theorem tp_22 : Cond.selects "LightingDeskModel" ⟨"LightingDeskModel", "note", "(I)V"⟩ ⟨"LightingDeskModel", "note", "(I)V"⟩ ∈ uWS := uWS_mem (List.mem_append_left _ (List.mem_of_getElem? (i := 22) rfl)) rfl
theorem tp_23 : Cond.selects "LightingDeskModel" ⟨"LightingDeskModel", "tracked", "(III)I"⟩ ⟨"LightingDeskModel", "tracked", "(III)I"⟩ ∈ uWS := uWS_mem (List.mem_append_left _ (List.mem_of_getElem? (i := 23) rfl)) rfl
theorem tp_24 : Cond.selects "LightingDeskModel" ⟨"LightingDeskModel", "sourceOf", "(III)I"⟩ ⟨"LightingDeskModel", "sourceOf", "(III)I"⟩ ∈ uWS := uWS_mem (List.mem_append_left _ (List.mem_of_getElem? (i := 24) rfl)) rfl
theorem tp_25 : Cond.selects "LightingDeskModel" ⟨"LightingDeskModel", "below", "(II)I"⟩ ⟨"LightingDeskModel", "below", "(II)I"⟩ ∈ uWS := uWS_mem (List.mem_append_left _ (List.mem_of_getElem? (i := 25) rfl)) rfl
theorem tp_26 : Cond.selects "LightingDeskModel" ⟨"LightingDeskModel", "make", "(II)I"⟩ ⟨"LightingDeskModel", "make", "(II)I"⟩ ∈ uWS := uWS_mem (List.mem_append_left _ (List.mem_of_getElem? (i := 26) rfl)) rfl
theorem tp_27 : Cond.selects "LightingDeskModel" ⟨"LightingDeskModel", "put", "(III)V"⟩ ⟨"LightingDeskModel", "put", "(III)V"⟩ ∈ uWS := uWS_mem (List.mem_append_left _ (List.mem_of_getElem? (i := 27) rfl)) rfl
theorem tp_28 : Cond.selects "LightingDeskModel" ⟨"LightingDeskModel", "keep", "(II)V"⟩ ⟨"LightingDeskModel", "keep", "(II)V"⟩ ∈ uWS := uWS_mem (List.mem_append_left _ (List.mem_of_getElem? (i := 28) rfl)) rfl
theorem tp_29 : Cond.selects "LightingDeskModel" ⟨"LightingDeskModel", "has", "(II)Z"⟩ ⟨"LightingDeskModel", "has", "(II)Z"⟩ ∈ uWS := uWS_mem (List.mem_append_left _ (List.mem_of_getElem? (i := 29) rfl)) rfl
theorem tp_30 : Cond.selects "LightingDeskModel" ⟨"LightingDeskModel", "lookOf", "(III)I"⟩ ⟨"LightingDeskModel", "lookOf", "(III)I"⟩ ∈ uWS := uWS_mem (List.mem_append_left _ (List.mem_of_getElem? (i := 30) rfl)) rfl
theorem tp_31 : Cond.selects "LightingDeskModel" ⟨"LightingDeskModel", "levelOf", "(II)I"⟩ ⟨"LightingDeskModel", "levelOf", "(II)I"⟩ ∈ uWS := uWS_mem (List.mem_append_left _ (List.mem_of_getElem? (i := 31) rfl)) rfl
theorem tp_32 : Cond.selects "LightingDeskModel" ⟨"LightingDeskModel", "isTick", "(I)Z"⟩ ⟨"LightingDeskModel", "isTick", "(I)Z"⟩ ∈ uWS := uWS_mem (List.mem_append_left _ (List.mem_of_getElem? (i := 32) rfl)) rfl
theorem tp_33 : Cond.selects "LightingDeskModel" ⟨"LightingDeskModel", "tell", "(I)V"⟩ ⟨"LightingDeskModel", "tell", "(I)V"⟩ ∈ uWS := uWS_mem (List.mem_append_left _ (List.mem_of_getElem? (i := 33) rfl)) rfl
theorem tp_34 : Cond.selects "LightingDeskModel" ⟨"LightingDeskModel", "start", "(III)V"⟩ ⟨"LightingDeskModel", "start", "(III)V"⟩ ∈ uWS := uWS_mem (List.mem_append_left _ (List.mem_of_getElem? (i := 34) rfl)) rfl
theorem tp_35 : Cond.selects "LightingDeskModel" ⟨"LightingDeskModel", "levelAt", "(III)I"⟩ ⟨"LightingDeskModel", "levelAt", "(III)I"⟩ ∈ uWS := uWS_mem (List.mem_append_left _ (List.mem_of_getElem? (i := 35) rfl)) rfl
theorem tp_36 : Cond.selects "LightingDeskModel" ⟨"LightingDeskModel", "merged", "(I)I"⟩ ⟨"LightingDeskModel", "merged", "(I)I"⟩ ∈ uWS := uWS_mem (List.mem_append_left _ (List.mem_of_getElem? (i := 36) rfl)) rfl
