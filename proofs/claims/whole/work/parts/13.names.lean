/-! NAMES: classes, fields, methods (printed by wip/gen/gen_names2.py) -/
def R_D : String := "LightingDesk"
def R_V : String := "LightingDesk$ValueRow"
def R_P : String := "LightingDesk$PaletteBox"
def R_B : String := "LightingDesk$CueBook"
def R_C : String := "LightingDesk$Cue"
def R_Y : String := "LightingDesk$Player"
def R_M : String := "LightingDeskModel"
def R_L : String := "LightingDeskLaw"
def R_JL : String := "java/lang/Long"
def R_JM : String := "java/lang/Math"
def R_JA : String := "java/util/Arrays"
def F_V : u_T := fun k => match k with
  | 0 => ("LightingDesk$ValueRow", "values", "[I", true)
  | _ => ("LightingDesk$ValueRow", "held", "I", false)
def ty_V : Nat → FieldType := fun k => match k with
  | 0 => .array .int
  | _ => .int
theorem nm_V : ∀ a, a < 2 → ∀ b, b < 2 → a ≠ b → (F_V a).2.1 ≠ (F_V b).2.1 := by decide +kernel
theorem tyk_V : ∀ k, k < 2 → parseFieldDescriptor (F_V k).2.2.1 = some (ty_V k) := by decide +kernel
theorem in_V : ∀ w ∈ u_ws R_V F_V 2, w ∈ uWS := by
  intro w h
  obtain ⟨k, hk, rfl⟩ := List.mem_map.mp h
  have hk := List.mem_range.mp hk
  rcases (by omega : k = 0 ∨ k = 1) with rfl | rfl
  · exact t1_40
  · exact t1_42
def F_P : u_T := fun k => match k with
  | _ => ("LightingDesk$PaletteBox", "levels", "[I", true)
def ty_P : Nat → FieldType := fun k => match k with
  | _ => .array .int
theorem nm_P : ∀ a, a < 1 → ∀ b, b < 1 → a ≠ b → (F_P a).2.1 ≠ (F_P b).2.1 := by decide +kernel
theorem tyk_P : ∀ k, k < 1 → parseFieldDescriptor (F_P k).2.2.1 = some (ty_P k) := by decide +kernel
theorem in_P : ∀ w ∈ u_ws R_P F_P 1, w ∈ uWS := by
  intro w h
  obtain ⟨k, hk, rfl⟩ := List.mem_map.mp h
  have hk := List.mem_range.mp hk
  rcases (by omega : k = 0) with rfl
  · exact t1_55
def F_C : u_T := fun k => match k with
  | 0 => ("LightingDesk$Cue", "moves", "LLightingDesk$ValueRow;", true)
  | 1 => ("LightingDesk$Cue", "list", "I", false)
  | 2 => ("LightingDesk$Cue", "number", "I", false)
  | 3 => ("LightingDesk$Cue", "up", "I", false)
  | 4 => ("LightingDesk$Cue", "down", "I", false)
  | 5 => ("LightingDesk$Cue", "delay", "I", false)
  | _ => ("LightingDesk$Cue", "follow", "I", false)
def ty_C : Nat → FieldType := fun k => match k with
  | 0 => .object "LightingDesk$ValueRow"
  | 1 => .int
  | 2 => .int
  | 3 => .int
  | 4 => .int
  | 5 => .int
  | _ => .int
theorem nm_C : ∀ a, a < 7 → ∀ b, b < 7 → a ≠ b → (F_C a).2.1 ≠ (F_C b).2.1 := by decide +kernel
theorem tyk_C : ∀ k, k < 7 → parseFieldDescriptor (F_C k).2.2.1 = some (ty_C k) := by decide +kernel
theorem in_C : ∀ w ∈ u_ws R_C F_C 7, w ∈ uWS := by
  intro w h
  obtain ⟨k, hk, rfl⟩ := List.mem_map.mp h
  have hk := List.mem_range.mp hk
  rcases (by omega : k = 0 ∨ k = 1 ∨ k = 2 ∨ k = 3 ∨ k = 4 ∨ k = 5 ∨ k = 6) with rfl | rfl | rfl | rfl | rfl | rfl | rfl
  · exact t1_91
  · exact t1_93
  · exact t1_95
  · exact t1_97
  · exact t1_99
  · exact t1_101
  · exact t1_103
def F_B : u_T := fun k => match k with
  | 0 => ("LightingDesk$CueBook", "cues", "[LLightingDesk$Cue;", true)
  | _ => ("LightingDesk$CueBook", "size", "I", false)
def ty_B : Nat → FieldType := fun k => match k with
  | 0 => .array (.object "LightingDesk$Cue")
  | _ => .int
theorem nm_B : ∀ a, a < 2 → ∀ b, b < 2 → a ≠ b → (F_B a).2.1 ≠ (F_B b).2.1 := by decide +kernel
theorem tyk_B : ∀ k, k < 2 → parseFieldDescriptor (F_B k).2.2.1 = some (ty_B k) := by decide +kernel
theorem in_B : ∀ w ∈ u_ws R_B F_B 2, w ∈ uWS := by
  intro w h
  obtain ⟨k, hk, rfl⟩ := List.mem_map.mp h
  have hk := List.mem_range.mp hk
  rcases (by omega : k = 0 ∨ k = 1) with rfl | rfl
  · exact t1_109
  · exact t1_111
def F_Y : u_T := fun k => match k with
  | 0 => ("LightingDesk$Player", "from", "[I", true)
  | 1 => ("LightingDesk$Player", "to", "[I", true)
  | 2 => ("LightingDesk$Player", "begin", "[I", true)
  | 3 => ("LightingDesk$Player", "length", "[I", true)
  | 4 => ("LightingDesk$Player", "lookTicks", "[I", true)
  | 5 => ("LightingDesk$Player", "list", "I", false)
  | 6 => ("LightingDesk$Player", "master", "I", false)
  | 7 => ("LightingDesk$Player", "current", "I", false)
  | 8 => ("LightingDesk$Player", "startTick", "I", false)
  | _ => ("LightingDesk$Player", "followOn", "I", false)
def ty_Y : Nat → FieldType := fun k => match k with
  | 0 => .array .int
  | 1 => .array .int
  | 2 => .array .int
  | 3 => .array .int
  | 4 => .array .int
  | 5 => .int
  | 6 => .int
  | 7 => .int
  | 8 => .int
  | _ => .int
theorem nm_Y : ∀ a, a < 10 → ∀ b, b < 10 → a ≠ b → (F_Y a).2.1 ≠ (F_Y b).2.1 := by decide +kernel
theorem tyk_Y : ∀ k, k < 10 → parseFieldDescriptor (F_Y k).2.2.1 = some (ty_Y k) := by decide +kernel
theorem in_Y : ∀ w ∈ u_ws R_Y F_Y 10, w ∈ uWS := by
  intro w h
  obtain ⟨k, hk, rfl⟩ := List.mem_map.mp h
  have hk := List.mem_range.mp hk
  rcases (by omega : k = 0 ∨ k = 1 ∨ k = 2 ∨ k = 3 ∨ k = 4 ∨ k = 5 ∨ k = 6 ∨ k = 7 ∨ k = 8 ∨ k = 9) with rfl | rfl | rfl | rfl | rfl | rfl | rfl | rfl | rfl | rfl
  · exact t1_137
  · exact t1_139
  · exact t1_141
  · exact t1_143
  · exact t1_145
  · exact t1_147
  · exact t1_149
  · exact t1_151
  · exact t1_153
  · exact t1_155
def F_D : u_T := fun k => match k with
  | 0 => ("LightingDesk", "attributes", "[Z", true)
  | 1 => ("LightingDesk", "programmer", "LLightingDesk$ValueRow;", true)
  | 2 => ("LightingDesk", "palettes", "LLightingDesk$PaletteBox;", true)
  | 3 => ("LightingDesk", "book", "LLightingDesk$CueBook;", true)
  | 4 => ("LightingDesk", "players", "[LLightingDesk$Player;", true)
  | 5 => ("LightingDesk", "now", "I", false)
  | _ => ("LightingDesk", "started", "I", false)
def ty_D : Nat → FieldType := fun k => match k with
  | 0 => .array .boolean
  | 1 => .object "LightingDesk$ValueRow"
  | 2 => .object "LightingDesk$PaletteBox"
  | 3 => .object "LightingDesk$CueBook"
  | 4 => .array (.object "LightingDesk$Player")
  | 5 => .int
  | _ => .int
theorem nm_D : ∀ a, a < 7 → ∀ b, b < 7 → a ≠ b → (F_D a).2.1 ≠ (F_D b).2.1 := by decide +kernel
theorem tyk_D : ∀ k, k < 7 → parseFieldDescriptor (F_D k).2.2.1 = some (ty_D k) := by decide +kernel
theorem in_D : ∀ w ∈ u_ws R_D F_D 7, w ∈ uWS := by
  intro w h
  obtain ⟨k, hk, rfl⟩ := List.mem_map.mp h
  have hk := List.mem_range.mp hk
  rcases (by omega : k = 0 ∨ k = 1 ∨ k = 2 ∨ k = 3 ∨ k = 4 ∨ k = 5 ∨ k = 6) with rfl | rfl | rfl | rfl | rfl | rfl | rfl
  · exact t1_165
  · exact t1_167
  · exact t1_169
  · exact t1_171
  · exact t1_173
  · exact t1_175
  · exact t1_177
def F_M : u_T := fun k => match k with
  | 0 => ("LightingDeskModel", "thrown", "I", false)
  | 1 => ("LightingDeskModel", "attribute", "[Z", true)
  | 2 => ("LightingDeskModel", "programmer", "[S", true)
  | 3 => ("LightingDeskModel", "palettes", "[S", true)
  | 4 => ("LightingDeskModel", "lists", "[I", true)
  | 5 => ("LightingDeskModel", "numbers", "[I", true)
  | 6 => ("LightingDeskModel", "ups", "[I", true)
  | 7 => ("LightingDeskModel", "downs", "[I", true)
  | 8 => ("LightingDeskModel", "waits", "[I", true)
  | 9 => ("LightingDeskModel", "follows", "[I", true)
  | 10 => ("LightingDeskModel", "moves", "[S", true)
  | 11 => ("LightingDeskModel", "kept", "[S", true)
  | 12 => ("LightingDeskModel", "told", "[I", true)
  | 13 => ("LightingDeskModel", "masters", "[I", true)
  | 14 => ("LightingDeskModel", "current", "[I", true)
  | 15 => ("LightingDeskModel", "started", "[I", true)
  | 16 => ("LightingDeskModel", "followOn", "[I", true)
  | 17 => ("LightingDeskModel", "from", "[S", true)
  | 18 => ("LightingDeskModel", "to", "[S", true)
  | 19 => ("LightingDeskModel", "begins", "[I", true)
  | 20 => ("LightingDeskModel", "lasts", "[I", true)
  | 21 => ("LightingDeskModel", "looked", "[I", true)
  | 22 => ("LightingDeskModel", "now", "I", false)
  | _ => ("LightingDeskModel", "starts", "I", false)
def ty_M : Nat → FieldType := fun k => match k with
  | 0 => .int
  | 1 => .array .boolean
  | 2 => .array .short
  | 3 => .array .short
  | 4 => .array .int
  | 5 => .array .int
  | 6 => .array .int
  | 7 => .array .int
  | 8 => .array .int
  | 9 => .array .int
  | 10 => .array .short
  | 11 => .array .short
  | 12 => .array .int
  | 13 => .array .int
  | 14 => .array .int
  | 15 => .array .int
  | 16 => .array .int
  | 17 => .array .short
  | 18 => .array .short
  | 19 => .array .int
  | 20 => .array .int
  | 21 => .array .int
  | 22 => .int
  | _ => .int
theorem nm_M : ∀ a, a < 24 → ∀ b, b < 24 → a ≠ b → (F_M a).2.1 ≠ (F_M b).2.1 := by decide +kernel
theorem tyk_M : ∀ k, k < 24 → parseFieldDescriptor (F_M k).2.2.1 = some (ty_M k) := by decide +kernel
theorem in_M : ∀ w ∈ u_ws R_M F_M 24, w ∈ uWS := by
  intro w h
  obtain ⟨k, hk, rfl⟩ := List.mem_map.mp h
  have hk := List.mem_range.mp hk
  rcases (by omega : k = 0 ∨ k = 1 ∨ k = 2 ∨ k = 3 ∨ k = 4 ∨ k = 5 ∨ k = 6 ∨ k = 7 ∨ k = 8 ∨ k = 9 ∨ k = 10 ∨ k = 11 ∨ k = 12 ∨ k = 13 ∨ k = 14 ∨ k = 15 ∨ k = 16 ∨ k = 17 ∨ k = 18 ∨ k = 19 ∨ k = 20 ∨ k = 21 ∨ k = 22 ∨ k = 23) with rfl | rfl | rfl | rfl | rfl | rfl | rfl | rfl | rfl | rfl | rfl | rfl | rfl | rfl | rfl | rfl | rfl | rfl | rfl | rfl | rfl | rfl | rfl | rfl
  · exact t3_184
  · exact t3_186
  · exact t3_188
  · exact t3_190
  · exact t3_192
  · exact t3_194
  · exact t3_196
  · exact t3_198
  · exact t3_200
  · exact t3_202
  · exact t3_204
  · exact t3_206
  · exact t3_208
  · exact t3_210
  · exact t3_212
  · exact t3_214
  · exact t3_216
  · exact t3_218
  · exact t3_220
  · exact t3_222
  · exact t3_224
  · exact t3_226
  · exact t3_228
  · exact t3_230
abbrev clsAll : List vw_C := [(R_V, F_V, 2), (R_P, F_P, 1), (R_C, F_C, 7), (R_B, F_B, 2), (R_Y, F_Y, 10), (R_D, F_D, 7), (R_M, F_M, 24)]
abbrev y_D_init : MethodName := ⟨"LightingDesk", "<init>", "()V"⟩
abbrev b_D_init : ByteArray := prog_1_method_1_code
abbrev y_D_kind : MethodName := ⟨"LightingDesk", "kind", "(IZ)Z"⟩
abbrev b_D_kind : ByteArray := prog_1_method_2_code
abbrev y_D_set : MethodName := ⟨"LightingDesk", "set", "(II)Z"⟩
abbrev b_D_set : ByteArray := prog_1_method_3_code
abbrev y_D_use : MethodName := ⟨"LightingDesk", "use", "(II)Z"⟩
abbrev b_D_use : ByteArray := prog_1_method_4_code
abbrev y_D_release : MethodName := ⟨"LightingDesk", "release", "(I)I"⟩
abbrev b_D_release : ByteArray := prog_1_method_5_code
abbrev y_D_palette : MethodName := ⟨"LightingDesk", "palette", "(III)Z"⟩
abbrev b_D_palette : ByteArray := prog_1_method_6_code
abbrev y_D_record : MethodName := ⟨"LightingDesk", "record", "(IIZ)I"⟩
abbrev b_D_record : ByteArray := prog_1_method_7_code
abbrev y_D_update : MethodName := ⟨"LightingDesk", "update", "(II)I"⟩
abbrev b_D_update : ByteArray := prog_1_method_8_code
abbrev y_D_delete : MethodName := ⟨"LightingDesk", "delete", "(IIZ)I"⟩
abbrev b_D_delete : ByteArray := prog_1_method_9_code
abbrev y_D_block : MethodName := ⟨"LightingDesk", "block", "(IIZ)I"⟩
abbrev b_D_block : ByteArray := prog_1_method_10_code
abbrev y_D_times : MethodName := ⟨"LightingDesk", "times", "(IIII)Z"⟩
abbrev b_D_times : ByteArray := prog_1_method_11_code
abbrev y_D_delays : MethodName := ⟨"LightingDesk", "delays", "(IIII)Z"⟩
abbrev b_D_delays : ByteArray := prog_1_method_12_code
abbrev y_D_look : MethodName := ⟨"LightingDesk", "look", "(III)I"⟩
abbrev b_D_look : ByteArray := prog_1_method_13_code
abbrev y_D_source : MethodName := ⟨"LightingDesk", "source", "(III)I"⟩
abbrev b_D_source : ByteArray := prog_1_method_14_code
abbrev y_D_cue : MethodName := ⟨"LightingDesk", "cue", "(III)I"⟩
abbrev b_D_cue : ByteArray := prog_1_method_15_code
abbrev y_D_assign : MethodName := ⟨"LightingDesk", "assign", "(II)Z"⟩
abbrev b_D_assign : ByteArray := prog_1_method_16_code
abbrev y_D_go : MethodName := ⟨"LightingDesk", "go", "(IZI)I"⟩
abbrev b_D_go : ByteArray := prog_1_method_17_code
abbrev y_D_master : MethodName := ⟨"LightingDesk", "master", "(II)Z"⟩
abbrev b_D_master : ByteArray := prog_1_method_18_code
abbrev y_D_out : MethodName := ⟨"LightingDesk", "out", "(II)I"⟩
abbrev b_D_out : ByteArray := prog_1_method_19_code
abbrev y_D_playback : MethodName := ⟨"LightingDesk", "playback", "(II)I"⟩
abbrev b_D_playback : ByteArray := prog_1_method_20_code
abbrev y_D_count : MethodName := ⟨"LightingDesk", "count", "(I)I"⟩
abbrev b_D_count : ByteArray := prog_1_method_21_code
abbrev y_D_isChannel : MethodName := ⟨"LightingDesk", "isChannel", "(I)Z"⟩
abbrev b_D_isChannel : ByteArray := prog_1_method_22_code
abbrev y_D_isLevel : MethodName := ⟨"LightingDesk", "isLevel", "(I)Z"⟩
abbrev b_D_isLevel : ByteArray := prog_1_method_23_code
abbrev y_D_isPalette : MethodName := ⟨"LightingDesk", "isPalette", "(I)Z"⟩
abbrev b_D_isPalette : ByteArray := prog_1_method_24_code
abbrev y_D_isList : MethodName := ⟨"LightingDesk", "isList", "(I)Z"⟩
abbrev b_D_isList : ByteArray := prog_1_method_25_code
abbrev y_D_isNumber : MethodName := ⟨"LightingDesk", "isNumber", "(I)Z"⟩
abbrev b_D_isNumber : ByteArray := prog_1_method_26_code
abbrev y_D_isPlayback : MethodName := ⟨"LightingDesk", "isPlayback", "(I)Z"⟩
abbrev b_D_isPlayback : ByteArray := prog_1_method_27_code
abbrev y_D_isTime : MethodName := ⟨"LightingDesk", "isTime", "(I)Z"⟩
abbrev b_D_isTime : ByteArray := prog_1_method_28_code
abbrev y_D_placeOrThrow : MethodName := ⟨"LightingDesk", "placeOrThrow", "(II)I"⟩
abbrev b_D_placeOrThrow : ByteArray := prog_1_method_29_code
abbrev y_D_isTellable : MethodName := ⟨"LightingDesk", "isTellable", "(I)Z"⟩
abbrev b_D_isTellable : ByteArray := prog_1_method_30_code
abbrev y_D_tell : MethodName := ⟨"LightingDesk", "tell", "(I)V"⟩
abbrev b_D_tell : ByteArray := prog_1_method_31_code
abbrev y_D_earliestDue : MethodName := ⟨"LightingDesk", "earliestDue", "(I)I"⟩
abbrev b_D_earliestDue : ByteArray := prog_1_method_32_code
abbrev y_D_followOn : MethodName := ⟨"LightingDesk", "followOn", "(LLightingDesk$Player;)V"⟩
abbrev b_D_followOn : ByteArray := prog_1_method_33_code
abbrev y_D_startCue : MethodName := ⟨"LightingDesk", "startCue", "(LLightingDesk$Player;II)V"⟩
abbrev b_D_startCue : ByteArray := prog_1_method_34_code
abbrev y_D_greatestLevel : MethodName := ⟨"LightingDesk", "greatestLevel", "(I)I"⟩
abbrev b_D_greatestLevel : ByteArray := prog_1_method_35_code
abbrev y_D_latestLevel : MethodName := ⟨"LightingDesk", "latestLevel", "(I)I"⟩
abbrev b_D_latestLevel : ByteArray := prog_1_method_36_code
abbrev y_M_init : MethodName := ⟨"LightingDeskModel", "<init>", "()V"⟩
abbrev b_M_init : ByteArray := prog_8_method_1_code
abbrev y_M_thrown : MethodName := ⟨"LightingDeskModel", "thrown", "()I"⟩
abbrev b_M_thrown : ByteArray := prog_8_method_2_code
abbrev y_M_isChannel : MethodName := ⟨"LightingDeskModel", "isChannel", "(I)Z"⟩
abbrev b_M_isChannel : ByteArray := prog_8_method_3_code
abbrev y_M_isLevel : MethodName := ⟨"LightingDeskModel", "isLevel", "(I)Z"⟩
abbrev b_M_isLevel : ByteArray := prog_8_method_4_code
abbrev y_M_isTime : MethodName := ⟨"LightingDeskModel", "isTime", "(I)Z"⟩
abbrev b_M_isTime : ByteArray := prog_8_method_5_code
abbrev y_M_isPlayback : MethodName := ⟨"LightingDeskModel", "isPlayback", "(I)Z"⟩
abbrev b_M_isPlayback : ByteArray := prog_8_method_6_code
abbrev y_M_kind : MethodName := ⟨"LightingDeskModel", "kind", "(IZ)Z"⟩
abbrev b_M_kind : ByteArray := prog_8_method_7_code
abbrev y_M_set : MethodName := ⟨"LightingDeskModel", "set", "(II)Z"⟩
abbrev b_M_set : ByteArray := prog_8_method_8_code
abbrev y_M_use : MethodName := ⟨"LightingDeskModel", "use", "(II)Z"⟩
abbrev b_M_use : ByteArray := prog_8_method_9_code
abbrev y_M_release : MethodName := ⟨"LightingDeskModel", "release", "(I)I"⟩
abbrev b_M_release : ByteArray := prog_8_method_10_code
abbrev y_M_palette : MethodName := ⟨"LightingDeskModel", "palette", "(III)Z"⟩
abbrev b_M_palette : ByteArray := prog_8_method_11_code
abbrev y_M_levelOf : MethodName := ⟨"LightingDeskModel", "levelOf", "(II)I"⟩
abbrev b_M_levelOf : ByteArray := prog_8_method_12_code
abbrev y_M_find : MethodName := ⟨"LightingDeskModel", "find", "(II)I"⟩
abbrev b_M_find : ByteArray := prog_8_method_13_code
abbrev y_M_above : MethodName := ⟨"LightingDeskModel", "above", "(II)I"⟩
abbrev b_M_above : ByteArray := prog_8_method_14_code
abbrev y_M_below : MethodName := ⟨"LightingDeskModel", "below", "(II)I"⟩
abbrev b_M_below : ByteArray := prog_8_method_15_code
abbrev y_M_moveOf : MethodName := ⟨"LightingDeskModel", "moveOf", "(II)I"⟩
abbrev b_M_moveOf : ByteArray := prog_8_method_16_code
abbrev y_M_sourceOf : MethodName := ⟨"LightingDeskModel", "sourceOf", "(III)I"⟩
abbrev b_M_sourceOf : ByteArray := prog_8_method_17_code
abbrev y_M_tracked : MethodName := ⟨"LightingDeskModel", "tracked", "(III)I"⟩
abbrev b_M_tracked : ByteArray := prog_8_method_18_code
abbrev y_M_movesOf : MethodName := ⟨"LightingDeskModel", "movesOf", "(I)I"⟩
abbrev b_M_movesOf : ByteArray := prog_8_method_19_code
abbrev y_M_cueCount : MethodName := ⟨"LightingDeskModel", "cueCount", "()I"⟩
abbrev b_M_cueCount : ByteArray := prog_8_method_20_code
abbrev y_M_moveCount : MethodName := ⟨"LightingDeskModel", "moveCount", "()I"⟩
abbrev b_M_moveCount : ByteArray := prog_8_method_21_code
abbrev y_M_put : MethodName := ⟨"LightingDeskModel", "put", "(III)V"⟩
abbrev b_M_put : ByteArray := prog_8_method_22_code
abbrev y_M_note : MethodName := ⟨"LightingDeskModel", "note", "(I)V"⟩
abbrev b_M_note : ByteArray := prog_8_method_23_code
abbrev y_M_keep : MethodName := ⟨"LightingDeskModel", "keep", "(II)V"⟩
abbrev b_M_keep : ByteArray := prog_8_method_24_code
abbrev y_M_keptMoves : MethodName := ⟨"LightingDeskModel", "keptMoves", "(I)I"⟩
abbrev b_M_keptMoves : ByteArray := prog_8_method_25_code
abbrev y_M_make : MethodName := ⟨"LightingDeskModel", "make", "(II)I"⟩
abbrev b_M_make : ByteArray := prog_8_method_26_code
abbrev y_M_record : MethodName := ⟨"LightingDeskModel", "record", "(IIZ)I"⟩
abbrev b_M_record : ByteArray := prog_8_method_27_code
abbrev y_M_has : MethodName := ⟨"LightingDeskModel", "has", "(II)Z"⟩
abbrev b_M_has : ByteArray := prog_8_method_28_code
abbrev y_M_update : MethodName := ⟨"LightingDeskModel", "update", "(II)I"⟩
abbrev b_M_update : ByteArray := prog_8_method_29_code
abbrev y_M_delete : MethodName := ⟨"LightingDeskModel", "delete", "(IIZ)I"⟩
abbrev b_M_delete : ByteArray := prog_8_method_30_code
abbrev y_M_block : MethodName := ⟨"LightingDeskModel", "block", "(IIZ)I"⟩
abbrev b_M_block : ByteArray := prog_8_method_31_code
abbrev y_M_times : MethodName := ⟨"LightingDeskModel", "times", "(IIII)Z"⟩
abbrev b_M_times : ByteArray := prog_8_method_32_code
abbrev y_M_delays : MethodName := ⟨"LightingDeskModel", "delays", "(IIII)Z"⟩
abbrev b_M_delays : ByteArray := prog_8_method_33_code
abbrev y_M_lookOf : MethodName := ⟨"LightingDeskModel", "lookOf", "(III)I"⟩
abbrev b_M_lookOf : ByteArray := prog_8_method_34_code
abbrev y_M_look : MethodName := ⟨"LightingDeskModel", "look", "(III)I"⟩
abbrev b_M_look : ByteArray := prog_8_method_35_code
abbrev y_M_source : MethodName := ⟨"LightingDeskModel", "source", "(III)I"⟩
abbrev b_M_source : ByteArray := prog_8_method_36_code
abbrev y_M_cue : MethodName := ⟨"LightingDeskModel", "cue", "(III)I"⟩
abbrev b_M_cue : ByteArray := prog_8_method_37_code
abbrev y_M_assign : MethodName := ⟨"LightingDeskModel", "assign", "(II)Z"⟩
abbrev b_M_assign : ByteArray := prog_8_method_38_code
abbrev y_M_levelAt : MethodName := ⟨"LightingDeskModel", "levelAt", "(III)I"⟩
abbrev b_M_levelAt : ByteArray := prog_8_method_39_code
abbrev y_M_start : MethodName := ⟨"LightingDeskModel", "start", "(III)V"⟩
abbrev b_M_start : ByteArray := prog_8_method_40_code
abbrev y_M_tell : MethodName := ⟨"LightingDeskModel", "tell", "(I)V"⟩
abbrev b_M_tell : ByteArray := prog_8_method_41_code
abbrev y_M_isTick : MethodName := ⟨"LightingDeskModel", "isTick", "(I)Z"⟩
abbrev b_M_isTick : ByteArray := prog_8_method_42_code
abbrev y_M_go : MethodName := ⟨"LightingDeskModel", "go", "(IZI)I"⟩
abbrev b_M_go : ByteArray := prog_8_method_43_code
abbrev y_M_master : MethodName := ⟨"LightingDeskModel", "master", "(II)Z"⟩
abbrev b_M_master : ByteArray := prog_8_method_44_code
abbrev y_M_merged : MethodName := ⟨"LightingDeskModel", "merged", "(I)I"⟩
abbrev b_M_merged : ByteArray := prog_8_method_45_code
abbrev y_M_out : MethodName := ⟨"LightingDeskModel", "out", "(II)I"⟩
abbrev b_M_out : ByteArray := prog_8_method_46_code
abbrev y_M_playback : MethodName := ⟨"LightingDeskModel", "playback", "(II)I"⟩
abbrev b_M_playback : ByteArray := prog_8_method_47_code
abbrev y_M_count : MethodName := ⟨"LightingDeskModel", "count", "(I)I"⟩
abbrev b_M_count : ByteArray := prog_8_method_48_code
abbrev y_C_init : MethodName := ⟨"LightingDesk$Cue", "<init>", "()V"⟩
abbrev b_C_init : ByteArray := prog_2_method_1_code
abbrev y_C_beginAs : MethodName := ⟨"LightingDesk$Cue", "beginAs", "(II)V"⟩
abbrev b_C_beginAs : ByteArray := prog_2_method_2_code
abbrev y_C_isBefore : MethodName := ⟨"LightingDesk$Cue", "isBefore", "(II)Z"⟩
abbrev b_C_isBefore : ByteArray := prog_2_method_3_code
abbrev y_C_detail : MethodName := ⟨"LightingDesk$Cue", "detail", "(I)I"⟩
abbrev b_C_detail : ByteArray := prog_2_method_4_code
abbrev y_B_init : MethodName := ⟨"LightingDesk$CueBook", "<init>", "()V"⟩
abbrev b_B_init : ByteArray := prog_3_method_1_code
abbrev y_B_at : MethodName := ⟨"LightingDesk$CueBook", "at", "(I)LLightingDesk$Cue;"⟩
abbrev b_B_at : ByteArray := prog_3_method_2_code
abbrev y_B_moveCount : MethodName := ⟨"LightingDesk$CueBook", "moveCount", "()I"⟩
abbrev b_B_moveCount : ByteArray := prog_3_method_3_code
abbrev y_B_firstOf : MethodName := ⟨"LightingDesk$CueBook", "firstOf", "(I)I"⟩
abbrev b_B_firstOf : ByteArray := prog_3_method_4_code
abbrev y_B_lengthOf : MethodName := ⟨"LightingDesk$CueBook", "lengthOf", "(I)I"⟩
abbrev b_B_lengthOf : ByteArray := prog_3_method_5_code
abbrev y_B_find : MethodName := ⟨"LightingDesk$CueBook", "find", "(II)I"⟩
abbrev b_B_find : ByteArray := prog_3_method_6_code
abbrev y_B_placeAbove : MethodName := ⟨"LightingDesk$CueBook", "placeAbove", "(II)I"⟩
abbrev b_B_placeAbove : ByteArray := prog_3_method_7_code
abbrev y_B_placeBelow : MethodName := ⟨"LightingDesk$CueBook", "placeBelow", "(II)I"⟩
abbrev b_B_placeBelow : ByteArray := prog_3_method_8_code
abbrev y_B_sourceOf : MethodName := ⟨"LightingDesk$CueBook", "sourceOf", "(II)I"⟩
abbrev b_B_sourceOf : ByteArray := prog_3_method_9_code
abbrev y_B_trackedAt : MethodName := ⟨"LightingDesk$CueBook", "trackedAt", "(II)I"⟩
abbrev b_B_trackedAt : ByteArray := prog_3_method_10_code
abbrev y_B_recordCue : MethodName := ⟨"LightingDesk$CueBook", "recordCue", "(LLightingDesk$ValueRow;IIZ)I"⟩
abbrev b_B_recordCue : ByteArray := prog_3_method_11_code
abbrev y_B_updateSources : MethodName := ⟨"LightingDesk$CueBook", "updateSources", "(LLightingDesk$ValueRow;I)I"⟩
abbrev b_B_updateSources : ByteArray := prog_3_method_12_code
abbrev y_B_deleteCue : MethodName := ⟨"LightingDesk$CueBook", "deleteCue", "(IZ)I"⟩
abbrev b_B_deleteCue : ByteArray := prog_3_method_13_code
abbrev y_B_blockCue : MethodName := ⟨"LightingDesk$CueBook", "blockCue", "(I)I"⟩
abbrev b_B_blockCue : ByteArray := prog_3_method_14_code
abbrev y_B_unblockCue : MethodName := ⟨"LightingDesk$CueBook", "unblockCue", "(I)I"⟩
abbrev b_B_unblockCue : ByteArray := prog_3_method_15_code
abbrev y_B_keepChannels : MethodName := ⟨"LightingDesk$CueBook", "keepChannels", "(ILLightingDesk$ValueRow;)V"⟩
abbrev b_B_keepChannels : ByteArray := prog_3_method_16_code
abbrev y_B_putAll : MethodName := ⟨"LightingDesk$CueBook", "putAll", "(ILLightingDesk$ValueRow;)V"⟩
abbrev b_B_putAll : ByteArray := prog_3_method_17_code
abbrev y_B_orUnset : MethodName := ⟨"LightingDesk$CueBook", "orUnset", "(I)I"⟩
abbrev b_B_orUnset : ByteArray := prog_3_method_18_code
abbrev y_B_isIn : MethodName := ⟨"LightingDesk$CueBook", "isIn", "(II)Z"⟩
abbrev b_B_isIn : ByteArray := prog_3_method_19_code
abbrev y_B_placeFor : MethodName := ⟨"LightingDesk$CueBook", "placeFor", "(II)I"⟩
abbrev b_B_placeFor : ByteArray := prog_3_method_20_code
abbrev y_B_insert : MethodName := ⟨"LightingDesk$CueBook", "insert", "(III)V"⟩
abbrev b_B_insert : ByteArray := prog_3_method_21_code
abbrev y_B_takeOut : MethodName := ⟨"LightingDesk$CueBook", "takeOut", "(I)V"⟩
abbrev b_B_takeOut : ByteArray := prog_3_method_22_code
abbrev y_P_init : MethodName := ⟨"LightingDesk$PaletteBox", "<init>", "()V"⟩
abbrev b_P_init : ByteArray := prog_4_method_1_code
abbrev y_P_store : MethodName := ⟨"LightingDesk$PaletteBox", "store", "(III)V"⟩
abbrev b_P_store : ByteArray := prog_4_method_2_code
abbrev y_P_levelOf : MethodName := ⟨"LightingDesk$PaletteBox", "levelOf", "(II)I"⟩
abbrev b_P_levelOf : ByteArray := prog_4_method_3_code
abbrev y_Y_init : MethodName := ⟨"LightingDesk$Player", "<init>", "()V"⟩
abbrev b_Y_init : ByteArray := prog_5_method_1_code
abbrev y_Y_lookTick : MethodName := ⟨"LightingDesk$Player", "lookTick", "(I)I"⟩
abbrev b_Y_lookTick : ByteArray := prog_5_method_2_code
abbrev y_Y_levelAt : MethodName := ⟨"LightingDesk$Player", "levelAt", "(II)I"⟩
abbrev b_Y_levelAt : ByteArray := prog_5_method_3_code
abbrev y_Y_fade : MethodName := ⟨"LightingDesk$Player", "fade", "(IILLightingDesk$Cue;I)V"⟩
abbrev b_Y_fade : ByteArray := prog_5_method_4_code
abbrev y_V_init : MethodName := ⟨"LightingDesk$ValueRow", "<init>", "()V"⟩
abbrev b_V_init : ByteArray := prog_6_method_1_code
abbrev y_V_has : MethodName := ⟨"LightingDesk$ValueRow", "has", "(I)Z"⟩
abbrev b_V_has : ByteArray := prog_6_method_2_code
abbrev y_V_valueAt : MethodName := ⟨"LightingDesk$ValueRow", "valueAt", "(I)I"⟩
abbrev b_V_valueAt : ByteArray := prog_6_method_3_code
abbrev y_V_put : MethodName := ⟨"LightingDesk$ValueRow", "put", "(II)V"⟩
abbrev b_V_put : ByteArray := prog_6_method_4_code
abbrev y_V_drop : MethodName := ⟨"LightingDesk$ValueRow", "drop", "(I)V"⟩
abbrev b_V_drop : ByteArray := prog_6_method_5_code
abbrev y_V_dropAll : MethodName := ⟨"LightingDesk$ValueRow", "dropAll", "()V"⟩
abbrev b_V_dropAll : ByteArray := prog_6_method_6_code
abbrev y_V_lackedOf : MethodName := ⟨"LightingDesk$ValueRow", "lackedOf", "(LLightingDesk$ValueRow;)I"⟩
abbrev b_V_lackedOf : ByteArray := prog_6_method_7_code
abbrev y_L_record : MethodName := ⟨"LightingDeskLaw", "record", "(LLightingDesk;IIZ[J)I"⟩
abbrev b_L_record : ByteArray := method_3_code
abbrev y_L_update : MethodName := ⟨"LightingDeskLaw", "update", "(LLightingDesk;II[J)I"⟩
abbrev b_L_update : ByteArray := method_4_code
abbrev y_L_delete : MethodName := ⟨"LightingDeskLaw", "delete", "(LLightingDesk;IIZ[J)I"⟩
abbrev b_L_delete : ByteArray := method_5_code
abbrev y_L_block : MethodName := ⟨"LightingDeskLaw", "block", "(LLightingDesk;IIZ[J)I"⟩
abbrev b_L_block : ByteArray := method_6_code
abbrev y_L_look : MethodName := ⟨"LightingDeskLaw", "look", "(LLightingDesk;III[J)I"⟩
abbrev b_L_look : ByteArray := method_7_code
abbrev y_L_source : MethodName := ⟨"LightingDeskLaw", "source", "(LLightingDesk;III[J)I"⟩
abbrev b_L_source : ByteArray := method_8_code
abbrev y_L_cue : MethodName := ⟨"LightingDeskLaw", "cue", "(LLightingDesk;III[J)I"⟩
abbrev b_L_cue : ByteArray := method_9_code
abbrev y_L_go : MethodName := ⟨"LightingDeskLaw", "go", "(LLightingDesk;IZI[J)I"⟩
abbrev b_L_go : ByteArray := method_10_code
abbrev y_L_out : MethodName := ⟨"LightingDeskLaw", "out", "(LLightingDesk;II[J)I"⟩
abbrev b_L_out : ByteArray := method_11_code
abbrev y_L_playback : MethodName := ⟨"LightingDeskLaw", "playback", "(LLightingDesk;II[J)I"⟩
abbrev b_L_playback : ByteArray := method_12_code
abbrev y_JL_bitCount : MethodName := ⟨"java/lang/Long", "bitCount", "(J)I"⟩
abbrev b_JL_bitCount : ByteArray := prog_13_method_50_code
abbrev y_JM_max : MethodName := ⟨"java/lang/Math", "max", "(II)I"⟩
abbrev b_JM_max : ByteArray := prog_14_method_65_code
abbrev y_JA_fill : MethodName := ⟨"java/util/Arrays", "fill", "([II)V"⟩
abbrev b_JA_fill : ByteArray := prog_18_method_103_code
