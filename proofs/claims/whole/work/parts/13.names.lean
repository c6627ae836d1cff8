/-! NAMES: classes, fields, methods (printed by wip/gen/gen_names2.py) -/
def R_D : String := "LightingDesk"
def R_V : String := "LightingDesk$ValueRow"
def R_P : String := "LightingDesk$PaletteBox"
def R_B : String := "LightingDesk$CueBook"
def R_C : String := "LightingDesk$Cue"
def R_Y : String := "LightingDesk$Player"
def R_M : String := "LightingDeskModel"
def R_L : String := "LightingDeskLaw"
def R_JL : String := "java/lang/Long"
def R_JM : String := "java/lang/Math"
def R_JA : String := "java/util/Arrays"
def F_V : u_T := fun k => match k with
  | 0 => ("LightingDesk$ValueRow", "values", "[I", true)
  | _ => ("LightingDesk$ValueRow", "held", "I", false)
def ty_V : Nat → FieldType := fun k => match k with
  | 0 => .array .int
  | _ => .int
theorem nm_V : ∀ a, a < 2 → ∀ b, b < 2 → a ≠ b → (F_V a).2.1 ≠ (F_V b).2.1 := by decide +kernel
theorem tyk_V : ∀ k, k < 2 → parseFieldDescriptor (F_V k).2.2.1 = some (ty_V k) := by decide +kernel
theorem in_V : ∀ w ∈ u_ws R_V F_V 2, w ∈ uWS := by
  intro w h
  obtain ⟨k, hk, rfl⟩ := List.mem_map.mp h
  have hk := List.mem_range.mp hk
  rcases (by omega : k = 0 ∨ k = 1) with rfl | rfl
  · exact t1_40
  · exact t1_42
def F_P : u_T := fun k => match k with
  | _ => ("LightingDesk$PaletteBox", "levels", "[I", true)
def ty_P : Nat → FieldType := fun k => match k with
  | _ => .array .int
theorem nm_P : ∀ a, a < 1 → ∀ b, b < 1 → a ≠ b → (F_P a).2.1 ≠ (F_P b).2.1 := by decide +kernel
theorem tyk_P : ∀ k, k < 1 → parseFieldDescriptor (F_P k).2.2.1 = some (ty_P k) := by decide +kernel
theorem in_P : ∀ w ∈ u_ws R_P F_P 1, w ∈ uWS := by
  intro w h
  obtain ⟨k, hk, rfl⟩ := List.mem_map.mp h
  have hk := List.mem_range.mp hk
  rcases (by omega : k = 0) with rfl
  · exact t1_55
def F_C : u_T := fun k => match k with
  | 0 => ("LightingDesk$Cue", "moves", "LLightingDesk$ValueRow;", true)
  | 1 => ("LightingDesk$Cue", "list", "I", false)
  | 2 => ("LightingDesk$Cue", "number", "I", false)
  | 3 => ("LightingDesk$Cue", "up", "I", false)
  | 4 => ("LightingDesk$Cue", "down", "I", false)
  | 5 => ("LightingDesk$Cue", "delay", "I", false)
  | _ => ("LightingDesk$Cue", "follow", "I", false)
def ty_C : Nat → FieldType := fun k => match k with
  | 0 => .object "LightingDesk$ValueRow"
  | 1 => .int
  | 2 => .int
  | 3 => .int
  | 4 => .int
  | 5 => .int
  | _ => .int
theorem nm_C : ∀ a, a < 7 → ∀ b, b < 7 → a ≠ b → (F_C a).2.1 ≠ (F_C b).2.1 := by decide +kernel
theorem tyk_C : ∀ k, k < 7 → parseFieldDescriptor (F_C k).2.2.1 = some (ty_C k) := by decide +kernel
theorem in_C : ∀ w ∈ u_ws R_C F_C 7, w ∈ uWS := by
  intro w h
  obtain ⟨k, hk, rfl⟩ := List.mem_map.mp h
  have hk := List.mem_range.mp hk
  rcases (by omega : k = 0 ∨ k = 1 ∨ k = 2 ∨ k = 3 ∨ k = 4 ∨ k = 5 ∨ k = 6) with rfl | rfl | rfl | rfl | rfl | rfl | rfl
  · exact t1_91
  · exact t1_93
  · exact t1_95
  · exact t1_97
  · exact t1_99
  · exact t1_101
  · exact t1_103
def F_B : u_T := fun k => match k with
  | 0 => ("LightingDesk$CueBook", "cues", "[LLightingDesk$Cue;", true)
  | _ => ("LightingDesk$CueBook", "size", "I", false)
def ty_B : Nat → FieldType := fun k => match k with
  | 0 => .array (.object "LightingDesk$Cue")
  | _ => .int
theorem nm_B : ∀ a, a < 2 → ∀ b, b < 2 → a ≠ b → (F_B a).2.1 ≠ (F_B b).2.1 := by decide +kernel
theorem tyk_B : ∀ k, k < 2 → parseFieldDescriptor (F_B k).2.2.1 = some (ty_B k) := by decide +kernel
theorem in_B : ∀ w ∈ u_ws R_B F_B 2, w ∈ uWS := by
  intro w h
  obtain ⟨k, hk, rfl⟩ := List.mem_map.mp h
  have hk := List.mem_range.mp hk
  rcases (by omega : k = 0 ∨ k = 1) with rfl | rfl
  · exact t1_109
  · exact t1_111
def F_Y : u_T := fun k => match k with
  | 0 => ("LightingDesk$Player", "from", "[I", true)
  | 1 => ("LightingDesk$Player", "to", "[I", true)
  | 2 => ("LightingDesk$Player", "begin", "[I", true)
  | 3 => ("LightingDesk$Player", "length", "[I", true)
  | 4 => ("LightingDesk$Player", "lookTicks", "[I", true)
  | 5 => ("LightingDesk$Player", "list", "I", false)
  | 6 => ("LightingDesk$Player", "master", "I", false)
  | 7 => ("LightingDesk$Player", "current", "I", false)
  | 8 => ("LightingDesk$Player", "startTick", "I", false)
  | _ => ("LightingDesk$Player", "followOn", "I", false)
def ty_Y : Nat → FieldType := fun k => match k with
  | 0 => .array .int
  | 1 => .array .int
  | 2 => .array .int
  | 3 => .array .int
  | 4 => .array .int
  | 5 => .int
  | 6 => .int
  | 7 => .int
  | 8 => .int
  | _ => .int
theorem nm_Y : ∀ a, a < 10 → ∀ b, b < 10 → a ≠ b → (F_Y a).2.1 ≠ (F_Y b).2.1 := by decide +kernel
theorem tyk_Y : ∀ k, k < 10 → parseFieldDescriptor (F_Y k).2.2.1 = some (ty_Y k) := by decide +kernel
theorem in_Y : ∀ w ∈ u_ws R_Y F_Y 10, w ∈ uWS := by
  intro w h
  obtain ⟨k, hk, rfl⟩ := List.mem_map.mp h
  have hk := List.mem_range.mp hk
  rcases (by omega : k = 0 ∨ k = 1 ∨ k = 2 ∨ k = 3 ∨ k = 4 ∨ k = 5 ∨ k = 6 ∨ k = 7 ∨ k = 8 ∨ k = 9) with rfl | rfl | rfl | rfl | rfl | rfl | rfl | rfl | rfl | rfl
  · exact t1_137
  · exact t1_139
  · exact t1_141
  · exact t1_143
  · exact t1_145
  · exact t1_147
  · exact t1_149
  · exact t1_151
  · exact t1_153
  · exact t1_155
def F_D : u_T := fun k => match k with
  | 0 => ("LightingDesk", "attributes", "[Z", true)
  | 1 => ("LightingDesk", "programmer", "LLightingDesk$ValueRow;", true)
  | 2 => ("LightingDesk", "palettes", "LLightingDesk$PaletteBox;", true)
  | 3 => ("LightingDesk", "book", "LLightingDesk$CueBook;", true)
  | 4 => ("LightingDesk", "players", "[LLightingDesk$Player;", true)
  | 5 => ("LightingDesk", "now", "I", false)
  | _ => ("LightingDesk", "started", "I", false)
def ty_D : Nat → FieldType := fun k => match k with
  | 0 => .array .boolean
  | 1 => .object "LightingDesk$ValueRow"
  | 2 => .object "LightingDesk$PaletteBox"
  | 3 => .object "LightingDesk$CueBook"
  | 4 => .array (.object "LightingDesk$Player")
  | 5 => .int
  | _ => .int
theorem nm_D : ∀ a, a < 7 → ∀ b, b < 7 → a ≠ b → (F_D a).2.1 ≠ (F_D b).2.1 := by decide +kernel
theorem tyk_D : ∀ k, k < 7 → parseFieldDescriptor (F_D k).2.2.1 = some (ty_D k) := by decide +kernel
theorem in_D : ∀ w ∈ u_ws R_D F_D 7, w ∈ uWS := by
  intro w h
  obtain ⟨k, hk, rfl⟩ := List.mem_map.mp h
  have hk := List.mem_range.mp hk
  rcases (by omega : k = 0 ∨ k = 1 ∨ k = 2 ∨ k = 3 ∨ k = 4 ∨ k = 5 ∨ k = 6) with rfl | rfl | rfl | rfl | rfl | rfl | rfl
  · exact t1_165
  · exact t1_167
  · exact t1_169
  · exact t1_171
  · exact t1_173
  · exact t1_175
  · exact t1_177
def F_M : u_T := fun k => match k with
  | 0 => ("LightingDeskModel", "thrown", "I", false)
  | 1 => ("LightingDeskModel", "attribute", "[Z", true)
  | 2 => ("LightingDeskModel", "programmer", "[S", true)
  | 3 => ("LightingDeskModel", "palettes", "[S", true)
  | 4 => ("LightingDeskModel", "lists", "[I", true)
  | 5 => ("LightingDeskModel", "numbers", "[I", true)
  | 6 => ("LightingDeskModel", "ups", "[I", true)
  | 7 => ("LightingDeskModel", "downs", "[I", true)
  | 8 => ("LightingDeskModel", "waits", "[I", true)
  | 9 => ("LightingDeskModel", "follows", "[I", true)
  | 10 => ("LightingDeskModel", "moves", "[S", true)
  | 11 => ("LightingDeskModel", "kept", "[S", true)
  | 12 => ("LightingDeskModel", "told", "[I", true)
  | 13 => ("LightingDeskModel", "masters", "[I", true)
  | 14 => ("LightingDeskModel", "current", "[I", true)
  | 15 => ("LightingDeskModel", "started", "[I", true)
  | 16 => ("LightingDeskModel", "followOn", "[I", true)
  | 17 => ("LightingDeskModel", "from", "[S", true)
  | 18 => ("LightingDeskModel", "to", "[S", true)
  | 19 => ("LightingDeskModel", "begins", "[I", true)
  | 20 => ("LightingDeskModel", "lasts", "[I", true)
  | 21 => ("LightingDeskModel", "looked", "[I", true)
  | 22 => ("LightingDeskModel", "now", "I", false)
  | _ => ("LightingDeskModel", "starts", "I", false)
def ty_M : Nat → FieldType := fun k => match k with
  | 0 => .int
  | 1 => .array .boolean
  | 2 => .array .short
  | 3 => .array .short
  | 4 => .array .int
  | 5 => .array .int
  | 6 => .array .int
  | 7 => .array .int
  | 8 => .array .int
  | 9 => .array .int
  | 10 => .array .short
  | 11 => .array .short
  | 12 => .array .int
  | 13 => .array .int
  | 14 => .array .int
  | 15 => .array .int
  | 16 => .array .int
  | 17 => .array .short
  | 18 => .array .short
  | 19 => .array .int
  | 20 => .array .int
  | 21 => .array .int
  | 22 => .int
  | _ => .int
theorem nm_M : ∀ a, a < 24 → ∀ b, b < 24 → a ≠ b → (F_M a).2.1 ≠ (F_M b).2.1 := by decide +kernel
theorem tyk_M : ∀ k, k < 24 → parseFieldDescriptor (F_M k).2.2.1 = some (ty_M k) := by decide +kernel
theorem in_M : ∀ w ∈ u_ws R_M F_M 24, w ∈ uWS := by
  intro w h
  obtain ⟨k, hk, rfl⟩ := List.mem_map.mp h
  have hk := List.mem_range.mp hk
  rcases (by omega : k = 0 ∨ k = 1 ∨ k = 2 ∨ k = 3 ∨ k = 4 ∨ k = 5 ∨ k = 6 ∨ k = 7 ∨ k = 8 ∨ k = 9 ∨ k = 10 ∨ k = 11 ∨ k = 12 ∨ k = 13 ∨ k = 14 ∨ k = 15 ∨ k = 16 ∨ k = 17 ∨ k = 18 ∨ k = 19 ∨ k = 20 ∨ k = 21 ∨ k = 22 ∨ k = 23) with rfl | rfl | rfl | rfl | rfl | rfl | rfl | rfl | rfl | rfl | rfl | rfl | rfl | rfl | rfl | rfl | rfl | rfl | rfl | rfl | rfl | rfl | rfl | rfl
  · exact t3_184
  · exact t3_186
  · exact t3_188
  · exact t3_190
  · exact t3_192
  · exact t3_194
  · exact t3_196
  · exact t3_198
  · exact t3_200
  · exact t3_202
  · exact t3_204
  · exact t3_206
  · exact t3_208
  · exact t3_210
  · exact t3_212
  · exact t3_214
  · exact t3_216
  · exact t3_218
  · exact t3_220
  · exact t3_222
  · exact t3_224
  · exact t3_226
  · exact t3_228
  · exact t3_230
abbrev clsAll : List vw_C := [(R_V, F_V, 2), (R_P, F_P, 1), (R_C, F_C, 7), (R_B, F_B, 2), (R_Y, F_Y, 10), (R_D, F_D, 7), (R_M, F_M, 24)]
