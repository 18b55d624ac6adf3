abbrev R_Mill : String := "LinkMill"
abbrev R_Section : String := "LinkMill$Section"
abbrev R_Part : String := "LinkMill$Part"
abbrev R_Instr : String := "LinkMill$Instruction"
abbrev R_Fix : String := "LinkMill$Fix"
abbrev R_Linker : String := "LinkMill$Linker"
abbrev R_Image : String := "LinkMill$Image"
abbrev R_Reader : String := "LinkMill$Reader"
abbrev R_Machine : String := "LinkMill$Machine"
abbrev R_Model : String := "LinkMillModel"
abbrev R_Law : String := "LinkMillLaw"
abbrev R_Math : String := "java/lang/Math"
def T_Mill : u_T := fun k => match k with
  | 0 => ("LinkMill", "linker", "LLinkMill$Linker;", true)
  | 1 => ("LinkMill", "picture", "LLinkMill$Image;", true)
  | _ => ("LinkMill", "machine", "LLinkMill$Machine;", true)
def t_Mill : Nat → FieldType := fun k => match k with
  | 0 => .object "LinkMill$Linker"
  | 1 => .object "LinkMill$Image"
  | _ => .object "LinkMill$Machine"
theorem n_Mill : ∀ a, a < 3 → ∀ b, b < 3 → a ≠ b → (T_Mill a).2.1 ≠ (T_Mill b).2.1 := by decide +kernel
theorem t_Mill_ok : ∀ k, k < 3 → parseFieldDescriptor (T_Mill k).2.2.1 = some (t_Mill k) := by decide +kernel
def T_Section : u_T := fun k => match k with
  | 0 => ("LinkMill$Section", "words", "[I", true)
  | _ => ("LinkMill$Section", "count", "I", false)
def t_Section : Nat → FieldType := fun k => match k with
  | 0 => .array .int
  | _ => .int
theorem n_Section : ∀ a, a < 2 → ∀ b, b < 2 → a ≠ b → (T_Section a).2.1 ≠ (T_Section b).2.1 := by decide +kernel
theorem t_Section_ok : ∀ k, k < 2 → parseFieldDescriptor (T_Section k).2.2.1 = some (t_Section k) := by decide +kernel
def T_Part : u_T := fun k => match k with
  | 0 => ("LinkMill$Part", "code", "LLinkMill$Section;", true)
  | 1 => ("LinkMill$Part", "data", "LLinkMill$Section;", true)
  | 2 => ("LinkMill$Part", "definedNames", "[I", true)
  | 3 => ("LinkMill$Part", "definedSections", "[I", true)
  | 4 => ("LinkMill$Part", "definedPlaces", "[I", true)
  | 5 => ("LinkMill$Part", "definedGlobal", "[Z", true)
  | 6 => ("LinkMill$Part", "definitions", "I", false)
  | 7 => ("LinkMill$Part", "fixSections", "[I", true)
  | 8 => ("LinkMill$Part", "fixPlaces", "[I", true)
  | 9 => ("LinkMill$Part", "fixKinds", "[I", true)
  | 10 => ("LinkMill$Part", "fixNames", "[I", true)
  | 11 => ("LinkMill$Part", "fixAdds", "[I", true)
  | _ => ("LinkMill$Part", "fixes", "I", false)
def t_Part : Nat → FieldType := fun k => match k with
  | 0 => .object "LinkMill$Section"
  | 1 => .object "LinkMill$Section"
  | 2 => .array .int
  | 3 => .array .int
  | 4 => .array .int
  | 5 => .array .boolean
  | 6 => .int
  | 7 => .array .int
  | 8 => .array .int
  | 9 => .array .int
  | 10 => .array .int
  | 11 => .array .int
  | _ => .int
theorem n_Part : ∀ a, a < 13 → ∀ b, b < 13 → a ≠ b → (T_Part a).2.1 ≠ (T_Part b).2.1 := by decide +kernel
theorem t_Part_ok : ∀ k, k < 13 → parseFieldDescriptor (T_Part k).2.2.1 = some (t_Part k) := by decide +kernel
def T_Linker : u_T := fun k => match k with
  | 0 => ("LinkMill$Linker", "parts", "[LLinkMill$Part;", true)
  | 1 => ("LinkMill$Linker", "starts", "[I", true)
  | 2 => ("LinkMill$Linker", "found", "[I", true)
  | 3 => ("LinkMill$Linker", "values", "[I", true)
  | 4 => ("LinkMill$Linker", "codeStart", "I", false)
  | 5 => ("LinkMill$Linker", "codeEnd", "I", false)
  | 6 => ("LinkMill$Linker", "dataStart", "I", false)
  | _ => ("LinkMill$Linker", "dataEnd", "I", false)
def t_Linker : Nat → FieldType := fun k => match k with
  | 0 => .array (.object "LinkMill$Part")
  | 1 => .array .int
  | 2 => .array .int
  | 3 => .array .int
  | 4 => .int
  | 5 => .int
  | 6 => .int
  | _ => .int
theorem n_Linker : ∀ a, a < 8 → ∀ b, b < 8 → a ≠ b → (T_Linker a).2.1 ≠ (T_Linker b).2.1 := by decide +kernel
theorem t_Linker_ok : ∀ k, k < 8 → parseFieldDescriptor (T_Linker k).2.2.1 = some (t_Linker k) := by decide +kernel
def T_Image : u_T := fun k => match k with
  | 0 => ("LinkMill$Image", "bytes", "[I", true)
  | _ => ("LinkMill$Image", "size", "I", false)
def t_Image : Nat → FieldType := fun k => match k with
  | 0 => .array .int
  | _ => .int
theorem n_Image : ∀ a, a < 2 → ∀ b, b < 2 → a ≠ b → (T_Image a).2.1 ≠ (T_Image b).2.1 := by decide +kernel
theorem t_Image_ok : ∀ k, k < 2 → parseFieldDescriptor (T_Image k).2.2.1 = some (t_Image k) := by decide +kernel
def T_Machine : u_T := fun k => match k with
  | 0 => ("LinkMill$Machine", "words", "[I", true)
  | 1 => ("LinkMill$Machine", "registers", "[I", true)
  | 2 => ("LinkMill$Machine", "lastNumbers", "[I", true)
  | 3 => ("LinkMill$Machine", "codeAddress", "I", false)
  | 4 => ("LinkMill$Machine", "codeWords", "I", false)
  | 5 => ("LinkMill$Machine", "dataAddress", "I", false)
  | 6 => ("LinkMill$Machine", "dataWords", "I", false)
  | 7 => ("LinkMill$Machine", "status", "I", false)
  | 8 => ("LinkMill$Machine", "pc", "I", false)
  | 9 => ("LinkMill$Machine", "steps", "I", false)
  | _ => ("LinkMill$Machine", "shows", "I", false)
def t_Machine : Nat → FieldType := fun k => match k with
  | 0 => .array .int
  | 1 => .array .int
  | 2 => .array .int
  | 3 => .int
  | 4 => .int
  | 5 => .int
  | 6 => .int
  | 7 => .int
  | 8 => .int
  | 9 => .int
  | _ => .int
theorem n_Machine : ∀ a, a < 11 → ∀ b, b < 11 → a ≠ b → (T_Machine a).2.1 ≠ (T_Machine b).2.1 := by decide +kernel
theorem t_Machine_ok : ∀ k, k < 11 → parseFieldDescriptor (T_Machine k).2.2.1 = some (t_Machine k) := by decide +kernel
def T_Model : u_T := fun k => match k with
  | 0 => ("LinkMillModel", "threw", "I", false)
  | 1 => ("LinkMillModel", "words", "[I", true)
  | 2 => ("LinkMillModel", "sizes", "[I", true)
  | 3 => ("LinkMillModel", "definitions", "[I", true)
  | 4 => ("LinkMillModel", "names", "[I", true)
  | 5 => ("LinkMillModel", "sections", "[I", true)
  | 6 => ("LinkMillModel", "places", "[I", true)
  | 7 => ("LinkMillModel", "global", "[Z", true)
  | 8 => ("LinkMillModel", "fixes", "[I", true)
  | 9 => ("LinkMillModel", "fixSections", "[I", true)
  | 10 => ("LinkMillModel", "fixPlaces", "[I", true)
  | 11 => ("LinkMillModel", "kinds", "[I", true)
  | 12 => ("LinkMillModel", "fixNames", "[I", true)
  | 13 => ("LinkMillModel", "adds", "[I", true)
  | 14 => ("LinkMillModel", "linked", "[I", true)
  | 15 => ("LinkMillModel", "starts", "[I", true)
  | 16 => ("LinkMillModel", "known", "[Z", true)
  | 17 => ("LinkMillModel", "values", "[I", true)
  | 18 => ("LinkMillModel", "size", "I", false)
  | 19 => ("LinkMillModel", "image", "[I", true)
  | 20 => ("LinkMillModel", "codeAt", "I", false)
  | 21 => ("LinkMillModel", "codeWords", "I", false)
  | 22 => ("LinkMillModel", "dataAt", "I", false)
  | 23 => ("LinkMillModel", "dataWords", "I", false)
  | 24 => ("LinkMillModel", "memory", "[I", true)
  | 25 => ("LinkMillModel", "state", "I", false)
  | 26 => ("LinkMillModel", "pc", "I", false)
  | 27 => ("LinkMillModel", "steps", "I", false)
  | 28 => ("LinkMillModel", "registers", "[I", true)
  | 29 => ("LinkMillModel", "shows", "I", false)
  | _ => ("LinkMillModel", "ring", "[I", true)
def t_Model : Nat → FieldType := fun k => match k with
  | 0 => .int
  | 1 => .array .int
  | 2 => .array .int
  | 3 => .array .int
  | 4 => .array .int
  | 5 => .array .int
  | 6 => .array .int
  | 7 => .array .boolean
  | 8 => .array .int
  | 9 => .array .int
  | 10 => .array .int
  | 11 => .array .int
  | 12 => .array .int
  | 13 => .array .int
  | 14 => .array .int
  | 15 => .array .int
  | 16 => .array .boolean
  | 17 => .array .int
  | 18 => .int
  | 19 => .array .int
  | 20 => .int
  | 21 => .int
  | 22 => .int
  | 23 => .int
  | 24 => .array .int
  | 25 => .int
  | 26 => .int
  | 27 => .int
  | 28 => .array .int
  | 29 => .int
  | _ => .array .int
theorem n_Model : ∀ a, a < 31 → ∀ b, b < 31 → a ≠ b → (T_Model a).2.1 ≠ (T_Model b).2.1 := by decide +kernel
theorem t_Model_ok : ∀ k, k < 31 → parseFieldDescriptor (T_Model k).2.2.1 = some (t_Model k) := by decide +kernel
/-- the classes whose objects the memory holds -/
abbrev vwCl : List vw_C := [(R_Mill, T_Mill, 3), (R_Section, T_Section, 2), (R_Part, T_Part, 13), (R_Linker, T_Linker, 8), (R_Image, T_Image, 2), (R_Machine, T_Machine, 11), (R_Model, T_Model, 31)]
/-- the words that go with every method: those of the tables that a call takes along -/
def sm_AW : List Cond := lw_tbl.filter goodWord
theorem sm_AWg : ∀ w ∈ sm_AW, goodWord w = true := fun w h => (List.mem_filter.mp h).2
theorem sm_awi (i : Nat) {w : Cond} (h : tables_1[i]? = some w) (g : goodWord w = true) : w ∈ sm_AW := List.mem_filter.mpr ⟨List.mem_append_right _ (List.mem_of_getElem? h), g⟩
theorem sm_aws (i : Nat) {w : Cond} (h : (k2_sels lw_privs)[i]? = some w) (g : goodWord w = true) : w ∈ sm_AW := List.mem_filter.mpr ⟨List.mem_append_left _ (List.mem_of_getElem? h), g⟩
theorem aw_302 : (Jvm.Cond.code ({ cls := "LinkMill$Instruction", name := "isThreeRegisters", desc := "(I)Z" } : Jvm.MethodName) prog_4_method_2_code (1 : Nat) (Option.some Jvm.ClassFile.FieldType.boolean)) ∈ sm_AW := sm_awi 302 (by decide +kernel) (by decide +kernel)
theorem aw_300 : (Jvm.Cond.methodLink "LinkMill$Instruction" (18 : Nat) ({ cls := "LinkMill$Instruction", name := "isThreeRegisters", desc := "(I)Z" } : Jvm.MethodName)) ∈ sm_AW := sm_awi 300 (by decide +kernel) (by decide +kernel)
theorem aw_301 : (Jvm.Cond.static ({ cls := "LinkMill$Instruction", name := "isThreeRegisters", desc := "(I)Z" } : Jvm.MethodName)) ∈ sm_AW := sm_awi 301 (by decide +kernel) (by decide +kernel)
theorem aw_8 : (Jvm.Cond.initialized "LinkMill$Instruction") ∈ sm_AW := sm_awi 8 (by decide +kernel) (by decide +kernel)
theorem aw_305 : (Jvm.Cond.code ({ cls := "LinkMill$Instruction", name := "numberAt", desc := "(I)I" } : Jvm.MethodName) prog_4_method_5_code (1 : Nat) (Option.some Jvm.ClassFile.FieldType.int)) ∈ sm_AW := sm_awi 305 (by decide +kernel) (by decide +kernel)
theorem aw_303 : (Jvm.Cond.methodLink "LinkMill$Instruction" (22 : Nat) ({ cls := "LinkMill$Instruction", name := "numberAt", desc := "(I)I" } : Jvm.MethodName)) ∈ sm_AW := sm_awi 303 (by decide +kernel) (by decide +kernel)
theorem aw_304 : (Jvm.Cond.static ({ cls := "LinkMill$Instruction", name := "numberAt", desc := "(I)I" } : Jvm.MethodName)) ∈ sm_AW := sm_awi 304 (by decide +kernel) (by decide +kernel)
theorem aw_308 : (Jvm.Cond.code ({ cls := "LinkMill", name := "fitsSigned", desc := "(II)Z" } : Jvm.MethodName) prog_1_method_21_code (3 : Nat) (Option.some Jvm.ClassFile.FieldType.boolean)) ∈ sm_AW := sm_awi 308 (by decide +kernel) (by decide +kernel)
theorem aw_1 : (Jvm.Cond.initialized "LinkMill") ∈ sm_AW := sm_awi 1 (by decide +kernel) (by decide +kernel)
theorem aw_307 : (Jvm.Cond.static ({ cls := "LinkMill", name := "fitsSigned", desc := "(II)Z" } : Jvm.MethodName)) ∈ sm_AW := sm_awi 307 (by decide +kernel) (by decide +kernel)
theorem aw_216 : (Jvm.Cond.code ({ cls := "LinkMill", name := "isBelow", desc := "(II)Z" } : Jvm.MethodName) prog_1_method_19_code (2 : Nat) (Option.some Jvm.ClassFile.FieldType.boolean)) ∈ sm_AW := sm_awi 216 (by decide +kernel) (by decide +kernel)
theorem aw_215 : (Jvm.Cond.static ({ cls := "LinkMill", name := "isBelow", desc := "(II)Z" } : Jvm.MethodName)) ∈ sm_AW := sm_awi 215 (by decide +kernel) (by decide +kernel)
theorem aw_299 : (Jvm.Cond.code ({ cls := "LinkMill$Instruction", name := "canHold", desc := "(II)Z" } : Jvm.MethodName) prog_4_method_4_code (2 : Nat) (Option.some Jvm.ClassFile.FieldType.boolean)) ∈ sm_AW := sm_awi 299 (by decide +kernel) (by decide +kernel)
theorem aw_297 : (Jvm.Cond.methodLink "LinkMill$Instruction" (15 : Nat) ({ cls := "LinkMill$Instruction", name := "canHold", desc := "(II)Z" } : Jvm.MethodName)) ∈ sm_AW := sm_awi 297 (by decide +kernel) (by decide +kernel)
theorem aw_298 : (Jvm.Cond.static ({ cls := "LinkMill$Instruction", name := "canHold", desc := "(II)Z" } : Jvm.MethodName)) ∈ sm_AW := sm_awi 298 (by decide +kernel) (by decide +kernel)
theorem aw_214 : (Jvm.Cond.methodLink "LinkMill" (30 : Nat) ({ cls := "LinkMill", name := "isBelow", desc := "(II)Z" } : Jvm.MethodName)) ∈ sm_AW := sm_awi 214 (by decide +kernel) (by decide +kernel)
theorem aw_295 : (Jvm.Cond.code ({ cls := "LinkMill$Instruction", name := "canBe", desc := "(IIII)Z" } : Jvm.MethodName) prog_4_method_3_code (4 : Nat) (Option.some Jvm.ClassFile.FieldType.boolean)) ∈ sm_AW := sm_awi 295 (by decide +kernel) (by decide +kernel)
theorem aw_293 : (Jvm.Cond.methodLink "LinkMill" (34 : Nat) ({ cls := "LinkMill$Instruction", name := "canBe", desc := "(IIII)Z" } : Jvm.MethodName)) ∈ sm_AW := sm_awi 293 (by decide +kernel) (by decide +kernel)
theorem aw_294 : (Jvm.Cond.static ({ cls := "LinkMill$Instruction", name := "canBe", desc := "(IIII)Z" } : Jvm.MethodName)) ∈ sm_AW := sm_awi 294 (by decide +kernel) (by decide +kernel)
theorem aw_375 : (Jvm.Cond.code ({ cls := "LinkMill$Section", name := "isFull", desc := "()Z" } : Jvm.MethodName) prog_9_method_2_code (1 : Nat) (Option.some Jvm.ClassFile.FieldType.boolean)) ∈ sm_AW := sm_awi 375 (by decide +kernel) (by decide +kernel)
theorem aw_372 : (Jvm.Cond.methodLink "LinkMill" (53 : Nat) ({ cls := "LinkMill$Section", name := "isFull", desc := "()Z" } : Jvm.MethodName)) ∈ sm_AW := sm_awi 372 (by decide +kernel) (by decide +kernel)
theorem aw_373 : (Jvm.Cond.instanceMethod ({ cls := "LinkMill$Section", name := "isFull", desc := "()Z" } : Jvm.MethodName)) ∈ sm_AW := sm_awi 373 (by decide +kernel) (by decide +kernel)
theorem aw_374 : (Jvm.Cond.selects "LinkMill$Section" ({ cls := "LinkMill$Section", name := "isFull", desc := "()Z" } : Jvm.MethodName) ({ cls := "LinkMill$Section", name := "isFull", desc := "()Z" } : Jvm.MethodName)) ∈ sm_AW := sm_awi 374 (by decide +kernel) (by decide +kernel)
theorem aw_4 : (Jvm.Cond.initialized "LinkMill$Section") ∈ sm_AW := sm_awi 4 (by decide +kernel) (by decide +kernel)
theorem aw_393 : (Jvm.Cond.code ({ cls := "LinkMill$Instruction", name := "encoded", desc := "(IIII)I" } : Jvm.MethodName) prog_4_method_6_code (6 : Nat) (Option.some Jvm.ClassFile.FieldType.int)) ∈ sm_AW := sm_awi 393 (by decide +kernel) (by decide +kernel)
theorem aw_391 : (Jvm.Cond.methodLink "LinkMill" (62 : Nat) ({ cls := "LinkMill$Instruction", name := "encoded", desc := "(IIII)I" } : Jvm.MethodName)) ∈ sm_AW := sm_awi 391 (by decide +kernel) (by decide +kernel)
theorem aw_392 : (Jvm.Cond.static ({ cls := "LinkMill$Instruction", name := "encoded", desc := "(IIII)I" } : Jvm.MethodName)) ∈ sm_AW := sm_awi 392 (by decide +kernel) (by decide +kernel)
theorem aw_397 : (Jvm.Cond.code ({ cls := "LinkMill$Section", name := "append", desc := "(I)I" } : Jvm.MethodName) prog_9_method_3_code (2 : Nat) (Option.some Jvm.ClassFile.FieldType.int)) ∈ sm_AW := sm_awi 397 (by decide +kernel) (by decide +kernel)
theorem aw_394 : (Jvm.Cond.methodLink "LinkMill" (66 : Nat) ({ cls := "LinkMill$Section", name := "append", desc := "(I)I" } : Jvm.MethodName)) ∈ sm_AW := sm_awi 394 (by decide +kernel) (by decide +kernel)
theorem aw_395 : (Jvm.Cond.instanceMethod ({ cls := "LinkMill$Section", name := "append", desc := "(I)I" } : Jvm.MethodName)) ∈ sm_AW := sm_awi 395 (by decide +kernel) (by decide +kernel)
theorem aw_396 : (Jvm.Cond.selects "LinkMill$Section" ({ cls := "LinkMill$Section", name := "append", desc := "(I)I" } : Jvm.MethodName) ({ cls := "LinkMill$Section", name := "append", desc := "(I)I" } : Jvm.MethodName)) ∈ sm_AW := sm_awi 396 (by decide +kernel) (by decide +kernel)
theorem aw_414 : (Jvm.Cond.code ({ cls := "LinkMill", name := "isSection", desc := "(I)Z" } : Jvm.MethodName) prog_1_method_20_code (1 : Nat) (Option.some Jvm.ClassFile.FieldType.boolean)) ∈ sm_AW := sm_awi 414 (by decide +kernel) (by decide +kernel)
theorem aw_412 : (Jvm.Cond.methodLink "LinkMill" (73 : Nat) ({ cls := "LinkMill", name := "isSection", desc := "(I)Z" } : Jvm.MethodName)) ∈ sm_AW := sm_awi 412 (by decide +kernel) (by decide +kernel)
theorem aw_413 : (Jvm.Cond.static ({ cls := "LinkMill", name := "isSection", desc := "(I)Z" } : Jvm.MethodName)) ∈ sm_AW := sm_awi 413 (by decide +kernel) (by decide +kernel)
theorem aw_418 : (Jvm.Cond.code ({ cls := "LinkMill$Part", name := "sectionOf", desc := "(I)LLinkMill$Section;" } : Jvm.MethodName) prog_7_method_2_code (2 : Nat) (Option.some (Jvm.ClassFile.FieldType.object "LinkMill$Section"))) ∈ sm_AW := sm_awi 418 (by decide +kernel) (by decide +kernel)
theorem aw_415 : (Jvm.Cond.methodLink "LinkMill" (77 : Nat) ({ cls := "LinkMill$Part", name := "sectionOf", desc := "(I)LLinkMill$Section;" } : Jvm.MethodName)) ∈ sm_AW := sm_awi 415 (by decide +kernel) (by decide +kernel)
theorem aw_416 : (Jvm.Cond.instanceMethod ({ cls := "LinkMill$Part", name := "sectionOf", desc := "(I)LLinkMill$Section;" } : Jvm.MethodName)) ∈ sm_AW := sm_awi 416 (by decide +kernel) (by decide +kernel)
theorem aw_417 : (Jvm.Cond.selects "LinkMill$Part" ({ cls := "LinkMill$Part", name := "sectionOf", desc := "(I)LLinkMill$Section;" } : Jvm.MethodName) ({ cls := "LinkMill$Part", name := "sectionOf", desc := "(I)LLinkMill$Section;" } : Jvm.MethodName)) ∈ sm_AW := sm_awi 417 (by decide +kernel) (by decide +kernel)
theorem aw_3 : (Jvm.Cond.initialized "LinkMill$Part") ∈ sm_AW := sm_awi 3 (by decide +kernel) (by decide +kernel)
theorem aw_422 : (Jvm.Cond.code ({ cls := "LinkMill$Part", name := "addDefinition", desc := "(IIIZ)I" } : Jvm.MethodName) prog_7_method_4_code (5 : Nat) (Option.some Jvm.ClassFile.FieldType.int)) ∈ sm_AW := sm_awi 422 (by decide +kernel) (by decide +kernel)
theorem aw_419 : (Jvm.Cond.methodLink "LinkMill" (88 : Nat) ({ cls := "LinkMill$Part", name := "addDefinition", desc := "(IIIZ)I" } : Jvm.MethodName)) ∈ sm_AW := sm_awi 419 (by decide +kernel) (by decide +kernel)
theorem aw_420 : (Jvm.Cond.instanceMethod ({ cls := "LinkMill$Part", name := "addDefinition", desc := "(IIIZ)I" } : Jvm.MethodName)) ∈ sm_AW := sm_awi 420 (by decide +kernel) (by decide +kernel)
theorem aw_421 : (Jvm.Cond.selects "LinkMill$Part" ({ cls := "LinkMill$Part", name := "addDefinition", desc := "(IIIZ)I" } : Jvm.MethodName) ({ cls := "LinkMill$Part", name := "addDefinition", desc := "(IIIZ)I" } : Jvm.MethodName)) ∈ sm_AW := sm_awi 421 (by decide +kernel) (by decide +kernel)
theorem aw_433 : (Jvm.Cond.code ({ cls := "LinkMill$Part", name := "addFix", desc := "(IIIII)I" } : Jvm.MethodName) prog_7_method_5_code (6 : Nat) (Option.some Jvm.ClassFile.FieldType.int)) ∈ sm_AW := sm_awi 433 (by decide +kernel) (by decide +kernel)
theorem aw_430 : (Jvm.Cond.methodLink "LinkMill" (97 : Nat) ({ cls := "LinkMill$Part", name := "addFix", desc := "(IIIII)I" } : Jvm.MethodName)) ∈ sm_AW := sm_awi 430 (by decide +kernel) (by decide +kernel)
theorem aw_431 : (Jvm.Cond.instanceMethod ({ cls := "LinkMill$Part", name := "addFix", desc := "(IIIII)I" } : Jvm.MethodName)) ∈ sm_AW := sm_awi 431 (by decide +kernel) (by decide +kernel)
theorem aw_432 : (Jvm.Cond.selects "LinkMill$Part" ({ cls := "LinkMill$Part", name := "addFix", desc := "(IIIII)I" } : Jvm.MethodName) ({ cls := "LinkMill$Part", name := "addFix", desc := "(IIIII)I" } : Jvm.MethodName)) ∈ sm_AW := sm_awi 432 (by decide +kernel) (by decide +kernel)
theorem aw_444 : (Jvm.Cond.code ({ cls := "LinkMill$Part", name := "empty", desc := "()V" } : Jvm.MethodName) prog_7_method_3_code (1 : Nat) (Option.none : Option Jvm.ClassFile.FieldType)) ∈ sm_AW := sm_awi 444 (by decide +kernel) (by decide +kernel)
theorem aw_441 : (Jvm.Cond.methodLink "LinkMill" (101 : Nat) ({ cls := "LinkMill$Part", name := "empty", desc := "()V" } : Jvm.MethodName)) ∈ sm_AW := sm_awi 441 (by decide +kernel) (by decide +kernel)
theorem aw_442 : (Jvm.Cond.instanceMethod ({ cls := "LinkMill$Part", name := "empty", desc := "()V" } : Jvm.MethodName)) ∈ sm_AW := sm_awi 442 (by decide +kernel) (by decide +kernel)
theorem aw_443 : (Jvm.Cond.selects "LinkMill$Part" ({ cls := "LinkMill$Part", name := "empty", desc := "()V" } : Jvm.MethodName) ({ cls := "LinkMill$Part", name := "empty", desc := "()V" } : Jvm.MethodName)) ∈ sm_AW := sm_awi 443 (by decide +kernel) (by decide +kernel)
theorem aw_465 : (Jvm.Cond.methodLink "LinkMill$Linker" (75 : Nat) ({ cls := "LinkMill$Part", name := "sectionOf", desc := "(I)LLinkMill$Section;" } : Jvm.MethodName)) ∈ sm_AW := sm_awi 465 (by decide +kernel) (by decide +kernel)
theorem aw_464 : (Jvm.Cond.code ({ cls := "LinkMill$Linker", name := "layOutSections", desc := "(II)I" } : Jvm.MethodName) prog_5_method_4_code (5 : Nat) (Option.some Jvm.ClassFile.FieldType.int)) ∈ sm_AW := sm_awi 464 (by decide +kernel) (by decide +kernel)
theorem aw_461 : (Jvm.Cond.methodLink "LinkMill$Linker" (71 : Nat) ({ cls := "LinkMill$Linker", name := "layOutSections", desc := "(II)I" } : Jvm.MethodName)) ∈ sm_AW := sm_awi 461 (by decide +kernel) (by decide +kernel)
theorem aw_463 : (Jvm.Cond.instanceMethod ({ cls := "LinkMill$Linker", name := "layOutSections", desc := "(II)I" } : Jvm.MethodName)) ∈ sm_AW := sm_awi 463 (by decide +kernel) (by decide +kernel)
theorem as_2 : Cond.selects "LinkMill$Linker" ⟨"LinkMill$Linker", "layOutSections", "(II)I"⟩ ⟨"LinkMill$Linker", "layOutSections", "(II)I"⟩ ∈ sm_AW := sm_aws 2 (by decide +kernel) (by decide +kernel)
theorem aw_2 : (Jvm.Cond.initialized "LinkMill$Linker") ∈ sm_AW := sm_awi 2 (by decide +kernel) (by decide +kernel)
theorem aw_481 : (Jvm.Cond.code ({ cls := "LinkMill$Linker", name := "addressOf", desc := "(III)I" } : Jvm.MethodName) prog_5_method_13_code (4 : Nat) (Option.some Jvm.ClassFile.FieldType.int)) ∈ sm_AW := sm_awi 481 (by decide +kernel) (by decide +kernel)
theorem aw_478 : (Jvm.Cond.methodLink "LinkMill$Linker" (140 : Nat) ({ cls := "LinkMill$Linker", name := "addressOf", desc := "(III)I" } : Jvm.MethodName)) ∈ sm_AW := sm_awi 478 (by decide +kernel) (by decide +kernel)
theorem aw_480 : (Jvm.Cond.instanceMethod ({ cls := "LinkMill$Linker", name := "addressOf", desc := "(III)I" } : Jvm.MethodName)) ∈ sm_AW := sm_awi 480 (by decide +kernel) (by decide +kernel)
theorem as_5 : Cond.selects "LinkMill$Linker" ⟨"LinkMill$Linker", "addressOf", "(III)I"⟩ ⟨"LinkMill$Linker", "addressOf", "(III)I"⟩ ∈ sm_AW := sm_aws 5 (by decide +kernel) (by decide +kernel)
theorem aw_473 : (Jvm.Cond.code ({ cls := "LinkMill$Part", name := "globalDefinitionOf", desc := "(I)I" } : Jvm.MethodName) prog_7_method_8_code (3 : Nat) (Option.some Jvm.ClassFile.FieldType.int)) ∈ sm_AW := sm_awi 473 (by decide +kernel) (by decide +kernel)
theorem aw_470 : (Jvm.Cond.methodLink "LinkMill$Linker" (84 : Nat) ({ cls := "LinkMill$Part", name := "globalDefinitionOf", desc := "(I)I" } : Jvm.MethodName)) ∈ sm_AW := sm_awi 470 (by decide +kernel) (by decide +kernel)
theorem aw_471 : (Jvm.Cond.instanceMethod ({ cls := "LinkMill$Part", name := "globalDefinitionOf", desc := "(I)I" } : Jvm.MethodName)) ∈ sm_AW := sm_awi 471 (by decide +kernel) (by decide +kernel)
theorem aw_472 : (Jvm.Cond.selects "LinkMill$Part" ({ cls := "LinkMill$Part", name := "globalDefinitionOf", desc := "(I)I" } : Jvm.MethodName) ({ cls := "LinkMill$Part", name := "globalDefinitionOf", desc := "(I)I" } : Jvm.MethodName)) ∈ sm_AW := sm_awi 472 (by decide +kernel) (by decide +kernel)
theorem aw_477 : (Jvm.Cond.code ({ cls := "LinkMill$Linker", name := "definedAddress", desc := "(II)I" } : Jvm.MethodName) prog_5_method_12_code (3 : Nat) (Option.some Jvm.ClassFile.FieldType.int)) ∈ sm_AW := sm_awi 477 (by decide +kernel) (by decide +kernel)
theorem aw_474 : (Jvm.Cond.methodLink "LinkMill$Linker" (87 : Nat) ({ cls := "LinkMill$Linker", name := "definedAddress", desc := "(II)I" } : Jvm.MethodName)) ∈ sm_AW := sm_awi 474 (by decide +kernel) (by decide +kernel)
theorem aw_476 : (Jvm.Cond.instanceMethod ({ cls := "LinkMill$Linker", name := "definedAddress", desc := "(II)I" } : Jvm.MethodName)) ∈ sm_AW := sm_awi 476 (by decide +kernel) (by decide +kernel)
theorem as_4 : Cond.selects "LinkMill$Linker" ⟨"LinkMill$Linker", "definedAddress", "(II)I"⟩ ⟨"LinkMill$Linker", "definedAddress", "(II)I"⟩ ∈ sm_AW := sm_aws 4 (by decide +kernel) (by decide +kernel)
theorem aw_497 : (Jvm.Cond.code ({ cls := "LinkMill$Part", name := "timesDefined", desc := "(I)I" } : Jvm.MethodName) prog_7_method_6_code (4 : Nat) (Option.some Jvm.ClassFile.FieldType.int)) ∈ sm_AW := sm_awi 497 (by decide +kernel) (by decide +kernel)
theorem aw_494 : (Jvm.Cond.methodLink "LinkMill$Linker" (104 : Nat) ({ cls := "LinkMill$Part", name := "timesDefined", desc := "(I)I" } : Jvm.MethodName)) ∈ sm_AW := sm_awi 494 (by decide +kernel) (by decide +kernel)
theorem aw_495 : (Jvm.Cond.instanceMethod ({ cls := "LinkMill$Part", name := "timesDefined", desc := "(I)I" } : Jvm.MethodName)) ∈ sm_AW := sm_awi 495 (by decide +kernel) (by decide +kernel)
theorem aw_496 : (Jvm.Cond.selects "LinkMill$Part" ({ cls := "LinkMill$Part", name := "timesDefined", desc := "(I)I" } : Jvm.MethodName) ({ cls := "LinkMill$Part", name := "timesDefined", desc := "(I)I" } : Jvm.MethodName)) ∈ sm_AW := sm_awi 496 (by decide +kernel) (by decide +kernel)
theorem aw_493 : (Jvm.Cond.code ({ cls := "LinkMill$Linker", name := "isDoubled", desc := "(I)Z" } : Jvm.MethodName) prog_5_method_8_code (4 : Nat) (Option.some Jvm.ClassFile.FieldType.boolean)) ∈ sm_AW := sm_awi 493 (by decide +kernel) (by decide +kernel)
theorem aw_490 : (Jvm.Cond.methodLink "LinkMill$Linker" (100 : Nat) ({ cls := "LinkMill$Linker", name := "isDoubled", desc := "(I)Z" } : Jvm.MethodName)) ∈ sm_AW := sm_awi 490 (by decide +kernel) (by decide +kernel)
theorem aw_492 : (Jvm.Cond.instanceMethod ({ cls := "LinkMill$Linker", name := "isDoubled", desc := "(I)Z" } : Jvm.MethodName)) ∈ sm_AW := sm_awi 492 (by decide +kernel) (by decide +kernel)
theorem as_8 : Cond.selects "LinkMill$Linker" ⟨"LinkMill$Linker", "isDoubled", "(I)Z"⟩ ⟨"LinkMill$Linker", "isDoubled", "(I)Z"⟩ ∈ sm_AW := sm_aws 8 (by decide +kernel) (by decide +kernel)
theorem aw_509 : (Jvm.Cond.code ({ cls := "LinkMill$Part", name := "definitionOf", desc := "(I)I" } : Jvm.MethodName) prog_7_method_7_code (3 : Nat) (Option.some Jvm.ClassFile.FieldType.int)) ∈ sm_AW := sm_awi 509 (by decide +kernel) (by decide +kernel)
theorem aw_506 : (Jvm.Cond.methodLink "LinkMill$Linker" (131 : Nat) ({ cls := "LinkMill$Part", name := "definitionOf", desc := "(I)I" } : Jvm.MethodName)) ∈ sm_AW := sm_awi 506 (by decide +kernel) (by decide +kernel)
theorem aw_507 : (Jvm.Cond.instanceMethod ({ cls := "LinkMill$Part", name := "definitionOf", desc := "(I)I" } : Jvm.MethodName)) ∈ sm_AW := sm_awi 507 (by decide +kernel) (by decide +kernel)
theorem aw_508 : (Jvm.Cond.selects "LinkMill$Part" ({ cls := "LinkMill$Part", name := "definitionOf", desc := "(I)I" } : Jvm.MethodName) ({ cls := "LinkMill$Part", name := "definitionOf", desc := "(I)I" } : Jvm.MethodName)) ∈ sm_AW := sm_awi 508 (by decide +kernel) (by decide +kernel)
theorem aw_505 : (Jvm.Cond.code ({ cls := "LinkMill$Linker", name := "addressFor", desc := "(II)I" } : Jvm.MethodName) prog_5_method_11_code (4 : Nat) (Option.some Jvm.ClassFile.FieldType.int)) ∈ sm_AW := sm_awi 505 (by decide +kernel) (by decide +kernel)
theorem aw_502 : (Jvm.Cond.methodLink "LinkMill$Linker" (113 : Nat) ({ cls := "LinkMill$Linker", name := "addressFor", desc := "(II)I" } : Jvm.MethodName)) ∈ sm_AW := sm_awi 502 (by decide +kernel) (by decide +kernel)
theorem aw_504 : (Jvm.Cond.instanceMethod ({ cls := "LinkMill$Linker", name := "addressFor", desc := "(II)I" } : Jvm.MethodName)) ∈ sm_AW := sm_awi 504 (by decide +kernel) (by decide +kernel)
theorem as_10 : Cond.selects "LinkMill$Linker" ⟨"LinkMill$Linker", "addressFor", "(II)I"⟩ ⟨"LinkMill$Linker", "addressFor", "(II)I"⟩ ∈ sm_AW := sm_aws 10 (by decide +kernel) (by decide +kernel)
theorem aw_517 : (Jvm.Cond.code ({ cls := "LinkMill$Linker", name := "fixValue", desc := "(II)I" } : Jvm.MethodName) prog_5_method_15_code (3 : Nat) (Option.some Jvm.ClassFile.FieldType.int)) ∈ sm_AW := sm_awi 517 (by decide +kernel) (by decide +kernel)
theorem aw_514 : (Jvm.Cond.methodLink "LinkMill$Linker" (116 : Nat) ({ cls := "LinkMill$Linker", name := "fixValue", desc := "(II)I" } : Jvm.MethodName)) ∈ sm_AW := sm_awi 514 (by decide +kernel) (by decide +kernel)
theorem aw_516 : (Jvm.Cond.instanceMethod ({ cls := "LinkMill$Linker", name := "fixValue", desc := "(II)I" } : Jvm.MethodName)) ∈ sm_AW := sm_awi 516 (by decide +kernel) (by decide +kernel)
theorem as_12 : Cond.selects "LinkMill$Linker" ⟨"LinkMill$Linker", "fixValue", "(II)I"⟩ ⟨"LinkMill$Linker", "fixValue", "(II)I"⟩ ∈ sm_AW := sm_aws 12 (by decide +kernel) (by decide +kernel)
theorem aw_521 : (Jvm.Cond.code ({ cls := "LinkMill$Linker", name := "fixAddress", desc := "(II)I" } : Jvm.MethodName) prog_5_method_14_code (3 : Nat) (Option.some Jvm.ClassFile.FieldType.int)) ∈ sm_AW := sm_awi 521 (by decide +kernel) (by decide +kernel)
theorem aw_518 : (Jvm.Cond.methodLink "LinkMill$Linker" (119 : Nat) ({ cls := "LinkMill$Linker", name := "fixAddress", desc := "(II)I" } : Jvm.MethodName)) ∈ sm_AW := sm_awi 518 (by decide +kernel) (by decide +kernel)
theorem aw_520 : (Jvm.Cond.instanceMethod ({ cls := "LinkMill$Linker", name := "fixAddress", desc := "(II)I" } : Jvm.MethodName)) ∈ sm_AW := sm_awi 520 (by decide +kernel) (by decide +kernel)
theorem as_13 : Cond.selects "LinkMill$Linker" ⟨"LinkMill$Linker", "fixAddress", "(II)I"⟩ ⟨"LinkMill$Linker", "fixAddress", "(II)I"⟩ ∈ sm_AW := sm_aws 13 (by decide +kernel) (by decide +kernel)
theorem aw_524 : (Jvm.Cond.code ({ cls := "LinkMill$Fix", name := "reaches", desc := "(II)Z" } : Jvm.MethodName) prog_2_method_2_code (3 : Nat) (Option.some Jvm.ClassFile.FieldType.boolean)) ∈ sm_AW := sm_awi 524 (by decide +kernel) (by decide +kernel)
theorem aw_522 : (Jvm.Cond.methodLink "LinkMill$Linker" (125 : Nat) ({ cls := "LinkMill$Fix", name := "reaches", desc := "(II)Z" } : Jvm.MethodName)) ∈ sm_AW := sm_awi 522 (by decide +kernel) (by decide +kernel)
theorem aw_523 : (Jvm.Cond.static ({ cls := "LinkMill$Fix", name := "reaches", desc := "(II)Z" } : Jvm.MethodName)) ∈ sm_AW := sm_awi 523 (by decide +kernel) (by decide +kernel)
theorem aw_14 : (Jvm.Cond.initialized "LinkMill$Fix") ∈ sm_AW := sm_awi 14 (by decide +kernel) (by decide +kernel)
theorem aw_489 : (Jvm.Cond.code ({ cls := "LinkMill$Linker", name := "leastDoubledName", desc := "()I" } : Jvm.MethodName) prog_5_method_7_code (2 : Nat) (Option.some Jvm.ClassFile.FieldType.int)) ∈ sm_AW := sm_awi 489 (by decide +kernel) (by decide +kernel)
theorem aw_486 : (Jvm.Cond.methodLink "LinkMill$Linker" (90 : Nat) ({ cls := "LinkMill$Linker", name := "leastDoubledName", desc := "()I" } : Jvm.MethodName)) ∈ sm_AW := sm_awi 486 (by decide +kernel) (by decide +kernel)
theorem aw_488 : (Jvm.Cond.instanceMethod ({ cls := "LinkMill$Linker", name := "leastDoubledName", desc := "()I" } : Jvm.MethodName)) ∈ sm_AW := sm_awi 488 (by decide +kernel) (by decide +kernel)
theorem as_7 : Cond.selects "LinkMill$Linker" ⟨"LinkMill$Linker", "leastDoubledName", "()I"⟩ ⟨"LinkMill$Linker", "leastDoubledName", "()I"⟩ ∈ sm_AW := sm_aws 7 (by decide +kernel) (by decide +kernel)
theorem aw_501 : (Jvm.Cond.code ({ cls := "LinkMill$Linker", name := "firstNamelessFix", desc := "()I" } : Jvm.MethodName) prog_5_method_9_code (3 : Nat) (Option.some Jvm.ClassFile.FieldType.int)) ∈ sm_AW := sm_awi 501 (by decide +kernel) (by decide +kernel)
theorem aw_498 : (Jvm.Cond.methodLink "LinkMill$Linker" (94 : Nat) ({ cls := "LinkMill$Linker", name := "firstNamelessFix", desc := "()I" } : Jvm.MethodName)) ∈ sm_AW := sm_awi 498 (by decide +kernel) (by decide +kernel)
theorem aw_500 : (Jvm.Cond.instanceMethod ({ cls := "LinkMill$Linker", name := "firstNamelessFix", desc := "()I" } : Jvm.MethodName)) ∈ sm_AW := sm_awi 500 (by decide +kernel) (by decide +kernel)
theorem as_9 : Cond.selects "LinkMill$Linker" ⟨"LinkMill$Linker", "firstNamelessFix", "()I"⟩ ⟨"LinkMill$Linker", "firstNamelessFix", "()I"⟩ ∈ sm_AW := sm_aws 9 (by decide +kernel) (by decide +kernel)
theorem aw_513 : (Jvm.Cond.code ({ cls := "LinkMill$Linker", name := "firstFixOutOfReach", desc := "()I" } : Jvm.MethodName) prog_5_method_10_code (4 : Nat) (Option.some Jvm.ClassFile.FieldType.int)) ∈ sm_AW := sm_awi 513 (by decide +kernel) (by decide +kernel)
theorem aw_510 : (Jvm.Cond.methodLink "LinkMill$Linker" (97 : Nat) ({ cls := "LinkMill$Linker", name := "firstFixOutOfReach", desc := "()I" } : Jvm.MethodName)) ∈ sm_AW := sm_awi 510 (by decide +kernel) (by decide +kernel)
theorem aw_512 : (Jvm.Cond.instanceMethod ({ cls := "LinkMill$Linker", name := "firstFixOutOfReach", desc := "()I" } : Jvm.MethodName)) ∈ sm_AW := sm_awi 512 (by decide +kernel) (by decide +kernel)
theorem as_11 : Cond.selects "LinkMill$Linker" ⟨"LinkMill$Linker", "firstFixOutOfReach", "()I"⟩ ⟨"LinkMill$Linker", "firstFixOutOfReach", "()I"⟩ ∈ sm_AW := sm_aws 11 (by decide +kernel) (by decide +kernel)
theorem aw_236 : (Jvm.Cond.code ({ cls := "LinkMill$Image", name := "wordAt", desc := "(I)I" } : Jvm.MethodName) prog_3_method_3_code (2 : Nat) (Option.some Jvm.ClassFile.FieldType.int)) ∈ sm_AW := sm_awi 236 (by decide +kernel) (by decide +kernel)
theorem aw_233 : (Jvm.Cond.methodLink "LinkMill$Image" (19 : Nat) ({ cls := "LinkMill$Image", name := "wordAt", desc := "(I)I" } : Jvm.MethodName)) ∈ sm_AW := sm_awi 233 (by decide +kernel) (by decide +kernel)
theorem aw_234 : (Jvm.Cond.instanceMethod ({ cls := "LinkMill$Image", name := "wordAt", desc := "(I)I" } : Jvm.MethodName)) ∈ sm_AW := sm_awi 234 (by decide +kernel) (by decide +kernel)
theorem aw_235 : (Jvm.Cond.selects "LinkMill$Image" ({ cls := "LinkMill$Image", name := "wordAt", desc := "(I)I" } : Jvm.MethodName) ({ cls := "LinkMill$Image", name := "wordAt", desc := "(I)I" } : Jvm.MethodName)) ∈ sm_AW := sm_awi 235 (by decide +kernel) (by decide +kernel)
theorem aw_5 : (Jvm.Cond.initialized "LinkMill$Image") ∈ sm_AW := sm_awi 5 (by decide +kernel) (by decide +kernel)
theorem aw_232 : (Jvm.Cond.code ({ cls := "LinkMill$Image", name := "headerWord", desc := "(I)I" } : Jvm.MethodName) prog_3_method_5_code (2 : Nat) (Option.some Jvm.ClassFile.FieldType.int)) ∈ sm_AW := sm_awi 232 (by decide +kernel) (by decide +kernel)
theorem aw_249 : (Jvm.Cond.methodLink "LinkMill$Image" (23 : Nat) ({ cls := "LinkMill$Image", name := "headerWord", desc := "(I)I" } : Jvm.MethodName)) ∈ sm_AW := sm_awi 249 (by decide +kernel) (by decide +kernel)
theorem aw_230 : (Jvm.Cond.instanceMethod ({ cls := "LinkMill$Image", name := "headerWord", desc := "(I)I" } : Jvm.MethodName)) ∈ sm_AW := sm_awi 230 (by decide +kernel) (by decide +kernel)
theorem aw_231 : (Jvm.Cond.selects "LinkMill$Image" ({ cls := "LinkMill$Image", name := "headerWord", desc := "(I)I" } : Jvm.MethodName) ({ cls := "LinkMill$Image", name := "headerWord", desc := "(I)I" } : Jvm.MethodName)) ∈ sm_AW := sm_awi 231 (by decide +kernel) (by decide +kernel)
theorem aw_534 : (Jvm.Cond.constant "LinkMill$Linker" (153 : Nat) (1263422796 : Int32)) ∈ sm_AW := sm_awi 534 (by decide +kernel) (by decide +kernel)
theorem aw_538 : (Jvm.Cond.code ({ cls := "LinkMill$Image", name := "setWord", desc := "(II)V" } : Jvm.MethodName) prog_3_method_4_code (3 : Nat) (Option.none : Option Jvm.ClassFile.FieldType)) ∈ sm_AW := sm_awi 538 (by decide +kernel) (by decide +kernel)
theorem aw_535 : (Jvm.Cond.methodLink "LinkMill$Linker" (154 : Nat) ({ cls := "LinkMill$Image", name := "setWord", desc := "(II)V" } : Jvm.MethodName)) ∈ sm_AW := sm_awi 535 (by decide +kernel) (by decide +kernel)
theorem aw_536 : (Jvm.Cond.instanceMethod ({ cls := "LinkMill$Image", name := "setWord", desc := "(II)V" } : Jvm.MethodName)) ∈ sm_AW := sm_awi 536 (by decide +kernel) (by decide +kernel)
theorem aw_537 : (Jvm.Cond.selects "LinkMill$Image" ({ cls := "LinkMill$Image", name := "setWord", desc := "(II)V" } : Jvm.MethodName) ({ cls := "LinkMill$Image", name := "setWord", desc := "(II)V" } : Jvm.MethodName)) ∈ sm_AW := sm_awi 537 (by decide +kernel) (by decide +kernel)
theorem aw_248 : (Jvm.Cond.code ({ cls := "LinkMill$Image", name := "headerSum", desc := "()I" } : Jvm.MethodName) prog_3_method_6_code (3 : Nat) (Option.some Jvm.ClassFile.FieldType.int)) ∈ sm_AW := sm_awi 248 (by decide +kernel) (by decide +kernel)
theorem aw_539 : (Jvm.Cond.methodLink "LinkMill$Linker" (158 : Nat) ({ cls := "LinkMill$Image", name := "headerSum", desc := "()I" } : Jvm.MethodName)) ∈ sm_AW := sm_awi 539 (by decide +kernel) (by decide +kernel)
theorem aw_246 : (Jvm.Cond.instanceMethod ({ cls := "LinkMill$Image", name := "headerSum", desc := "()I" } : Jvm.MethodName)) ∈ sm_AW := sm_awi 246 (by decide +kernel) (by decide +kernel)
theorem aw_247 : (Jvm.Cond.selects "LinkMill$Image" ({ cls := "LinkMill$Image", name := "headerSum", desc := "()I" } : Jvm.MethodName) ({ cls := "LinkMill$Image", name := "headerSum", desc := "()I" } : Jvm.MethodName)) ∈ sm_AW := sm_awi 247 (by decide +kernel) (by decide +kernel)
theorem aw_547 : (Jvm.Cond.code ({ cls := "LinkMill$Linker", name := "byteOf", desc := "(II)I" } : Jvm.MethodName) prog_5_method_17_code (5 : Nat) (Option.some Jvm.ClassFile.FieldType.int)) ∈ sm_AW := sm_awi 547 (by decide +kernel) (by decide +kernel)
theorem aw_544 : (Jvm.Cond.methodLink "LinkMill$Linker" (161 : Nat) ({ cls := "LinkMill$Linker", name := "byteOf", desc := "(II)I" } : Jvm.MethodName)) ∈ sm_AW := sm_awi 544 (by decide +kernel) (by decide +kernel)
theorem aw_546 : (Jvm.Cond.instanceMethod ({ cls := "LinkMill$Linker", name := "byteOf", desc := "(II)I" } : Jvm.MethodName)) ∈ sm_AW := sm_awi 546 (by decide +kernel) (by decide +kernel)
theorem as_16 : Cond.selects "LinkMill$Linker" ⟨"LinkMill$Linker", "byteOf", "(II)I"⟩ ⟨"LinkMill$Linker", "byteOf", "(II)I"⟩ ∈ sm_AW := sm_aws 16 (by decide +kernel) (by decide +kernel)
theorem aw_558 : (Jvm.Cond.code ({ cls := "java/lang/Math", name := "floorDiv", desc := "(II)I" } : Jvm.MethodName) prog_16_method_47_code (3 : Nat) (Option.some Jvm.ClassFile.FieldType.int)) ∈ sm_AW := sm_awi 558 (by decide +kernel) (by decide +kernel)
theorem aw_556 : (Jvm.Cond.methodLink "LinkMill$Fix" (17 : Nat) ({ cls := "java/lang/Math", name := "floorDiv", desc := "(II)I" } : Jvm.MethodName)) ∈ sm_AW := sm_awi 556 (by decide +kernel) (by decide +kernel)
theorem aw_557 : (Jvm.Cond.static ({ cls := "java/lang/Math", name := "floorDiv", desc := "(II)I" } : Jvm.MethodName)) ∈ sm_AW := sm_awi 557 (by decide +kernel) (by decide +kernel)
theorem aw_15 : (Jvm.Cond.initialized "java/lang/Math") ∈ sm_AW := sm_awi 15 (by decide +kernel) (by decide +kernel)
theorem aw_561 : (Jvm.Cond.code ({ cls := "LinkMill$Fix", name := "withNumber", desc := "(III)I" } : Jvm.MethodName) prog_2_method_4_code (4 : Nat) (Option.some Jvm.ClassFile.FieldType.int)) ∈ sm_AW := sm_awi 561 (by decide +kernel) (by decide +kernel)
theorem aw_559 : (Jvm.Cond.methodLink "LinkMill$Fix" (23 : Nat) ({ cls := "LinkMill$Fix", name := "withNumber", desc := "(III)I" } : Jvm.MethodName)) ∈ sm_AW := sm_awi 559 (by decide +kernel) (by decide +kernel)
theorem aw_560 : (Jvm.Cond.static ({ cls := "LinkMill$Fix", name := "withNumber", desc := "(III)I" } : Jvm.MethodName)) ∈ sm_AW := sm_awi 560 (by decide +kernel) (by decide +kernel)
theorem aw_552 : (Jvm.Cond.methodLink "LinkMill$Linker" (167 : Nat) ({ cls := "LinkMill$Image", name := "wordAt", desc := "(I)I" } : Jvm.MethodName)) ∈ sm_AW := sm_awi 552 (by decide +kernel) (by decide +kernel)
theorem aw_555 : (Jvm.Cond.code ({ cls := "LinkMill$Fix", name := "fixed", desc := "(IIII)I" } : Jvm.MethodName) prog_2_method_3_code (4 : Nat) (Option.some Jvm.ClassFile.FieldType.int)) ∈ sm_AW := sm_awi 555 (by decide +kernel) (by decide +kernel)
theorem aw_553 : (Jvm.Cond.methodLink "LinkMill$Linker" (170 : Nat) ({ cls := "LinkMill$Fix", name := "fixed", desc := "(IIII)I" } : Jvm.MethodName)) ∈ sm_AW := sm_awi 553 (by decide +kernel) (by decide +kernel)
theorem aw_554 : (Jvm.Cond.static ({ cls := "LinkMill$Fix", name := "fixed", desc := "(IIII)I" } : Jvm.MethodName)) ∈ sm_AW := sm_awi 554 (by decide +kernel) (by decide +kernel)
theorem aw_460 : (Jvm.Cond.code ({ cls := "LinkMill$Linker", name := "layOut", desc := "(I)V" } : Jvm.MethodName) prog_5_method_3_code (2 : Nat) (Option.none : Option Jvm.ClassFile.FieldType)) ∈ sm_AW := sm_awi 460 (by decide +kernel) (by decide +kernel)
theorem aw_457 : (Jvm.Cond.methodLink "LinkMill$Linker" (28 : Nat) ({ cls := "LinkMill$Linker", name := "layOut", desc := "(I)V" } : Jvm.MethodName)) ∈ sm_AW := sm_awi 457 (by decide +kernel) (by decide +kernel)
theorem aw_459 : (Jvm.Cond.instanceMethod ({ cls := "LinkMill$Linker", name := "layOut", desc := "(I)V" } : Jvm.MethodName)) ∈ sm_AW := sm_awi 459 (by decide +kernel) (by decide +kernel)
theorem as_1 : Cond.selects "LinkMill$Linker" ⟨"LinkMill$Linker", "layOut", "(I)V"⟩ ⟨"LinkMill$Linker", "layOut", "(I)V"⟩ ∈ sm_AW := sm_aws 1 (by decide +kernel) (by decide +kernel)
theorem aw_469 : (Jvm.Cond.code ({ cls := "LinkMill$Linker", name := "findGlobals", desc := "()V" } : Jvm.MethodName) prog_5_method_5_code (4 : Nat) (Option.none : Option Jvm.ClassFile.FieldType)) ∈ sm_AW := sm_awi 469 (by decide +kernel) (by decide +kernel)
theorem aw_466 : (Jvm.Cond.methodLink "LinkMill$Linker" (32 : Nat) ({ cls := "LinkMill$Linker", name := "findGlobals", desc := "()V" } : Jvm.MethodName)) ∈ sm_AW := sm_awi 466 (by decide +kernel) (by decide +kernel)
theorem aw_468 : (Jvm.Cond.instanceMethod ({ cls := "LinkMill$Linker", name := "findGlobals", desc := "()V" } : Jvm.MethodName)) ∈ sm_AW := sm_awi 468 (by decide +kernel) (by decide +kernel)
theorem as_3 : Cond.selects "LinkMill$Linker" ⟨"LinkMill$Linker", "findGlobals", "()V"⟩ ⟨"LinkMill$Linker", "findGlobals", "()V"⟩ ∈ sm_AW := sm_aws 3 (by decide +kernel) (by decide +kernel)
theorem aw_485 : (Jvm.Cond.code ({ cls := "LinkMill$Linker", name := "refusalOf", desc := "(I)I" } : Jvm.MethodName) prog_5_method_6_code (5 : Nat) (Option.some Jvm.ClassFile.FieldType.int)) ∈ sm_AW := sm_awi 485 (by decide +kernel) (by decide +kernel)
theorem aw_482 : (Jvm.Cond.methodLink "LinkMill$Linker" (35 : Nat) ({ cls := "LinkMill$Linker", name := "refusalOf", desc := "(I)I" } : Jvm.MethodName)) ∈ sm_AW := sm_awi 482 (by decide +kernel) (by decide +kernel)
theorem aw_484 : (Jvm.Cond.instanceMethod ({ cls := "LinkMill$Linker", name := "refusalOf", desc := "(I)I" } : Jvm.MethodName)) ∈ sm_AW := sm_awi 484 (by decide +kernel) (by decide +kernel)
theorem as_6 : Cond.selects "LinkMill$Linker" ⟨"LinkMill$Linker", "refusalOf", "(I)I"⟩ ⟨"LinkMill$Linker", "refusalOf", "(I)I"⟩ ∈ sm_AW := sm_aws 6 (by decide +kernel) (by decide +kernel)
theorem aw_529 : (Jvm.Cond.code ({ cls := "LinkMill$Image", name := "resize", desc := "(I)V" } : Jvm.MethodName) prog_3_method_2_code (3 : Nat) (Option.none : Option Jvm.ClassFile.FieldType)) ∈ sm_AW := sm_awi 529 (by decide +kernel) (by decide +kernel)
theorem aw_526 : (Jvm.Cond.methodLink "LinkMill$Linker" (52 : Nat) ({ cls := "LinkMill$Image", name := "resize", desc := "(I)V" } : Jvm.MethodName)) ∈ sm_AW := sm_awi 526 (by decide +kernel) (by decide +kernel)
theorem aw_527 : (Jvm.Cond.instanceMethod ({ cls := "LinkMill$Image", name := "resize", desc := "(I)V" } : Jvm.MethodName)) ∈ sm_AW := sm_awi 527 (by decide +kernel) (by decide +kernel)
theorem aw_528 : (Jvm.Cond.selects "LinkMill$Image" ({ cls := "LinkMill$Image", name := "resize", desc := "(I)V" } : Jvm.MethodName) ({ cls := "LinkMill$Image", name := "resize", desc := "(I)V" } : Jvm.MethodName)) ∈ sm_AW := sm_awi 528 (by decide +kernel) (by decide +kernel)
theorem aw_533 : (Jvm.Cond.code ({ cls := "LinkMill$Linker", name := "writeHeader", desc := "(LLinkMill$Image;I)V" } : Jvm.MethodName) prog_5_method_16_code (4 : Nat) (Option.none : Option Jvm.ClassFile.FieldType)) ∈ sm_AW := sm_awi 533 (by decide +kernel) (by decide +kernel)
theorem aw_530 : (Jvm.Cond.methodLink "LinkMill$Linker" (57 : Nat) ({ cls := "LinkMill$Linker", name := "writeHeader", desc := "(LLinkMill$Image;I)V" } : Jvm.MethodName)) ∈ sm_AW := sm_awi 530 (by decide +kernel) (by decide +kernel)
theorem aw_532 : (Jvm.Cond.instanceMethod ({ cls := "LinkMill$Linker", name := "writeHeader", desc := "(LLinkMill$Image;I)V" } : Jvm.MethodName)) ∈ sm_AW := sm_awi 532 (by decide +kernel) (by decide +kernel)
theorem as_14 : Cond.selects "LinkMill$Linker" ⟨"LinkMill$Linker", "writeHeader", "(LLinkMill$Image;I)V"⟩ ⟨"LinkMill$Linker", "writeHeader", "(LLinkMill$Image;I)V"⟩ ∈ sm_AW := sm_aws 14 (by decide +kernel) (by decide +kernel)
theorem aw_543 : (Jvm.Cond.code ({ cls := "LinkMill$Linker", name := "writeSection", desc := "(LLinkMill$Image;II)V" } : Jvm.MethodName) prog_5_method_18_code (7 : Nat) (Option.none : Option Jvm.ClassFile.FieldType)) ∈ sm_AW := sm_awi 543 (by decide +kernel) (by decide +kernel)
theorem aw_540 : (Jvm.Cond.methodLink "LinkMill$Linker" (61 : Nat) ({ cls := "LinkMill$Linker", name := "writeSection", desc := "(LLinkMill$Image;II)V" } : Jvm.MethodName)) ∈ sm_AW := sm_awi 540 (by decide +kernel) (by decide +kernel)
theorem aw_542 : (Jvm.Cond.instanceMethod ({ cls := "LinkMill$Linker", name := "writeSection", desc := "(LLinkMill$Image;II)V" } : Jvm.MethodName)) ∈ sm_AW := sm_awi 542 (by decide +kernel) (by decide +kernel)
theorem as_15 : Cond.selects "LinkMill$Linker" ⟨"LinkMill$Linker", "writeSection", "(LLinkMill$Image;II)V"⟩ ⟨"LinkMill$Linker", "writeSection", "(LLinkMill$Image;II)V"⟩ ∈ sm_AW := sm_aws 15 (by decide +kernel) (by decide +kernel)
theorem aw_551 : (Jvm.Cond.code ({ cls := "LinkMill$Linker", name := "makeFixes", desc := "(LLinkMill$Image;I)V" } : Jvm.MethodName) prog_5_method_19_code (6 : Nat) (Option.none : Option Jvm.ClassFile.FieldType)) ∈ sm_AW := sm_awi 551 (by decide +kernel) (by decide +kernel)
theorem aw_548 : (Jvm.Cond.methodLink "LinkMill$Linker" (65 : Nat) ({ cls := "LinkMill$Linker", name := "makeFixes", desc := "(LLinkMill$Image;I)V" } : Jvm.MethodName)) ∈ sm_AW := sm_awi 548 (by decide +kernel) (by decide +kernel)
theorem aw_550 : (Jvm.Cond.instanceMethod ({ cls := "LinkMill$Linker", name := "makeFixes", desc := "(LLinkMill$Image;I)V" } : Jvm.MethodName)) ∈ sm_AW := sm_awi 550 (by decide +kernel) (by decide +kernel)
theorem as_17 : Cond.selects "LinkMill$Linker" ⟨"LinkMill$Linker", "makeFixes", "(LLinkMill$Image;I)V"⟩ ⟨"LinkMill$Linker", "makeFixes", "(LLinkMill$Image;I)V"⟩ ∈ sm_AW := sm_aws 17 (by decide +kernel) (by decide +kernel)
theorem aw_452 : (Jvm.Cond.constant "LinkMill" (104 : Nat) (1000000000 : Int32)) ∈ sm_AW := sm_awi 452 (by decide +kernel) (by decide +kernel)
theorem aw_456 : (Jvm.Cond.code ({ cls := "LinkMill$Linker", name := "build", desc := "(LLinkMill$Image;II)I" } : Jvm.MethodName) prog_5_method_2_code (6 : Nat) (Option.some Jvm.ClassFile.FieldType.int)) ∈ sm_AW := sm_awi 456 (by decide +kernel) (by decide +kernel)
theorem aw_453 : (Jvm.Cond.methodLink "LinkMill" (105 : Nat) ({ cls := "LinkMill$Linker", name := "build", desc := "(LLinkMill$Image;II)I" } : Jvm.MethodName)) ∈ sm_AW := sm_awi 453 (by decide +kernel) (by decide +kernel)
theorem aw_454 : (Jvm.Cond.instanceMethod ({ cls := "LinkMill$Linker", name := "build", desc := "(LLinkMill$Image;II)I" } : Jvm.MethodName)) ∈ sm_AW := sm_awi 454 (by decide +kernel) (by decide +kernel)
theorem aw_455 : (Jvm.Cond.selects "LinkMill$Linker" ({ cls := "LinkMill$Linker", name := "build", desc := "(LLinkMill$Image;II)I" } : Jvm.MethodName) ({ cls := "LinkMill$Linker", name := "build", desc := "(LLinkMill$Image;II)I" } : Jvm.MethodName)) ∈ sm_AW := sm_awi 455 (by decide +kernel) (by decide +kernel)
theorem aw_576 : (Jvm.Cond.constantLong "LinkMill" (116 : Nat) (1000 : Int64)) ∈ sm_AW := sm_awi 576 (by decide +kernel) (by decide +kernel)
theorem aw_577 : (Jvm.Cond.methodLink "LinkMill" (118 : Nat) ({ cls := "LinkMill$Image", name := "resize", desc := "(I)V" } : Jvm.MethodName)) ∈ sm_AW := sm_awi 577 (by decide +kernel) (by decide +kernel)
theorem aw_229 : (Jvm.Cond.methodLink "LinkMill$Reader" (25 : Nat) ({ cls := "LinkMill$Image", name := "headerWord", desc := "(I)I" } : Jvm.MethodName)) ∈ sm_AW := sm_awi 229 (by decide +kernel) (by decide +kernel)
theorem aw_244 : (Jvm.Cond.constantLong "LinkMill$Reader" (44 : Nat) (2147483647 : Int64)) ∈ sm_AW := sm_awi 244 (by decide +kernel) (by decide +kernel)
theorem aw_237 : (Jvm.Cond.constant "LinkMill$Reader" (29 : Nat) (1263422796 : Int32)) ∈ sm_AW := sm_awi 237 (by decide +kernel) (by decide +kernel)
theorem aw_240 : (Jvm.Cond.code ({ cls := "LinkMill$Reader", name := "codeEnd", desc := "(LLinkMill$Image;)J" } : Jvm.MethodName) prog_8_method_4_code (1 : Nat) (Option.some Jvm.ClassFile.FieldType.long)) ∈ sm_AW := sm_awi 240 (by decide +kernel) (by decide +kernel)
theorem aw_238 : (Jvm.Cond.methodLink "LinkMill$Reader" (30 : Nat) ({ cls := "LinkMill$Reader", name := "codeEnd", desc := "(LLinkMill$Image;)J" } : Jvm.MethodName)) ∈ sm_AW := sm_awi 238 (by decide +kernel) (by decide +kernel)
theorem aw_239 : (Jvm.Cond.static ({ cls := "LinkMill$Reader", name := "codeEnd", desc := "(LLinkMill$Image;)J" } : Jvm.MethodName)) ∈ sm_AW := sm_awi 239 (by decide +kernel) (by decide +kernel)
theorem aw_16 : (Jvm.Cond.initialized "LinkMill$Reader") ∈ sm_AW := sm_awi 16 (by decide +kernel) (by decide +kernel)
theorem aw_243 : (Jvm.Cond.code ({ cls := "LinkMill$Reader", name := "isLength", desc := "(II)Z" } : Jvm.MethodName) prog_8_method_5_code (2 : Nat) (Option.some Jvm.ClassFile.FieldType.boolean)) ∈ sm_AW := sm_awi 243 (by decide +kernel) (by decide +kernel)
theorem aw_241 : (Jvm.Cond.methodLink "LinkMill$Reader" (34 : Nat) ({ cls := "LinkMill$Reader", name := "isLength", desc := "(II)Z" } : Jvm.MethodName)) ∈ sm_AW := sm_awi 241 (by decide +kernel) (by decide +kernel)
theorem aw_242 : (Jvm.Cond.static ({ cls := "LinkMill$Reader", name := "isLength", desc := "(II)Z" } : Jvm.MethodName)) ∈ sm_AW := sm_awi 242 (by decide +kernel) (by decide +kernel)
theorem aw_245 : (Jvm.Cond.methodLink "LinkMill$Reader" (38 : Nat) ({ cls := "LinkMill$Image", name := "headerSum", desc := "()I" } : Jvm.MethodName)) ∈ sm_AW := sm_awi 245 (by decide +kernel) (by decide +kernel)
theorem aw_224 : (Jvm.Cond.fieldLink "LinkMill$Reader" (9 : Nat) "LinkMill$Reader" "ORDER" "[I") ∈ sm_AW := sm_awi 224 (by decide +kernel) (by decide +kernel)
theorem aw_228 : (Jvm.Cond.code ({ cls := "LinkMill$Reader", name := "isAsItMust", desc := "(LLinkMill$Image;I)Z" } : Jvm.MethodName) prog_8_method_3_code (3 : Nat) (Option.some Jvm.ClassFile.FieldType.boolean)) ∈ sm_AW := sm_awi 228 (by decide +kernel) (by decide +kernel)
theorem aw_226 : (Jvm.Cond.methodLink "LinkMill$Reader" (21 : Nat) ({ cls := "LinkMill$Reader", name := "isAsItMust", desc := "(LLinkMill$Image;I)Z" } : Jvm.MethodName)) ∈ sm_AW := sm_awi 226 (by decide +kernel) (by decide +kernel)
theorem aw_227 : (Jvm.Cond.static ({ cls := "LinkMill$Reader", name := "isAsItMust", desc := "(LLinkMill$Image;I)Z" } : Jvm.MethodName)) ∈ sm_AW := sm_awi 227 (by decide +kernel) (by decide +kernel)
theorem aw_254 : (Jvm.Cond.methodLink "LinkMill$Machine" (23 : Nat) ({ cls := "LinkMill$Image", name := "headerWord", desc := "(I)I" } : Jvm.MethodName)) ∈ sm_AW := sm_awi 254 (by decide +kernel) (by decide +kernel)
theorem aw_255 : (Jvm.Cond.methodLink "LinkMill$Machine" (42 : Nat) ({ cls := "LinkMill$Image", name := "wordAt", desc := "(I)I" } : Jvm.MethodName)) ∈ sm_AW := sm_awi 255 (by decide +kernel) (by decide +kernel)
theorem aw_223 : (Jvm.Cond.code ({ cls := "LinkMill$Reader", name := "faultOf", desc := "(LLinkMill$Image;)I" } : Jvm.MethodName) prog_8_method_2_code (3 : Nat) (Option.some Jvm.ClassFile.FieldType.int)) ∈ sm_AW := sm_awi 223 (by decide +kernel) (by decide +kernel)
theorem aw_221 : (Jvm.Cond.methodLink "LinkMill" (122 : Nat) ({ cls := "LinkMill$Reader", name := "faultOf", desc := "(LLinkMill$Image;)I" } : Jvm.MethodName)) ∈ sm_AW := sm_awi 221 (by decide +kernel) (by decide +kernel)
theorem aw_222 : (Jvm.Cond.static ({ cls := "LinkMill$Reader", name := "faultOf", desc := "(LLinkMill$Image;)I" } : Jvm.MethodName)) ∈ sm_AW := sm_awi 222 (by decide +kernel) (by decide +kernel)
theorem aw_253 : (Jvm.Cond.code ({ cls := "LinkMill$Machine", name := "start", desc := "(LLinkMill$Image;)V" } : Jvm.MethodName) prog_6_method_2_code (3 : Nat) (Option.none : Option Jvm.ClassFile.FieldType)) ∈ sm_AW := sm_awi 253 (by decide +kernel) (by decide +kernel)
theorem aw_250 : (Jvm.Cond.methodLink "LinkMill" (128 : Nat) ({ cls := "LinkMill$Machine", name := "start", desc := "(LLinkMill$Image;)V" } : Jvm.MethodName)) ∈ sm_AW := sm_awi 250 (by decide +kernel) (by decide +kernel)
theorem aw_251 : (Jvm.Cond.instanceMethod ({ cls := "LinkMill$Machine", name := "start", desc := "(LLinkMill$Image;)V" } : Jvm.MethodName)) ∈ sm_AW := sm_awi 251 (by decide +kernel) (by decide +kernel)
theorem aw_252 : (Jvm.Cond.selects "LinkMill$Machine" ({ cls := "LinkMill$Machine", name := "start", desc := "(LLinkMill$Image;)V" } : Jvm.MethodName) ({ cls := "LinkMill$Machine", name := "start", desc := "(LLinkMill$Image;)V" } : Jvm.MethodName)) ∈ sm_AW := sm_awi 252 (by decide +kernel) (by decide +kernel)
theorem aw_6 : (Jvm.Cond.initialized "LinkMill$Machine") ∈ sm_AW := sm_awi 6 (by decide +kernel) (by decide +kernel)
theorem aw_596 : (Jvm.Cond.constantLong "LinkMill$Machine" (130 : Nat) (4 : Int64)) ∈ sm_AW := sm_awi 596 (by decide +kernel) (by decide +kernel)
theorem aw_603 : (Jvm.Cond.code ({ cls := "LinkMill$Instruction", name := "opOf", desc := "(I)I" } : Jvm.MethodName) prog_4_method_7_code (1 : Nat) (Option.some Jvm.ClassFile.FieldType.int)) ∈ sm_AW := sm_awi 603 (by decide +kernel) (by decide +kernel)
theorem aw_613 : (Jvm.Cond.methodLink "LinkMill$Instruction" (29 : Nat) ({ cls := "LinkMill$Instruction", name := "opOf", desc := "(I)I" } : Jvm.MethodName)) ∈ sm_AW := sm_awi 613 (by decide +kernel) (by decide +kernel)
theorem aw_602 : (Jvm.Cond.static ({ cls := "LinkMill$Instruction", name := "opOf", desc := "(I)I" } : Jvm.MethodName)) ∈ sm_AW := sm_awi 602 (by decide +kernel) (by decide +kernel)
theorem aw_621 : (Jvm.Cond.code ({ cls := "LinkMill$Machine", name := "setRegister", desc := "(II)V" } : Jvm.MethodName) prog_6_method_14_code (3 : Nat) (Option.none : Option Jvm.ClassFile.FieldType)) ∈ sm_AW := sm_awi 621 (by decide +kernel) (by decide +kernel)
theorem aw_618 : (Jvm.Cond.methodLink "LinkMill$Machine" (118 : Nat) ({ cls := "LinkMill$Machine", name := "setRegister", desc := "(II)V" } : Jvm.MethodName)) ∈ sm_AW := sm_awi 618 (by decide +kernel) (by decide +kernel)
theorem aw_620 : (Jvm.Cond.instanceMethod ({ cls := "LinkMill$Machine", name := "setRegister", desc := "(II)V" } : Jvm.MethodName)) ∈ sm_AW := sm_awi 620 (by decide +kernel) (by decide +kernel)
theorem as_21 : Cond.selects "LinkMill$Machine" ⟨"LinkMill$Machine", "setRegister", "(II)V"⟩ ⟨"LinkMill$Machine", "setRegister", "(II)V"⟩ ∈ sm_AW := sm_aws 21 (by decide +kernel) (by decide +kernel)
theorem aw_595 : (Jvm.Cond.code ({ cls := "LinkMill$Machine", name := "placeOf", desc := "(III)I" } : Jvm.MethodName) prog_6_method_17_code (5 : Nat) (Option.some Jvm.ClassFile.FieldType.int)) ∈ sm_AW := sm_awi 595 (by decide +kernel) (by decide +kernel)
theorem aw_593 : (Jvm.Cond.methodLink "LinkMill$Machine" (60 : Nat) ({ cls := "LinkMill$Machine", name := "placeOf", desc := "(III)I" } : Jvm.MethodName)) ∈ sm_AW := sm_awi 593 (by decide +kernel) (by decide +kernel)
theorem aw_594 : (Jvm.Cond.static ({ cls := "LinkMill$Machine", name := "placeOf", desc := "(III)I" } : Jvm.MethodName)) ∈ sm_AW := sm_awi 594 (by decide +kernel) (by decide +kernel)
theorem aw_629 : (Jvm.Cond.code ({ cls := "LinkMill$Machine", name := "indexOf", desc := "(I)I" } : Jvm.MethodName) prog_6_method_16_code (3 : Nat) (Option.some Jvm.ClassFile.FieldType.int)) ∈ sm_AW := sm_awi 629 (by decide +kernel) (by decide +kernel)
theorem aw_626 : (Jvm.Cond.methodLink "LinkMill$Machine" (115 : Nat) ({ cls := "LinkMill$Machine", name := "indexOf", desc := "(I)I" } : Jvm.MethodName)) ∈ sm_AW := sm_awi 626 (by decide +kernel) (by decide +kernel)
theorem aw_627 : (Jvm.Cond.instanceMethod ({ cls := "LinkMill$Machine", name := "indexOf", desc := "(I)I" } : Jvm.MethodName)) ∈ sm_AW := sm_awi 627 (by decide +kernel) (by decide +kernel)
theorem aw_628 : (Jvm.Cond.selects "LinkMill$Machine" ({ cls := "LinkMill$Machine", name := "indexOf", desc := "(I)I" } : Jvm.MethodName) ({ cls := "LinkMill$Machine", name := "indexOf", desc := "(I)I" } : Jvm.MethodName)) ∈ sm_AW := sm_awi 628 (by decide +kernel) (by decide +kernel)
theorem aw_617 : (Jvm.Cond.code ({ cls := "LinkMill$Machine", name := "goOnWith", desc := "(II)V" } : Jvm.MethodName) prog_6_method_13_code (3 : Nat) (Option.none : Option Jvm.ClassFile.FieldType)) ∈ sm_AW := sm_awi 617 (by decide +kernel) (by decide +kernel)
theorem aw_614 : (Jvm.Cond.methodLink "LinkMill$Machine" (82 : Nat) ({ cls := "LinkMill$Machine", name := "goOnWith", desc := "(II)V" } : Jvm.MethodName)) ∈ sm_AW := sm_awi 614 (by decide +kernel) (by decide +kernel)
theorem aw_616 : (Jvm.Cond.instanceMethod ({ cls := "LinkMill$Machine", name := "goOnWith", desc := "(II)V" } : Jvm.MethodName)) ∈ sm_AW := sm_awi 616 (by decide +kernel) (by decide +kernel)
theorem as_20 : Cond.selects "LinkMill$Machine" ⟨"LinkMill$Machine", "goOnWith", "(II)V"⟩ ⟨"LinkMill$Machine", "goOnWith", "(II)V"⟩ ∈ sm_AW := sm_aws 20 (by decide +kernel) (by decide +kernel)
theorem aw_606 : (Jvm.Cond.code ({ cls := "LinkMill$Instruction", name := "aOf", desc := "(I)I" } : Jvm.MethodName) prog_4_method_8_code (1 : Nat) (Option.some Jvm.ClassFile.FieldType.int)) ∈ sm_AW := sm_awi 606 (by decide +kernel) (by decide +kernel)
theorem aw_604 : (Jvm.Cond.methodLink "LinkMill$Machine" (73 : Nat) ({ cls := "LinkMill$Instruction", name := "aOf", desc := "(I)I" } : Jvm.MethodName)) ∈ sm_AW := sm_awi 604 (by decide +kernel) (by decide +kernel)
theorem aw_605 : (Jvm.Cond.static ({ cls := "LinkMill$Instruction", name := "aOf", desc := "(I)I" } : Jvm.MethodName)) ∈ sm_AW := sm_awi 605 (by decide +kernel) (by decide +kernel)
theorem aw_609 : (Jvm.Cond.code ({ cls := "LinkMill$Instruction", name := "bOf", desc := "(I)I" } : Jvm.MethodName) prog_4_method_9_code (1 : Nat) (Option.some Jvm.ClassFile.FieldType.int)) ∈ sm_AW := sm_awi 609 (by decide +kernel) (by decide +kernel)
theorem aw_607 : (Jvm.Cond.methodLink "LinkMill$Machine" (76 : Nat) ({ cls := "LinkMill$Instruction", name := "bOf", desc := "(I)I" } : Jvm.MethodName)) ∈ sm_AW := sm_awi 607 (by decide +kernel) (by decide +kernel)
theorem aw_608 : (Jvm.Cond.static ({ cls := "LinkMill$Instruction", name := "bOf", desc := "(I)I" } : Jvm.MethodName)) ∈ sm_AW := sm_awi 608 (by decide +kernel) (by decide +kernel)
theorem aw_653 : (Jvm.Cond.code ({ cls := "LinkMill$Instruction", name := "registerCOf", desc := "(I)I" } : Jvm.MethodName) prog_4_method_10_code (1 : Nat) (Option.some Jvm.ClassFile.FieldType.int)) ∈ sm_AW := sm_awi 653 (by decide +kernel) (by decide +kernel)
theorem aw_651 : (Jvm.Cond.methodLink "LinkMill$Machine" (109 : Nat) ({ cls := "LinkMill$Instruction", name := "registerCOf", desc := "(I)I" } : Jvm.MethodName)) ∈ sm_AW := sm_awi 651 (by decide +kernel) (by decide +kernel)
theorem aw_652 : (Jvm.Cond.static ({ cls := "LinkMill$Instruction", name := "registerCOf", desc := "(I)I" } : Jvm.MethodName)) ∈ sm_AW := sm_awi 652 (by decide +kernel) (by decide +kernel)
theorem aw_656 : (Jvm.Cond.code ({ cls := "LinkMill$Machine", name := "joined", desc := "(III)I" } : Jvm.MethodName) prog_6_method_7_code (3 : Nat) (Option.some Jvm.ClassFile.FieldType.int)) ∈ sm_AW := sm_awi 656 (by decide +kernel) (by decide +kernel)
theorem aw_654 : (Jvm.Cond.methodLink "LinkMill$Machine" (112 : Nat) ({ cls := "LinkMill$Machine", name := "joined", desc := "(III)I" } : Jvm.MethodName)) ∈ sm_AW := sm_awi 654 (by decide +kernel) (by decide +kernel)
theorem aw_655 : (Jvm.Cond.static ({ cls := "LinkMill$Machine", name := "joined", desc := "(III)I" } : Jvm.MethodName)) ∈ sm_AW := sm_awi 655 (by decide +kernel) (by decide +kernel)
theorem aw_601 : (Jvm.Cond.methodLink "LinkMill$Machine" (68 : Nat) ({ cls := "LinkMill$Instruction", name := "opOf", desc := "(I)I" } : Jvm.MethodName)) ∈ sm_AW := sm_awi 601 (by decide +kernel) (by decide +kernel)
theorem aw_612 : (Jvm.Cond.code ({ cls := "LinkMill$Instruction", name := "numberOf", desc := "(I)I" } : Jvm.MethodName) prog_4_method_11_code (1 : Nat) (Option.some Jvm.ClassFile.FieldType.int)) ∈ sm_AW := sm_awi 612 (by decide +kernel) (by decide +kernel)
theorem aw_610 : (Jvm.Cond.methodLink "LinkMill$Machine" (79 : Nat) ({ cls := "LinkMill$Instruction", name := "numberOf", desc := "(I)I" } : Jvm.MethodName)) ∈ sm_AW := sm_awi 610 (by decide +kernel) (by decide +kernel)
theorem aw_611 : (Jvm.Cond.static ({ cls := "LinkMill$Instruction", name := "numberOf", desc := "(I)I" } : Jvm.MethodName)) ∈ sm_AW := sm_awi 611 (by decide +kernel) (by decide +kernel)
theorem aw_649 : (Jvm.Cond.code ({ cls := "LinkMill$Machine", name := "executeRegisters", desc := "(II)V" } : Jvm.MethodName) prog_6_method_6_code (5 : Nat) (Option.none : Option Jvm.ClassFile.FieldType)) ∈ sm_AW := sm_awi 649 (by decide +kernel) (by decide +kernel)
theorem aw_646 : (Jvm.Cond.methodLink "LinkMill$Machine" (102 : Nat) ({ cls := "LinkMill$Machine", name := "executeRegisters", desc := "(II)V" } : Jvm.MethodName)) ∈ sm_AW := sm_awi 646 (by decide +kernel) (by decide +kernel)
theorem aw_648 : (Jvm.Cond.instanceMethod ({ cls := "LinkMill$Machine", name := "executeRegisters", desc := "(II)V" } : Jvm.MethodName)) ∈ sm_AW := sm_awi 648 (by decide +kernel) (by decide +kernel)
theorem as_27 : Cond.selects "LinkMill$Machine" ⟨"LinkMill$Machine", "executeRegisters", "(II)V"⟩ ⟨"LinkMill$Machine", "executeRegisters", "(II)V"⟩ ∈ sm_AW := sm_aws 27 (by decide +kernel) (by decide +kernel)
theorem aw_625 : (Jvm.Cond.code ({ cls := "LinkMill$Machine", name := "load", desc := "(II)V" } : Jvm.MethodName) prog_6_method_9_code (4 : Nat) (Option.none : Option Jvm.ClassFile.FieldType)) ∈ sm_AW := sm_awi 625 (by decide +kernel) (by decide +kernel)
theorem aw_622 : (Jvm.Cond.methodLink "LinkMill$Machine" (86 : Nat) ({ cls := "LinkMill$Machine", name := "load", desc := "(II)V" } : Jvm.MethodName)) ∈ sm_AW := sm_awi 622 (by decide +kernel) (by decide +kernel)
theorem aw_624 : (Jvm.Cond.instanceMethod ({ cls := "LinkMill$Machine", name := "load", desc := "(II)V" } : Jvm.MethodName)) ∈ sm_AW := sm_awi 624 (by decide +kernel) (by decide +kernel)
theorem as_22 : Cond.selects "LinkMill$Machine" ⟨"LinkMill$Machine", "load", "(II)V"⟩ ⟨"LinkMill$Machine", "load", "(II)V"⟩ ∈ sm_AW := sm_aws 22 (by decide +kernel) (by decide +kernel)
theorem aw_633 : (Jvm.Cond.code ({ cls := "LinkMill$Machine", name := "store", desc := "(II)V" } : Jvm.MethodName) prog_6_method_10_code (4 : Nat) (Option.none : Option Jvm.ClassFile.FieldType)) ∈ sm_AW := sm_awi 633 (by decide +kernel) (by decide +kernel)
theorem aw_630 : (Jvm.Cond.methodLink "LinkMill$Machine" (89 : Nat) ({ cls := "LinkMill$Machine", name := "store", desc := "(II)V" } : Jvm.MethodName)) ∈ sm_AW := sm_awi 630 (by decide +kernel) (by decide +kernel)
theorem aw_632 : (Jvm.Cond.instanceMethod ({ cls := "LinkMill$Machine", name := "store", desc := "(II)V" } : Jvm.MethodName)) ∈ sm_AW := sm_awi 632 (by decide +kernel) (by decide +kernel)
theorem as_23 : Cond.selects "LinkMill$Machine" ⟨"LinkMill$Machine", "store", "(II)V"⟩ ⟨"LinkMill$Machine", "store", "(II)V"⟩ ∈ sm_AW := sm_aws 23 (by decide +kernel) (by decide +kernel)
theorem aw_637 : (Jvm.Cond.code ({ cls := "LinkMill$Machine", name := "branches", desc := "(II)Z" } : Jvm.MethodName) prog_6_method_8_code (6 : Nat) (Option.some Jvm.ClassFile.FieldType.boolean)) ∈ sm_AW := sm_awi 637 (by decide +kernel) (by decide +kernel)
theorem aw_634 : (Jvm.Cond.methodLink "LinkMill$Machine" (92 : Nat) ({ cls := "LinkMill$Machine", name := "branches", desc := "(II)Z" } : Jvm.MethodName)) ∈ sm_AW := sm_awi 634 (by decide +kernel) (by decide +kernel)
theorem aw_636 : (Jvm.Cond.instanceMethod ({ cls := "LinkMill$Machine", name := "branches", desc := "(II)Z" } : Jvm.MethodName)) ∈ sm_AW := sm_awi 636 (by decide +kernel) (by decide +kernel)
theorem as_24 : Cond.selects "LinkMill$Machine" ⟨"LinkMill$Machine", "branches", "(II)Z"⟩ ⟨"LinkMill$Machine", "branches", "(II)Z"⟩ ∈ sm_AW := sm_aws 24 (by decide +kernel) (by decide +kernel)
theorem aw_641 : (Jvm.Cond.code ({ cls := "LinkMill$Machine", name := "leave", desc := "(II)V" } : Jvm.MethodName) prog_6_method_11_code (3 : Nat) (Option.none : Option Jvm.ClassFile.FieldType)) ∈ sm_AW := sm_awi 641 (by decide +kernel) (by decide +kernel)
theorem aw_638 : (Jvm.Cond.methodLink "LinkMill$Machine" (96 : Nat) ({ cls := "LinkMill$Machine", name := "leave", desc := "(II)V" } : Jvm.MethodName)) ∈ sm_AW := sm_awi 638 (by decide +kernel) (by decide +kernel)
theorem aw_640 : (Jvm.Cond.instanceMethod ({ cls := "LinkMill$Machine", name := "leave", desc := "(II)V" } : Jvm.MethodName)) ∈ sm_AW := sm_awi 640 (by decide +kernel) (by decide +kernel)
theorem as_25 : Cond.selects "LinkMill$Machine" ⟨"LinkMill$Machine", "leave", "(II)V"⟩ ⟨"LinkMill$Machine", "leave", "(II)V"⟩ ∈ sm_AW := sm_aws 25 (by decide +kernel) (by decide +kernel)
theorem aw_645 : (Jvm.Cond.code ({ cls := "LinkMill$Machine", name := "show", desc := "(I)V" } : Jvm.MethodName) prog_6_method_12_code (2 : Nat) (Option.none : Option Jvm.ClassFile.FieldType)) ∈ sm_AW := sm_awi 645 (by decide +kernel) (by decide +kernel)
theorem aw_642 : (Jvm.Cond.methodLink "LinkMill$Machine" (99 : Nat) ({ cls := "LinkMill$Machine", name := "show", desc := "(I)V" } : Jvm.MethodName)) ∈ sm_AW := sm_awi 642 (by decide +kernel) (by decide +kernel)
theorem aw_644 : (Jvm.Cond.instanceMethod ({ cls := "LinkMill$Machine", name := "show", desc := "(I)V" } : Jvm.MethodName)) ∈ sm_AW := sm_awi 644 (by decide +kernel) (by decide +kernel)
theorem as_26 : Cond.selects "LinkMill$Machine" ⟨"LinkMill$Machine", "show", "(I)V"⟩ ⟨"LinkMill$Machine", "show", "(I)V"⟩ ∈ sm_AW := sm_aws 26 (by decide +kernel) (by decide +kernel)
theorem aw_600 : (Jvm.Cond.code ({ cls := "LinkMill$Machine", name := "execute", desc := "(I)V" } : Jvm.MethodName) prog_6_method_5_code (5 : Nat) (Option.none : Option Jvm.ClassFile.FieldType)) ∈ sm_AW := sm_awi 600 (by decide +kernel) (by decide +kernel)
theorem aw_597 : (Jvm.Cond.methodLink "LinkMill$Machine" (64 : Nat) ({ cls := "LinkMill$Machine", name := "execute", desc := "(I)V" } : Jvm.MethodName)) ∈ sm_AW := sm_awi 597 (by decide +kernel) (by decide +kernel)
theorem aw_599 : (Jvm.Cond.instanceMethod ({ cls := "LinkMill$Machine", name := "execute", desc := "(I)V" } : Jvm.MethodName)) ∈ sm_AW := sm_awi 599 (by decide +kernel) (by decide +kernel)
theorem as_19 : Cond.selects "LinkMill$Machine" ⟨"LinkMill$Machine", "execute", "(I)V"⟩ ⟨"LinkMill$Machine", "execute", "(I)V"⟩ ∈ sm_AW := sm_aws 19 (by decide +kernel) (by decide +kernel)
theorem aw_592 : (Jvm.Cond.code ({ cls := "LinkMill$Machine", name := "step", desc := "()V" } : Jvm.MethodName) prog_6_method_4_code (2 : Nat) (Option.none : Option Jvm.ClassFile.FieldType)) ∈ sm_AW := sm_awi 592 (by decide +kernel) (by decide +kernel)
theorem aw_589 : (Jvm.Cond.methodLink "LinkMill$Machine" (57 : Nat) ({ cls := "LinkMill$Machine", name := "step", desc := "()V" } : Jvm.MethodName)) ∈ sm_AW := sm_awi 589 (by decide +kernel) (by decide +kernel)
theorem aw_591 : (Jvm.Cond.instanceMethod ({ cls := "LinkMill$Machine", name := "step", desc := "()V" } : Jvm.MethodName)) ∈ sm_AW := sm_awi 591 (by decide +kernel) (by decide +kernel)
theorem as_18 : Cond.selects "LinkMill$Machine" ⟨"LinkMill$Machine", "step", "()V"⟩ ⟨"LinkMill$Machine", "step", "()V"⟩ ∈ sm_AW := sm_aws 18 (by decide +kernel) (by decide +kernel)
theorem aw_588 : (Jvm.Cond.code ({ cls := "LinkMill$Machine", name := "advance", desc := "(I)I" } : Jvm.MethodName) prog_6_method_3_code (4 : Nat) (Option.some Jvm.ClassFile.FieldType.int)) ∈ sm_AW := sm_awi 588 (by decide +kernel) (by decide +kernel)
theorem aw_585 : (Jvm.Cond.methodLink "LinkMill" (135 : Nat) ({ cls := "LinkMill$Machine", name := "advance", desc := "(I)I" } : Jvm.MethodName)) ∈ sm_AW := sm_awi 585 (by decide +kernel) (by decide +kernel)
theorem aw_586 : (Jvm.Cond.instanceMethod ({ cls := "LinkMill$Machine", name := "advance", desc := "(I)I" } : Jvm.MethodName)) ∈ sm_AW := sm_awi 586 (by decide +kernel) (by decide +kernel)
theorem aw_587 : (Jvm.Cond.selects "LinkMill$Machine" ({ cls := "LinkMill$Machine", name := "advance", desc := "(I)I" } : Jvm.MethodName) ({ cls := "LinkMill$Machine", name := "advance", desc := "(I)I" } : Jvm.MethodName)) ∈ sm_AW := sm_awi 587 (by decide +kernel) (by decide +kernel)
theorem aw_665 : (Jvm.Cond.methodLink "LinkMill" (144 : Nat) ({ cls := "LinkMill$Machine", name := "indexOf", desc := "(I)I" } : Jvm.MethodName)) ∈ sm_AW := sm_awi 665 (by decide +kernel) (by decide +kernel)
theorem aw_274 : (Jvm.Cond.code ({ cls := "java/lang/Math", name := "min", desc := "(II)I" } : Jvm.MethodName) prog_16_method_69_code (2 : Nat) (Option.some Jvm.ClassFile.FieldType.int)) ∈ sm_AW := sm_awi 274 (by decide +kernel) (by decide +kernel)
theorem aw_272 : (Jvm.Cond.methodLink "LinkMill$Machine" (121 : Nat) ({ cls := "java/lang/Math", name := "min", desc := "(II)I" } : Jvm.MethodName)) ∈ sm_AW := sm_awi 272 (by decide +kernel) (by decide +kernel)
theorem aw_273 : (Jvm.Cond.static ({ cls := "java/lang/Math", name := "min", desc := "(II)I" } : Jvm.MethodName)) ∈ sm_AW := sm_awi 273 (by decide +kernel) (by decide +kernel)
theorem aw_271 : (Jvm.Cond.code ({ cls := "LinkMill$Machine", name := "lastShown", desc := "(I)I" } : Jvm.MethodName) prog_6_method_15_code (2 : Nat) (Option.some Jvm.ClassFile.FieldType.int)) ∈ sm_AW := sm_awi 271 (by decide +kernel) (by decide +kernel)
theorem aw_268 : (Jvm.Cond.methodLink "LinkMill" (153 : Nat) ({ cls := "LinkMill$Machine", name := "lastShown", desc := "(I)I" } : Jvm.MethodName)) ∈ sm_AW := sm_awi 268 (by decide +kernel) (by decide +kernel)
theorem aw_269 : (Jvm.Cond.instanceMethod ({ cls := "LinkMill$Machine", name := "lastShown", desc := "(I)I" } : Jvm.MethodName)) ∈ sm_AW := sm_awi 269 (by decide +kernel) (by decide +kernel)
theorem aw_270 : (Jvm.Cond.selects "LinkMill$Machine" ({ cls := "LinkMill$Machine", name := "lastShown", desc := "(I)I" } : Jvm.MethodName) ({ cls := "LinkMill$Machine", name := "lastShown", desc := "(I)I" } : Jvm.MethodName)) ∈ sm_AW := sm_awi 270 (by decide +kernel) (by decide +kernel)
theorem aw_797 : (Jvm.Cond.code ({ cls := "LinkMillModel", name := "placeOf", desc := "(I)I" } : Jvm.MethodName) prog_11_method_4_code (1 : Nat) (Option.some Jvm.ClassFile.FieldType.int)) ∈ sm_AW := sm_awi 797 (by decide +kernel) (by decide +kernel)
theorem aw_795 : (Jvm.Cond.methodLink "LinkMillModel" (78 : Nat) ({ cls := "LinkMillModel", name := "placeOf", desc := "(I)I" } : Jvm.MethodName)) ∈ sm_AW := sm_awi 795 (by decide +kernel) (by decide +kernel)
theorem aw_796 : (Jvm.Cond.static ({ cls := "LinkMillModel", name := "placeOf", desc := "(I)I" } : Jvm.MethodName)) ∈ sm_AW := sm_awi 796 (by decide +kernel) (by decide +kernel)
theorem aw_7 : (Jvm.Cond.initialized "LinkMillModel") ∈ sm_AW := sm_awi 7 (by decide +kernel) (by decide +kernel)
theorem aw_800 : (Jvm.Cond.code ({ cls := "LinkMillModel", name := "fits", desc := "(II)Z" } : Jvm.MethodName) prog_11_method_5_code (2 : Nat) (Option.some Jvm.ClassFile.FieldType.boolean)) ∈ sm_AW := sm_awi 800 (by decide +kernel) (by decide +kernel)
theorem aw_798 : (Jvm.Cond.methodLink "LinkMillModel" (86 : Nat) ({ cls := "LinkMillModel", name := "fits", desc := "(II)Z" } : Jvm.MethodName)) ∈ sm_AW := sm_awi 798 (by decide +kernel) (by decide +kernel)
theorem aw_799 : (Jvm.Cond.static ({ cls := "LinkMillModel", name := "fits", desc := "(II)Z" } : Jvm.MethodName)) ∈ sm_AW := sm_awi 799 (by decide +kernel) (by decide +kernel)
theorem aw_791 : (Jvm.Cond.code ({ cls := "LinkMillModel", name := "within", desc := "(III)Z" } : Jvm.MethodName) prog_11_method_3_code (3 : Nat) (Option.some Jvm.ClassFile.FieldType.boolean)) ∈ sm_AW := sm_awi 791 (by decide +kernel) (by decide +kernel)
theorem aw_789 : (Jvm.Cond.methodLink "LinkMillModel" (82 : Nat) ({ cls := "LinkMillModel", name := "within", desc := "(III)Z" } : Jvm.MethodName)) ∈ sm_AW := sm_awi 789 (by decide +kernel) (by decide +kernel)
theorem aw_790 : (Jvm.Cond.static ({ cls := "LinkMillModel", name := "within", desc := "(III)Z" } : Jvm.MethodName)) ∈ sm_AW := sm_awi 790 (by decide +kernel) (by decide +kernel)
theorem aw_803 : (Jvm.Cond.code ({ cls := "LinkMillModel", name := "packed", desc := "(IIII)I" } : Jvm.MethodName) prog_11_method_7_code (6 : Nat) (Option.some Jvm.ClassFile.FieldType.int)) ∈ sm_AW := sm_awi 803 (by decide +kernel) (by decide +kernel)
theorem aw_801 : (Jvm.Cond.methodLink "LinkMillModel" (93 : Nat) ({ cls := "LinkMillModel", name := "packed", desc := "(IIII)I" } : Jvm.MethodName)) ∈ sm_AW := sm_awi 801 (by decide +kernel) (by decide +kernel)
theorem aw_802 : (Jvm.Cond.static ({ cls := "LinkMillModel", name := "packed", desc := "(IIII)I" } : Jvm.MethodName)) ∈ sm_AW := sm_awi 802 (by decide +kernel) (by decide +kernel)
theorem aw_794 : (Jvm.Cond.code ({ cls := "LinkMillModel", name := "isC", desc := "(II)Z" } : Jvm.MethodName) prog_11_method_6_code (3 : Nat) (Option.some Jvm.ClassFile.FieldType.boolean)) ∈ sm_AW := sm_awi 794 (by decide +kernel) (by decide +kernel)
theorem aw_792 : (Jvm.Cond.methodLink "LinkMillModel" (90 : Nat) ({ cls := "LinkMillModel", name := "isC", desc := "(II)Z" } : Jvm.MethodName)) ∈ sm_AW := sm_awi 792 (by decide +kernel) (by decide +kernel)
theorem aw_793 : (Jvm.Cond.static ({ cls := "LinkMillModel", name := "isC", desc := "(II)Z" } : Jvm.MethodName)) ∈ sm_AW := sm_awi 793 (by decide +kernel) (by decide +kernel)
theorem aw_844 : (Jvm.Cond.code ({ cls := "LinkMillModel", name := "definition", desc := "(IIZ)I" } : Jvm.MethodName) prog_11_method_13_code (6 : Nat) (Option.some Jvm.ClassFile.FieldType.int)) ∈ sm_AW := sm_awi 844 (by decide +kernel) (by decide +kernel)
theorem aw_841 : (Jvm.Cond.methodLink "LinkMillModel" (97 : Nat) ({ cls := "LinkMillModel", name := "definition", desc := "(IIZ)I" } : Jvm.MethodName)) ∈ sm_AW := sm_awi 841 (by decide +kernel) (by decide +kernel)
theorem aw_843 : (Jvm.Cond.instanceMethod ({ cls := "LinkMillModel", name := "definition", desc := "(IIZ)I" } : Jvm.MethodName)) ∈ sm_AW := sm_awi 843 (by decide +kernel) (by decide +kernel)
theorem as_32 : Cond.selects "LinkMillModel" ⟨"LinkMillModel", "definition", "(IIZ)I"⟩ ⟨"LinkMillModel", "definition", "(IIZ)I"⟩ ∈ sm_AW := sm_aws 32 (by decide +kernel) (by decide +kernel)
theorem aw_848 : (Jvm.Cond.code ({ cls := "LinkMillModel", name := "globalOne", desc := "(I)I" } : Jvm.MethodName) prog_11_method_14_code (5 : Nat) (Option.some Jvm.ClassFile.FieldType.int)) ∈ sm_AW := sm_awi 848 (by decide +kernel) (by decide +kernel)
theorem aw_845 : (Jvm.Cond.methodLink "LinkMillModel" (101 : Nat) ({ cls := "LinkMillModel", name := "globalOne", desc := "(I)I" } : Jvm.MethodName)) ∈ sm_AW := sm_awi 845 (by decide +kernel) (by decide +kernel)
theorem aw_847 : (Jvm.Cond.instanceMethod ({ cls := "LinkMillModel", name := "globalOne", desc := "(I)I" } : Jvm.MethodName)) ∈ sm_AW := sm_awi 847 (by decide +kernel) (by decide +kernel)
theorem as_33 : Cond.selects "LinkMillModel" ⟨"LinkMillModel", "globalOne", "(I)I"⟩ ⟨"LinkMillModel", "globalOne", "(I)I"⟩ ∈ sm_AW := sm_aws 33 (by decide +kernel) (by decide +kernel)
theorem aw_840 : (Jvm.Cond.code ({ cls := "LinkMillModel", name := "needed", desc := "(II)I" } : Jvm.MethodName) prog_11_method_16_code (4 : Nat) (Option.some Jvm.ClassFile.FieldType.int)) ∈ sm_AW := sm_awi 840 (by decide +kernel) (by decide +kernel)
theorem aw_837 : (Jvm.Cond.methodLink "LinkMillModel" (104 : Nat) ({ cls := "LinkMillModel", name := "needed", desc := "(II)I" } : Jvm.MethodName)) ∈ sm_AW := sm_awi 837 (by decide +kernel) (by decide +kernel)
theorem aw_839 : (Jvm.Cond.instanceMethod ({ cls := "LinkMillModel", name := "needed", desc := "(II)I" } : Jvm.MethodName)) ∈ sm_AW := sm_awi 839 (by decide +kernel) (by decide +kernel)
theorem as_31 : Cond.selects "LinkMillModel" ⟨"LinkMillModel", "needed", "(II)I"⟩ ⟨"LinkMillModel", "needed", "(II)I"⟩ ∈ sm_AW := sm_aws 31 (by decide +kernel) (by decide +kernel)
theorem aw_856 : (Jvm.Cond.code ({ cls := "LinkMillModel", name := "valueOf", desc := "(I)I" } : Jvm.MethodName) prog_11_method_17_code (2 : Nat) (Option.some Jvm.ClassFile.FieldType.int)) ∈ sm_AW := sm_awi 856 (by decide +kernel) (by decide +kernel)
theorem aw_853 : (Jvm.Cond.methodLink "LinkMillModel" (108 : Nat) ({ cls := "LinkMillModel", name := "valueOf", desc := "(I)I" } : Jvm.MethodName)) ∈ sm_AW := sm_awi 853 (by decide +kernel) (by decide +kernel)
theorem aw_855 : (Jvm.Cond.instanceMethod ({ cls := "LinkMillModel", name := "valueOf", desc := "(I)I" } : Jvm.MethodName)) ∈ sm_AW := sm_awi 855 (by decide +kernel) (by decide +kernel)
theorem as_35 : Cond.selects "LinkMillModel" ⟨"LinkMillModel", "valueOf", "(I)I"⟩ ⟨"LinkMillModel", "valueOf", "(I)I"⟩ ∈ sm_AW := sm_aws 35 (by decide +kernel) (by decide +kernel)
theorem aw_859 : (Jvm.Cond.code ({ cls := "LinkMillModel", name := "with", desc := "(III)I" } : Jvm.MethodName) prog_11_method_18_code (3 : Nat) (Option.some Jvm.ClassFile.FieldType.int)) ∈ sm_AW := sm_awi 859 (by decide +kernel) (by decide +kernel)
theorem aw_857 : (Jvm.Cond.methodLink "LinkMillModel" (111 : Nat) ({ cls := "LinkMillModel", name := "with", desc := "(III)I" } : Jvm.MethodName)) ∈ sm_AW := sm_awi 857 (by decide +kernel) (by decide +kernel)
theorem aw_858 : (Jvm.Cond.static ({ cls := "LinkMillModel", name := "with", desc := "(III)I" } : Jvm.MethodName)) ∈ sm_AW := sm_awi 858 (by decide +kernel) (by decide +kernel)
theorem aw_852 : (Jvm.Cond.code ({ cls := "LinkMillModel", name := "makes", desc := "(I)Z" } : Jvm.MethodName) prog_11_method_19_code (10 : Nat) (Option.some Jvm.ClassFile.FieldType.boolean)) ∈ sm_AW := sm_awi 852 (by decide +kernel) (by decide +kernel)
theorem aw_849 : (Jvm.Cond.methodLink "LinkMillModel" (119 : Nat) ({ cls := "LinkMillModel", name := "makes", desc := "(I)Z" } : Jvm.MethodName)) ∈ sm_AW := sm_awi 849 (by decide +kernel) (by decide +kernel)
theorem aw_851 : (Jvm.Cond.instanceMethod ({ cls := "LinkMillModel", name := "makes", desc := "(I)Z" } : Jvm.MethodName)) ∈ sm_AW := sm_awi 851 (by decide +kernel) (by decide +kernel)
theorem as_34 : Cond.selects "LinkMillModel" ⟨"LinkMillModel", "makes", "(I)Z"⟩ ⟨"LinkMillModel", "makes", "(I)Z"⟩ ∈ sm_AW := sm_aws 34 (by decide +kernel) (by decide +kernel)
theorem aw_836 : (Jvm.Cond.code ({ cls := "LinkMillModel", name := "twice", desc := "(I)Z" } : Jvm.MethodName) prog_11_method_15_code (8 : Nat) (Option.some Jvm.ClassFile.FieldType.boolean)) ∈ sm_AW := sm_awi 836 (by decide +kernel) (by decide +kernel)
theorem aw_833 : (Jvm.Cond.methodLink "LinkMillModel" (115 : Nat) ({ cls := "LinkMillModel", name := "twice", desc := "(I)Z" } : Jvm.MethodName)) ∈ sm_AW := sm_awi 833 (by decide +kernel) (by decide +kernel)
theorem aw_835 : (Jvm.Cond.instanceMethod ({ cls := "LinkMillModel", name := "twice", desc := "(I)Z" } : Jvm.MethodName)) ∈ sm_AW := sm_awi 835 (by decide +kernel) (by decide +kernel)
theorem as_30 : Cond.selects "LinkMillModel" ⟨"LinkMillModel", "twice", "(I)Z"⟩ ⟨"LinkMillModel", "twice", "(I)Z"⟩ ∈ sm_AW := sm_aws 30 (by decide +kernel) (by decide +kernel)
theorem aw_864 : (Jvm.Cond.constant "LinkMillModel" (136 : Nat) (1263422796 : Int32)) ∈ sm_AW := sm_awi 864 (by decide +kernel) (by decide +kernel)
theorem aw_824 : (Jvm.Cond.constant "LinkMillModel" (125 : Nat) (1000000000 : Int32)) ∈ sm_AW := sm_awi 824 (by decide +kernel) (by decide +kernel)
theorem aw_828 : (Jvm.Cond.code ({ cls := "LinkMillModel", name := "begins", desc := "(I)V" } : Jvm.MethodName) prog_11_method_21_code (5 : Nat) (Option.none : Option Jvm.ClassFile.FieldType)) ∈ sm_AW := sm_awi 828 (by decide +kernel) (by decide +kernel)
theorem aw_825 : (Jvm.Cond.methodLink "LinkMillModel" (126 : Nat) ({ cls := "LinkMillModel", name := "begins", desc := "(I)V" } : Jvm.MethodName)) ∈ sm_AW := sm_awi 825 (by decide +kernel) (by decide +kernel)
theorem aw_827 : (Jvm.Cond.instanceMethod ({ cls := "LinkMillModel", name := "begins", desc := "(I)V" } : Jvm.MethodName)) ∈ sm_AW := sm_awi 827 (by decide +kernel) (by decide +kernel)
theorem as_28 : Cond.selects "LinkMillModel" ⟨"LinkMillModel", "begins", "(I)V"⟩ ⟨"LinkMillModel", "begins", "(I)V"⟩ ∈ sm_AW := sm_aws 28 (by decide +kernel) (by decide +kernel)
theorem aw_832 : (Jvm.Cond.code ({ cls := "LinkMillModel", name := "refusal", desc := "(I)I" } : Jvm.MethodName) prog_11_method_22_code (5 : Nat) (Option.some Jvm.ClassFile.FieldType.int)) ∈ sm_AW := sm_awi 832 (by decide +kernel) (by decide +kernel)
theorem aw_829 : (Jvm.Cond.methodLink "LinkMillModel" (130 : Nat) ({ cls := "LinkMillModel", name := "refusal", desc := "(I)I" } : Jvm.MethodName)) ∈ sm_AW := sm_awi 829 (by decide +kernel) (by decide +kernel)
theorem aw_831 : (Jvm.Cond.instanceMethod ({ cls := "LinkMillModel", name := "refusal", desc := "(I)I" } : Jvm.MethodName)) ∈ sm_AW := sm_awi 831 (by decide +kernel) (by decide +kernel)
theorem as_29 : Cond.selects "LinkMillModel" ⟨"LinkMillModel", "refusal", "(I)I"⟩ ⟨"LinkMillModel", "refusal", "(I)I"⟩ ∈ sm_AW := sm_aws 29 (by decide +kernel) (by decide +kernel)
theorem aw_863 : (Jvm.Cond.code ({ cls := "LinkMillModel", name := "end", desc := "(I)I" } : Jvm.MethodName) prog_11_method_20_code (4 : Nat) (Option.some Jvm.ClassFile.FieldType.int)) ∈ sm_AW := sm_awi 863 (by decide +kernel) (by decide +kernel)
theorem aw_860 : (Jvm.Cond.methodLink "LinkMillModel" (133 : Nat) ({ cls := "LinkMillModel", name := "end", desc := "(I)I" } : Jvm.MethodName)) ∈ sm_AW := sm_awi 860 (by decide +kernel) (by decide +kernel)
theorem aw_862 : (Jvm.Cond.instanceMethod ({ cls := "LinkMillModel", name := "end", desc := "(I)I" } : Jvm.MethodName)) ∈ sm_AW := sm_awi 862 (by decide +kernel) (by decide +kernel)
theorem as_36 : Cond.selects "LinkMillModel" ⟨"LinkMillModel", "end", "(I)I"⟩ ⟨"LinkMillModel", "end", "(I)I"⟩ ∈ sm_AW := sm_aws 36 (by decide +kernel) (by decide +kernel)
theorem aw_868 : (Jvm.Cond.code ({ cls := "LinkMillModel", name := "bytes", desc := "(I)V" } : Jvm.MethodName) prog_11_method_23_code (3 : Nat) (Option.none : Option Jvm.ClassFile.FieldType)) ∈ sm_AW := sm_awi 868 (by decide +kernel) (by decide +kernel)
theorem aw_865 : (Jvm.Cond.methodLink "LinkMillModel" (137 : Nat) ({ cls := "LinkMillModel", name := "bytes", desc := "(I)V" } : Jvm.MethodName)) ∈ sm_AW := sm_awi 865 (by decide +kernel) (by decide +kernel)
theorem aw_867 : (Jvm.Cond.instanceMethod ({ cls := "LinkMillModel", name := "bytes", desc := "(I)V" } : Jvm.MethodName)) ∈ sm_AW := sm_awi 867 (by decide +kernel) (by decide +kernel)
theorem as_37 : Cond.selects "LinkMillModel" ⟨"LinkMillModel", "bytes", "(I)V"⟩ ⟨"LinkMillModel", "bytes", "(I)V"⟩ ∈ sm_AW := sm_aws 37 (by decide +kernel) (by decide +kernel)
theorem aw_881 : (Jvm.Cond.constantLong "LinkMillModel" (140 : Nat) (1000 : Int64)) ∈ sm_AW := sm_awi 881 (by decide +kernel) (by decide +kernel)
theorem aw_897 : (Jvm.Cond.constantLong "LinkMillModel" (145 : Nat) (2147483647 : Int64)) ∈ sm_AW := sm_awi 897 (by decide +kernel) (by decide +kernel)
theorem aw_896 : (Jvm.Cond.code ({ cls := "LinkMillModel", name := "wordAt", desc := "(I)I" } : Jvm.MethodName) prog_11_method_28_code (2 : Nat) (Option.some Jvm.ClassFile.FieldType.int)) ∈ sm_AW := sm_awi 896 (by decide +kernel) (by decide +kernel)
theorem aw_893 : (Jvm.Cond.methodLink "LinkMillModel" (142 : Nat) ({ cls := "LinkMillModel", name := "wordAt", desc := "(I)I" } : Jvm.MethodName)) ∈ sm_AW := sm_awi 893 (by decide +kernel) (by decide +kernel)
theorem aw_895 : (Jvm.Cond.instanceMethod ({ cls := "LinkMillModel", name := "wordAt", desc := "(I)I" } : Jvm.MethodName)) ∈ sm_AW := sm_awi 895 (by decide +kernel) (by decide +kernel)
theorem as_39 : Cond.selects "LinkMillModel" ⟨"LinkMillModel", "wordAt", "(I)I"⟩ ⟨"LinkMillModel", "wordAt", "(I)I"⟩ ∈ sm_AW := sm_aws 39 (by decide +kernel) (by decide +kernel)
theorem aw_888 : (Jvm.Cond.code ({ cls := "LinkMillModel", name := "turn", desc := "(I)I" } : Jvm.MethodName) prog_11_method_30_code (1 : Nat) (Option.some Jvm.ClassFile.FieldType.int)) ∈ sm_AW := sm_awi 888 (by decide +kernel) (by decide +kernel)
theorem aw_886 : (Jvm.Cond.methodLink "LinkMillModel" (147 : Nat) ({ cls := "LinkMillModel", name := "turn", desc := "(I)I" } : Jvm.MethodName)) ∈ sm_AW := sm_awi 886 (by decide +kernel) (by decide +kernel)
theorem aw_887 : (Jvm.Cond.static ({ cls := "LinkMillModel", name := "turn", desc := "(I)I" } : Jvm.MethodName)) ∈ sm_AW := sm_awi 887 (by decide +kernel) (by decide +kernel)
theorem aw_892 : (Jvm.Cond.code ({ cls := "LinkMillModel", name := "isGood", desc := "(I)Z" } : Jvm.MethodName) prog_11_method_29_code (5 : Nat) (Option.some Jvm.ClassFile.FieldType.boolean)) ∈ sm_AW := sm_awi 892 (by decide +kernel) (by decide +kernel)
theorem aw_889 : (Jvm.Cond.methodLink "LinkMillModel" (150 : Nat) ({ cls := "LinkMillModel", name := "isGood", desc := "(I)Z" } : Jvm.MethodName)) ∈ sm_AW := sm_awi 889 (by decide +kernel) (by decide +kernel)
theorem aw_891 : (Jvm.Cond.instanceMethod ({ cls := "LinkMillModel", name := "isGood", desc := "(I)Z" } : Jvm.MethodName)) ∈ sm_AW := sm_awi 891 (by decide +kernel) (by decide +kernel)
theorem as_38 : Cond.selects "LinkMillModel" ⟨"LinkMillModel", "isGood", "(I)Z"⟩ ⟨"LinkMillModel", "isGood", "(I)Z"⟩ ∈ sm_AW := sm_aws 38 (by decide +kernel) (by decide +kernel)
theorem aw_910 : (Jvm.Cond.constantLong "LinkMillModel" (177 : Nat) (4 : Int64)) ∈ sm_AW := sm_awi 910 (by decide +kernel) (by decide +kernel)
theorem aw_909 : (Jvm.Cond.code ({ cls := "LinkMillModel", name := "find", desc := "(I)I" } : Jvm.MethodName) prog_11_method_32_code (6 : Nat) (Option.some Jvm.ClassFile.FieldType.int)) ∈ sm_AW := sm_awi 909 (by decide +kernel) (by decide +kernel)
theorem aw_906 : (Jvm.Cond.methodLink "LinkMillModel" (179 : Nat) ({ cls := "LinkMillModel", name := "find", desc := "(I)I" } : Jvm.MethodName)) ∈ sm_AW := sm_awi 906 (by decide +kernel) (by decide +kernel)
theorem aw_908 : (Jvm.Cond.instanceMethod ({ cls := "LinkMillModel", name := "find", desc := "(I)I" } : Jvm.MethodName)) ∈ sm_AW := sm_awi 908 (by decide +kernel) (by decide +kernel)
theorem as_41 : Cond.selects "LinkMillModel" ⟨"LinkMillModel", "find", "(I)I"⟩ ⟨"LinkMillModel", "find", "(I)I"⟩ ∈ sm_AW := sm_aws 41 (by decide +kernel) (by decide +kernel)
theorem aw_914 : (Jvm.Cond.code ({ cls := "LinkMillModel", name := "set", desc := "(II)V" } : Jvm.MethodName) prog_11_method_33_code (3 : Nat) (Option.none : Option Jvm.ClassFile.FieldType)) ∈ sm_AW := sm_awi 914 (by decide +kernel) (by decide +kernel)
theorem aw_911 : (Jvm.Cond.methodLink "LinkMillModel" (182 : Nat) ({ cls := "LinkMillModel", name := "set", desc := "(II)V" } : Jvm.MethodName)) ∈ sm_AW := sm_awi 911 (by decide +kernel) (by decide +kernel)
theorem aw_913 : (Jvm.Cond.instanceMethod ({ cls := "LinkMillModel", name := "set", desc := "(II)V" } : Jvm.MethodName)) ∈ sm_AW := sm_awi 913 (by decide +kernel) (by decide +kernel)
theorem as_42 : Cond.selects "LinkMillModel" ⟨"LinkMillModel", "set", "(II)V"⟩ ⟨"LinkMillModel", "set", "(II)V"⟩ ∈ sm_AW := sm_aws 42 (by decide +kernel) (by decide +kernel)
theorem aw_918 : (Jvm.Cond.code ({ cls := "LinkMillModel", name := "reckoned", desc := "(III)I" } : Jvm.MethodName) prog_11_method_34_code (4 : Nat) (Option.some Jvm.ClassFile.FieldType.int)) ∈ sm_AW := sm_awi 918 (by decide +kernel) (by decide +kernel)
theorem aw_915 : (Jvm.Cond.methodLink "LinkMillModel" (186 : Nat) ({ cls := "LinkMillModel", name := "reckoned", desc := "(III)I" } : Jvm.MethodName)) ∈ sm_AW := sm_awi 915 (by decide +kernel) (by decide +kernel)
theorem aw_917 : (Jvm.Cond.instanceMethod ({ cls := "LinkMillModel", name := "reckoned", desc := "(III)I" } : Jvm.MethodName)) ∈ sm_AW := sm_awi 917 (by decide +kernel) (by decide +kernel)
theorem as_43 : Cond.selects "LinkMillModel" ⟨"LinkMillModel", "reckoned", "(III)I"⟩ ⟨"LinkMillModel", "reckoned", "(III)I"⟩ ∈ sm_AW := sm_aws 43 (by decide +kernel) (by decide +kernel)
theorem aw_905 : (Jvm.Cond.code ({ cls := "LinkMillModel", name := "step", desc := "()V" } : Jvm.MethodName) prog_11_method_35_code (11 : Nat) (Option.none : Option Jvm.ClassFile.FieldType)) ∈ sm_AW := sm_awi 905 (by decide +kernel) (by decide +kernel)
theorem aw_902 : (Jvm.Cond.methodLink "LinkMillModel" (189 : Nat) ({ cls := "LinkMillModel", name := "step", desc := "()V" } : Jvm.MethodName)) ∈ sm_AW := sm_awi 902 (by decide +kernel) (by decide +kernel)
theorem aw_904 : (Jvm.Cond.instanceMethod ({ cls := "LinkMillModel", name := "step", desc := "()V" } : Jvm.MethodName)) ∈ sm_AW := sm_awi 904 (by decide +kernel) (by decide +kernel)
theorem as_40 : Cond.selects "LinkMillModel" ⟨"LinkMillModel", "step", "()V"⟩ ⟨"LinkMillModel", "step", "()V"⟩ ∈ sm_AW := sm_aws 40 (by decide +kernel) (by decide +kernel)
theorem aw_309 : (Jvm.Cond.classLink "LinkMill" (40 : Nat) "java/lang/IllegalArgumentException") ∈ sm_AW := sm_awi 309 (by decide +kernel) (by decide +kernel)
theorem aw_376 : (Jvm.Cond.classLink "LinkMill" (59 : Nat) "java/lang/IllegalStateException") ∈ sm_AW := sm_awi 376 (by decide +kernel) (by decide +kernel)
theorem aw_666 : (Jvm.Cond.classLink "LinkMill" (147 : Nat) "java/lang/IndexOutOfBoundsException") ∈ sm_AW := sm_awi 666 (by decide +kernel) (by decide +kernel)
theorem aw_12 : (Jvm.Cond.initialized "java/lang/IllegalArgumentException") ∈ sm_AW := sm_awi 12 (by decide +kernel) (by decide +kernel)
theorem aw_13 : (Jvm.Cond.initialized "java/lang/IllegalStateException") ∈ sm_AW := sm_awi 13 (by decide +kernel) (by decide +kernel)
theorem aw_17 : (Jvm.Cond.initialized "java/lang/IndexOutOfBoundsException") ∈ sm_AW := sm_awi 17 (by decide +kernel) (by decide +kernel)
theorem aw_200 : (Jvm.Cond.fieldLink "LinkMill" (10 : Nat) "LinkMill" "linker" "LLinkMill$Linker;") ∈ sm_AW := sm_awi 200 (by decide +kernel) (by decide +kernel)
theorem aw_201 : (Jvm.Cond.fieldLink "LinkMill" (19 : Nat) "LinkMill" "picture" "LLinkMill$Image;") ∈ sm_AW := sm_awi 201 (by decide +kernel) (by decide +kernel)
theorem aw_202 : (Jvm.Cond.fieldLink "LinkMill" (26 : Nat) "LinkMill" "machine" "LLinkMill$Machine;") ∈ sm_AW := sm_awi 202 (by decide +kernel) (by decide +kernel)
theorem aw_143 : (Jvm.Cond.fieldLink "LinkMill$Image" (9 : Nat) "LinkMill$Image" "bytes" "[I") ∈ sm_AW := sm_awi 143 (by decide +kernel) (by decide +kernel)
theorem aw_145 : (Jvm.Cond.fieldLink "LinkMill$Image" (15 : Nat) "LinkMill$Image" "size" "I") ∈ sm_AW := sm_awi 145 (by decide +kernel) (by decide +kernel)
theorem aw_110 : (Jvm.Cond.fieldLink "LinkMill$Linker" (11 : Nat) "LinkMill$Linker" "parts" "[LLinkMill$Part;") ∈ sm_AW := sm_awi 110 (by decide +kernel) (by decide +kernel)
theorem aw_112 : (Jvm.Cond.fieldLink "LinkMill$Linker" (18 : Nat) "LinkMill$Linker" "starts" "[I") ∈ sm_AW := sm_awi 112 (by decide +kernel) (by decide +kernel)
theorem aw_113 : (Jvm.Cond.fieldLink "LinkMill$Linker" (22 : Nat) "LinkMill$Linker" "found" "[I") ∈ sm_AW := sm_awi 113 (by decide +kernel) (by decide +kernel)
theorem aw_114 : (Jvm.Cond.fieldLink "LinkMill$Linker" (25 : Nat) "LinkMill$Linker" "values" "[I") ∈ sm_AW := sm_awi 114 (by decide +kernel) (by decide +kernel)
theorem aw_117 : (Jvm.Cond.fieldLink "LinkMill$Linker" (39 : Nat) "LinkMill$Linker" "codeEnd" "I") ∈ sm_AW := sm_awi 117 (by decide +kernel) (by decide +kernel)
theorem aw_116 : (Jvm.Cond.fieldLink "LinkMill$Linker" (43 : Nat) "LinkMill$Linker" "codeStart" "I") ∈ sm_AW := sm_awi 116 (by decide +kernel) (by decide +kernel)
theorem aw_119 : (Jvm.Cond.fieldLink "LinkMill$Linker" (46 : Nat) "LinkMill$Linker" "dataEnd" "I") ∈ sm_AW := sm_awi 119 (by decide +kernel) (by decide +kernel)
theorem aw_118 : (Jvm.Cond.fieldLink "LinkMill$Linker" (49 : Nat) "LinkMill$Linker" "dataStart" "I") ∈ sm_AW := sm_awi 118 (by decide +kernel) (by decide +kernel)
theorem aw_160 : (Jvm.Cond.fieldLink "LinkMill$Machine" (11 : Nat) "LinkMill$Machine" "words" "[I") ∈ sm_AW := sm_awi 160 (by decide +kernel) (by decide +kernel)
theorem aw_162 : (Jvm.Cond.fieldLink "LinkMill$Machine" (15 : Nat) "LinkMill$Machine" "registers" "[I") ∈ sm_AW := sm_awi 162 (by decide +kernel) (by decide +kernel)
theorem aw_164 : (Jvm.Cond.fieldLink "LinkMill$Machine" (18 : Nat) "LinkMill$Machine" "lastNumbers" "[I") ∈ sm_AW := sm_awi 164 (by decide +kernel) (by decide +kernel)
theorem aw_165 : (Jvm.Cond.fieldLink "LinkMill$Machine" (29 : Nat) "LinkMill$Machine" "codeAddress" "I") ∈ sm_AW := sm_awi 165 (by decide +kernel) (by decide +kernel)
theorem aw_166 : (Jvm.Cond.fieldLink "LinkMill$Machine" (33 : Nat) "LinkMill$Machine" "codeWords" "I") ∈ sm_AW := sm_awi 166 (by decide +kernel) (by decide +kernel)
theorem aw_167 : (Jvm.Cond.fieldLink "LinkMill$Machine" (36 : Nat) "LinkMill$Machine" "dataAddress" "I") ∈ sm_AW := sm_awi 167 (by decide +kernel) (by decide +kernel)
theorem aw_168 : (Jvm.Cond.fieldLink "LinkMill$Machine" (39 : Nat) "LinkMill$Machine" "dataWords" "I") ∈ sm_AW := sm_awi 168 (by decide +kernel) (by decide +kernel)
theorem aw_169 : (Jvm.Cond.fieldLink "LinkMill$Machine" (45 : Nat) "LinkMill$Machine" "status" "I") ∈ sm_AW := sm_awi 169 (by decide +kernel) (by decide +kernel)
theorem aw_171 : (Jvm.Cond.fieldLink "LinkMill$Machine" (48 : Nat) "LinkMill$Machine" "pc" "I") ∈ sm_AW := sm_awi 171 (by decide +kernel) (by decide +kernel)
theorem aw_173 : (Jvm.Cond.fieldLink "LinkMill$Machine" (51 : Nat) "LinkMill$Machine" "steps" "I") ∈ sm_AW := sm_awi 173 (by decide +kernel) (by decide +kernel)
theorem aw_175 : (Jvm.Cond.fieldLink "LinkMill$Machine" (54 : Nat) "LinkMill$Machine" "shows" "I") ∈ sm_AW := sm_awi 175 (by decide +kernel) (by decide +kernel)
theorem aw_57 : (Jvm.Cond.fieldLink "LinkMill$Part" (16 : Nat) "LinkMill$Part" "code" "LLinkMill$Section;") ∈ sm_AW := sm_awi 57 (by decide +kernel) (by decide +kernel)
theorem aw_59 : (Jvm.Cond.fieldLink "LinkMill$Part" (20 : Nat) "LinkMill$Part" "data" "LLinkMill$Section;") ∈ sm_AW := sm_awi 59 (by decide +kernel) (by decide +kernel)
theorem aw_61 : (Jvm.Cond.fieldLink "LinkMill$Part" (23 : Nat) "LinkMill$Part" "definedNames" "[I") ∈ sm_AW := sm_awi 61 (by decide +kernel) (by decide +kernel)
theorem aw_62 : (Jvm.Cond.fieldLink "LinkMill$Part" (27 : Nat) "LinkMill$Part" "definedSections" "[I") ∈ sm_AW := sm_awi 62 (by decide +kernel) (by decide +kernel)
theorem aw_64 : (Jvm.Cond.fieldLink "LinkMill$Part" (30 : Nat) "LinkMill$Part" "definedPlaces" "[I") ∈ sm_AW := sm_awi 64 (by decide +kernel) (by decide +kernel)
theorem aw_66 : (Jvm.Cond.fieldLink "LinkMill$Part" (33 : Nat) "LinkMill$Part" "definedGlobal" "[Z") ∈ sm_AW := sm_awi 66 (by decide +kernel) (by decide +kernel)
theorem aw_69 : (Jvm.Cond.fieldLink "LinkMill$Part" (37 : Nat) "LinkMill$Part" "fixSections" "[I") ∈ sm_AW := sm_awi 69 (by decide +kernel) (by decide +kernel)
theorem aw_71 : (Jvm.Cond.fieldLink "LinkMill$Part" (40 : Nat) "LinkMill$Part" "fixPlaces" "[I") ∈ sm_AW := sm_awi 71 (by decide +kernel) (by decide +kernel)
theorem aw_73 : (Jvm.Cond.fieldLink "LinkMill$Part" (43 : Nat) "LinkMill$Part" "fixKinds" "[I") ∈ sm_AW := sm_awi 73 (by decide +kernel) (by decide +kernel)
theorem aw_75 : (Jvm.Cond.fieldLink "LinkMill$Part" (46 : Nat) "LinkMill$Part" "fixNames" "[I") ∈ sm_AW := sm_awi 75 (by decide +kernel) (by decide +kernel)
theorem aw_77 : (Jvm.Cond.fieldLink "LinkMill$Part" (49 : Nat) "LinkMill$Part" "fixAdds" "[I") ∈ sm_AW := sm_awi 77 (by decide +kernel) (by decide +kernel)
theorem aw_67 : (Jvm.Cond.fieldLink "LinkMill$Part" (56 : Nat) "LinkMill$Part" "definitions" "I") ∈ sm_AW := sm_awi 67 (by decide +kernel) (by decide +kernel)
theorem aw_79 : (Jvm.Cond.fieldLink "LinkMill$Part" (59 : Nat) "LinkMill$Part" "fixes" "I") ∈ sm_AW := sm_awi 79 (by decide +kernel) (by decide +kernel)
theorem aw_45 : (Jvm.Cond.fieldLink "LinkMill$Section" (7 : Nat) "LinkMill$Section" "words" "[I") ∈ sm_AW := sm_awi 45 (by decide +kernel) (by decide +kernel)
theorem aw_47 : (Jvm.Cond.fieldLink "LinkMill$Section" (13 : Nat) "LinkMill$Section" "count" "I") ∈ sm_AW := sm_awi 47 (by decide +kernel) (by decide +kernel)
theorem aw_688 : (Jvm.Cond.fieldLink "LinkMillModel" (7 : Nat) "LinkMillModel" "words" "[I") ∈ sm_AW := sm_awi 688 (by decide +kernel) (by decide +kernel)
theorem aw_689 : (Jvm.Cond.fieldLink "LinkMillModel" (13 : Nat) "LinkMillModel" "sizes" "[I") ∈ sm_AW := sm_awi 689 (by decide +kernel) (by decide +kernel)
theorem aw_690 : (Jvm.Cond.fieldLink "LinkMillModel" (16 : Nat) "LinkMillModel" "definitions" "[I") ∈ sm_AW := sm_awi 690 (by decide +kernel) (by decide +kernel)
theorem aw_691 : (Jvm.Cond.fieldLink "LinkMillModel" (19 : Nat) "LinkMillModel" "names" "[I") ∈ sm_AW := sm_awi 691 (by decide +kernel) (by decide +kernel)
theorem aw_692 : (Jvm.Cond.fieldLink "LinkMillModel" (22 : Nat) "LinkMillModel" "sections" "[I") ∈ sm_AW := sm_awi 692 (by decide +kernel) (by decide +kernel)
theorem aw_693 : (Jvm.Cond.fieldLink "LinkMillModel" (25 : Nat) "LinkMillModel" "places" "[I") ∈ sm_AW := sm_awi 693 (by decide +kernel) (by decide +kernel)
theorem aw_694 : (Jvm.Cond.fieldLink "LinkMillModel" (28 : Nat) "LinkMillModel" "global" "[Z") ∈ sm_AW := sm_awi 694 (by decide +kernel) (by decide +kernel)
theorem aw_695 : (Jvm.Cond.fieldLink "LinkMillModel" (32 : Nat) "LinkMillModel" "fixes" "[I") ∈ sm_AW := sm_awi 695 (by decide +kernel) (by decide +kernel)
theorem aw_696 : (Jvm.Cond.fieldLink "LinkMillModel" (35 : Nat) "LinkMillModel" "fixSections" "[I") ∈ sm_AW := sm_awi 696 (by decide +kernel) (by decide +kernel)
theorem aw_697 : (Jvm.Cond.fieldLink "LinkMillModel" (38 : Nat) "LinkMillModel" "fixPlaces" "[I") ∈ sm_AW := sm_awi 697 (by decide +kernel) (by decide +kernel)
theorem aw_698 : (Jvm.Cond.fieldLink "LinkMillModel" (41 : Nat) "LinkMillModel" "kinds" "[I") ∈ sm_AW := sm_awi 698 (by decide +kernel) (by decide +kernel)
theorem aw_699 : (Jvm.Cond.fieldLink "LinkMillModel" (44 : Nat) "LinkMillModel" "fixNames" "[I") ∈ sm_AW := sm_awi 699 (by decide +kernel) (by decide +kernel)
theorem aw_700 : (Jvm.Cond.fieldLink "LinkMillModel" (47 : Nat) "LinkMillModel" "adds" "[I") ∈ sm_AW := sm_awi 700 (by decide +kernel) (by decide +kernel)
theorem aw_701 : (Jvm.Cond.fieldLink "LinkMillModel" (50 : Nat) "LinkMillModel" "linked" "[I") ∈ sm_AW := sm_awi 701 (by decide +kernel) (by decide +kernel)
theorem aw_702 : (Jvm.Cond.fieldLink "LinkMillModel" (53 : Nat) "LinkMillModel" "starts" "[I") ∈ sm_AW := sm_awi 702 (by decide +kernel) (by decide +kernel)
theorem aw_703 : (Jvm.Cond.fieldLink "LinkMillModel" (56 : Nat) "LinkMillModel" "known" "[Z") ∈ sm_AW := sm_awi 703 (by decide +kernel) (by decide +kernel)
theorem aw_704 : (Jvm.Cond.fieldLink "LinkMillModel" (59 : Nat) "LinkMillModel" "values" "[I") ∈ sm_AW := sm_awi 704 (by decide +kernel) (by decide +kernel)
theorem aw_706 : (Jvm.Cond.fieldLink "LinkMillModel" (62 : Nat) "LinkMillModel" "image" "[I") ∈ sm_AW := sm_awi 706 (by decide +kernel) (by decide +kernel)
theorem aw_711 : (Jvm.Cond.fieldLink "LinkMillModel" (65 : Nat) "LinkMillModel" "memory" "[I") ∈ sm_AW := sm_awi 711 (by decide +kernel) (by decide +kernel)
theorem aw_715 : (Jvm.Cond.fieldLink "LinkMillModel" (68 : Nat) "LinkMillModel" "registers" "[I") ∈ sm_AW := sm_awi 715 (by decide +kernel) (by decide +kernel)
theorem aw_717 : (Jvm.Cond.fieldLink "LinkMillModel" (71 : Nat) "LinkMillModel" "ring" "[I") ∈ sm_AW := sm_awi 717 (by decide +kernel) (by decide +kernel)
theorem aw_687 : (Jvm.Cond.fieldLink "LinkMillModel" (74 : Nat) "LinkMillModel" "threw" "I") ∈ sm_AW := sm_awi 687 (by decide +kernel) (by decide +kernel)
theorem aw_705 : (Jvm.Cond.fieldLink "LinkMillModel" (122 : Nat) "LinkMillModel" "size" "I") ∈ sm_AW := sm_awi 705 (by decide +kernel) (by decide +kernel)
theorem aw_707 : (Jvm.Cond.fieldLink "LinkMillModel" (153 : Nat) "LinkMillModel" "codeAt" "I") ∈ sm_AW := sm_awi 707 (by decide +kernel) (by decide +kernel)
theorem aw_708 : (Jvm.Cond.fieldLink "LinkMillModel" (156 : Nat) "LinkMillModel" "codeWords" "I") ∈ sm_AW := sm_awi 708 (by decide +kernel) (by decide +kernel)
theorem aw_709 : (Jvm.Cond.fieldLink "LinkMillModel" (159 : Nat) "LinkMillModel" "dataAt" "I") ∈ sm_AW := sm_awi 709 (by decide +kernel) (by decide +kernel)
theorem aw_710 : (Jvm.Cond.fieldLink "LinkMillModel" (162 : Nat) "LinkMillModel" "dataWords" "I") ∈ sm_AW := sm_awi 710 (by decide +kernel) (by decide +kernel)
theorem aw_713 : (Jvm.Cond.fieldLink "LinkMillModel" (165 : Nat) "LinkMillModel" "pc" "I") ∈ sm_AW := sm_awi 713 (by decide +kernel) (by decide +kernel)
theorem aw_712 : (Jvm.Cond.fieldLink "LinkMillModel" (168 : Nat) "LinkMillModel" "state" "I") ∈ sm_AW := sm_awi 712 (by decide +kernel) (by decide +kernel)
theorem aw_714 : (Jvm.Cond.fieldLink "LinkMillModel" (171 : Nat) "LinkMillModel" "steps" "I") ∈ sm_AW := sm_awi 714 (by decide +kernel) (by decide +kernel)
theorem aw_716 : (Jvm.Cond.fieldLink "LinkMillModel" (174 : Nat) "LinkMillModel" "shows" "I") ∈ sm_AW := sm_awi 716 (by decide +kernel) (by decide +kernel)
theorem iw_Mill : ∀ w ∈ u_ws R_Mill T_Mill 3, w ∈ sm_AW := fun w hw => of_decide_eq_true (List.all_eq_true.mp (by decide +kernel : (u_ws R_Mill T_Mill 3).all (fun w => decide (w ∈ sm_AW)) = true) w hw)
theorem iw_Section : ∀ w ∈ u_ws R_Section T_Section 2, w ∈ sm_AW := fun w hw => of_decide_eq_true (List.all_eq_true.mp (by decide +kernel : (u_ws R_Section T_Section 2).all (fun w => decide (w ∈ sm_AW)) = true) w hw)
theorem iw_Part : ∀ w ∈ u_ws R_Part T_Part 13, w ∈ sm_AW := fun w hw => of_decide_eq_true (List.all_eq_true.mp (by decide +kernel : (u_ws R_Part T_Part 13).all (fun w => decide (w ∈ sm_AW)) = true) w hw)
theorem iw_Linker : ∀ w ∈ u_ws R_Linker T_Linker 8, w ∈ sm_AW := fun w hw => of_decide_eq_true (List.all_eq_true.mp (by decide +kernel : (u_ws R_Linker T_Linker 8).all (fun w => decide (w ∈ sm_AW)) = true) w hw)
theorem iw_Image : ∀ w ∈ u_ws R_Image T_Image 2, w ∈ sm_AW := fun w hw => of_decide_eq_true (List.all_eq_true.mp (by decide +kernel : (u_ws R_Image T_Image 2).all (fun w => decide (w ∈ sm_AW)) = true) w hw)
theorem iw_Machine : ∀ w ∈ u_ws R_Machine T_Machine 11, w ∈ sm_AW := fun w hw => of_decide_eq_true (List.all_eq_true.mp (by decide +kernel : (u_ws R_Machine T_Machine 11).all (fun w => decide (w ∈ sm_AW)) = true) w hw)
theorem iw_Model : ∀ w ∈ u_ws R_Model T_Model 31, w ∈ sm_AW := fun w hw => of_decide_eq_true (List.all_eq_true.mp (by decide +kernel : (u_ws R_Model T_Model 31).all (fun w => decide (w ∈ sm_AW)) = true) w hw)
/-- the words on private members of nest mates -/
def sm_nw : List Cond := [(Jvm.Cond.fieldLinkNest "LinkMill$Linker" (164 : Nat) "LinkMill$Section" "words" "[I" "LinkMill"),
  (Jvm.Cond.fieldLinkNest "LinkMill$Part" (52 : Nat) "LinkMill$Section" "count" "I" "LinkMill"),
  (Jvm.Cond.fieldLinkNest "LinkMill$Linker" (79 : Nat) "LinkMill$Section" "count" "I" "LinkMill"),
  (Jvm.Cond.fieldLinkNest "LinkMill" (81 : Nat) "LinkMill$Section" "count" "I" "LinkMill"),
  (Jvm.Cond.fieldLinkNest "LinkMill" (47 : Nat) "LinkMill$Part" "code" "LLinkMill$Section;" "LinkMill"),
  (Jvm.Cond.fieldLinkNest "LinkMill" (70 : Nat) "LinkMill$Part" "data" "LLinkMill$Section;" "LinkMill"),
  (Jvm.Cond.fieldLinkNest "LinkMill$Linker" (134 : Nat) "LinkMill$Part" "definedSections" "[I" "LinkMill"),
  (Jvm.Cond.fieldLinkNest "LinkMill$Linker" (137 : Nat) "LinkMill$Part" "definedPlaces" "[I" "LinkMill"),
  (Jvm.Cond.fieldLinkNest "LinkMill" (85 : Nat) "LinkMill$Part" "definitions" "I" "LinkMill"),
  (Jvm.Cond.fieldLinkNest "LinkMill$Linker" (144 : Nat) "LinkMill$Part" "fixSections" "[I" "LinkMill"),
  (Jvm.Cond.fieldLinkNest "LinkMill$Linker" (147 : Nat) "LinkMill$Part" "fixPlaces" "[I" "LinkMill"),
  (Jvm.Cond.fieldLinkNest "LinkMill$Linker" (122 : Nat) "LinkMill$Part" "fixKinds" "[I" "LinkMill"),
  (Jvm.Cond.fieldLinkNest "LinkMill$Linker" (110 : Nat) "LinkMill$Part" "fixNames" "[I" "LinkMill"),
  (Jvm.Cond.fieldLinkNest "LinkMill$Linker" (150 : Nat) "LinkMill$Part" "fixAdds" "[I" "LinkMill"),
  (Jvm.Cond.fieldLinkNest "LinkMill" (94 : Nat) "LinkMill$Part" "fixes" "I" "LinkMill"),
  (Jvm.Cond.fieldLinkNest "LinkMill$Linker" (107 : Nat) "LinkMill$Part" "fixes" "I" "LinkMill"),
  (Jvm.Cond.fieldLinkNest "LinkMill" (43 : Nat) "LinkMill$Linker" "parts" "[LLinkMill$Part;" "LinkMill"),
  (Jvm.Cond.fieldLinkNest "LinkMill" (138 : Nat) "LinkMill$Linker" "values" "[I" "LinkMill"),
  (Jvm.Cond.fieldLinkNest "LinkMill" (112 : Nat) "LinkMill$Image" "bytes" "[I" "LinkMill"),
  (Jvm.Cond.fieldLinkNest "LinkMill$Reader" (15 : Nat) "LinkMill$Image" "size" "I" "LinkMill"),
  (Jvm.Cond.fieldLinkNest "LinkMill$Linker" (68 : Nat) "LinkMill$Image" "size" "I" "LinkMill"),
  (Jvm.Cond.fieldLinkNest "LinkMill" (109 : Nat) "LinkMill$Image" "size" "I" "LinkMill"),
  (Jvm.Cond.fieldLinkNest "LinkMill" (150 : Nat) "LinkMill$Machine" "words" "[I" "LinkMill"),
  (Jvm.Cond.fieldLinkNest "LinkMill" (141 : Nat) "LinkMill$Machine" "registers" "[I" "LinkMill"),
  (Jvm.Cond.fieldLinkNest "LinkMill" (132 : Nat) "LinkMill$Machine" "status" "I" "LinkMill"),
  (Jvm.Cond.fieldLinkNest "LinkMill" (156 : Nat) "LinkMill$Machine" "pc" "I" "LinkMill"),
  (Jvm.Cond.fieldLinkNest "LinkMill" (159 : Nat) "LinkMill$Machine" "steps" "I" "LinkMill"),
  (Jvm.Cond.fieldLinkNest "LinkMill" (162 : Nat) "LinkMill$Machine" "shows" "I" "LinkMill"),
  (Jvm.Cond.methodLinkNest "LinkMill$Machine" (127 : Nat) ({ cls := "LinkMill", name := "isBelow", desc := "(II)Z" } : Jvm.MethodName) "LinkMill"),
  (Jvm.Cond.methodLinkNest "LinkMill$Instruction" (11 : Nat) ({ cls := "LinkMill", name := "isBelow", desc := "(II)Z" } : Jvm.MethodName) "LinkMill"),
  (Jvm.Cond.methodLinkNest "LinkMill$Instruction" (26 : Nat) ({ cls := "LinkMill", name := "fitsSigned", desc := "(II)Z" } : Jvm.MethodName) "LinkMill"),
  (Jvm.Cond.castable "java/lang/IllegalArgumentException" "java/lang/IllegalArgumentException"),
  (Jvm.Cond.declares ({ cls := "java/lang/RuntimeException", name := "<init>", desc := "()V" } : Jvm.MethodName)),
  (Jvm.Cond.declares ({ cls := "java/lang/RuntimeException", name := "<init>", desc := "(Ljava/lang/String;)V" } : Jvm.MethodName)),
  (Jvm.Cond.declares ({ cls := "java/lang/Exception", name := "<init>", desc := "()V" } : Jvm.MethodName)),
  (Jvm.Cond.declares ({ cls := "java/lang/Exception", name := "<init>", desc := "(Ljava/lang/String;)V" } : Jvm.MethodName)),
  (Jvm.Cond.declares ({ cls := "java/lang/Throwable", name := "<init>", desc := "()V" } : Jvm.MethodName)),
  (Jvm.Cond.declares ({ cls := "java/lang/Throwable", name := "<init>", desc := "(Ljava/lang/String;)V" } : Jvm.MethodName)),
  (Jvm.Cond.superclass "java/lang/Throwable" "java/lang/Object"),
  (Jvm.Cond.castable "java/lang/IllegalStateException" "java/lang/IllegalStateException"),
  (Jvm.Cond.methodLinkNest "LinkMill$Fix" (11 : Nat) ({ cls := "LinkMill", name := "fitsSigned", desc := "(II)Z" } : Jvm.MethodName) "LinkMill"),
  (Jvm.Cond.methodLinkNest "LinkMill$Machine" (105 : Nat) ({ cls := "LinkMill$Instruction", name := "isThreeRegisters", desc := "(I)Z" } : Jvm.MethodName) "LinkMill"),
  (Jvm.Cond.castable "java/lang/IndexOutOfBoundsException" "java/lang/IndexOutOfBoundsException"),
  (Cond.not (Cond.castable "java/lang/IllegalStateException" "java/lang/IllegalArgumentException"))]
def sm_isN : Cond → Bool
  | .fieldLinkNest .. => true
  | .methodLinkNest .. => true
  | .declares _ => true
  | .castable _ _ => true
  | .superclass _ _ => true
  | .not (.castable _ _) => true
  | _ => false
theorem nw_no : (Cond.not (Cond.castable "java/lang/IllegalStateException" "java/lang/IllegalArgumentException")) ∈ sm_nw := List.mem_of_getElem? (i := 43) rfl
theorem sm_nwN : ∀ w ∈ sm_nw, sm_isN w = true := by decide +kernel
theorem nw_46 : (Jvm.Cond.fieldLinkNest "LinkMill$Linker" (164 : Nat) "LinkMill$Section" "words" "[I" "LinkMill") ∈ sm_nw := List.mem_of_getElem? (i := 0) rfl
theorem nw_48 : (Jvm.Cond.fieldLinkNest "LinkMill$Part" (52 : Nat) "LinkMill$Section" "count" "I" "LinkMill") ∈ sm_nw := List.mem_of_getElem? (i := 1) rfl
theorem nw_49 : (Jvm.Cond.fieldLinkNest "LinkMill$Linker" (79 : Nat) "LinkMill$Section" "count" "I" "LinkMill") ∈ sm_nw := List.mem_of_getElem? (i := 2) rfl
theorem nw_50 : (Jvm.Cond.fieldLinkNest "LinkMill" (81 : Nat) "LinkMill$Section" "count" "I" "LinkMill") ∈ sm_nw := List.mem_of_getElem? (i := 3) rfl
theorem nw_58 : (Jvm.Cond.fieldLinkNest "LinkMill" (47 : Nat) "LinkMill$Part" "code" "LLinkMill$Section;" "LinkMill") ∈ sm_nw := List.mem_of_getElem? (i := 4) rfl
theorem nw_60 : (Jvm.Cond.fieldLinkNest "LinkMill" (70 : Nat) "LinkMill$Part" "data" "LLinkMill$Section;" "LinkMill") ∈ sm_nw := List.mem_of_getElem? (i := 5) rfl
theorem nw_63 : (Jvm.Cond.fieldLinkNest "LinkMill$Linker" (134 : Nat) "LinkMill$Part" "definedSections" "[I" "LinkMill") ∈ sm_nw := List.mem_of_getElem? (i := 6) rfl
theorem nw_65 : (Jvm.Cond.fieldLinkNest "LinkMill$Linker" (137 : Nat) "LinkMill$Part" "definedPlaces" "[I" "LinkMill") ∈ sm_nw := List.mem_of_getElem? (i := 7) rfl
theorem nw_68 : (Jvm.Cond.fieldLinkNest "LinkMill" (85 : Nat) "LinkMill$Part" "definitions" "I" "LinkMill") ∈ sm_nw := List.mem_of_getElem? (i := 8) rfl
theorem nw_70 : (Jvm.Cond.fieldLinkNest "LinkMill$Linker" (144 : Nat) "LinkMill$Part" "fixSections" "[I" "LinkMill") ∈ sm_nw := List.mem_of_getElem? (i := 9) rfl
theorem nw_72 : (Jvm.Cond.fieldLinkNest "LinkMill$Linker" (147 : Nat) "LinkMill$Part" "fixPlaces" "[I" "LinkMill") ∈ sm_nw := List.mem_of_getElem? (i := 10) rfl
theorem nw_74 : (Jvm.Cond.fieldLinkNest "LinkMill$Linker" (122 : Nat) "LinkMill$Part" "fixKinds" "[I" "LinkMill") ∈ sm_nw := List.mem_of_getElem? (i := 11) rfl
theorem nw_76 : (Jvm.Cond.fieldLinkNest "LinkMill$Linker" (110 : Nat) "LinkMill$Part" "fixNames" "[I" "LinkMill") ∈ sm_nw := List.mem_of_getElem? (i := 12) rfl
theorem nw_78 : (Jvm.Cond.fieldLinkNest "LinkMill$Linker" (150 : Nat) "LinkMill$Part" "fixAdds" "[I" "LinkMill") ∈ sm_nw := List.mem_of_getElem? (i := 13) rfl
theorem nw_80 : (Jvm.Cond.fieldLinkNest "LinkMill" (94 : Nat) "LinkMill$Part" "fixes" "I" "LinkMill") ∈ sm_nw := List.mem_of_getElem? (i := 14) rfl
theorem nw_81 : (Jvm.Cond.fieldLinkNest "LinkMill$Linker" (107 : Nat) "LinkMill$Part" "fixes" "I" "LinkMill") ∈ sm_nw := List.mem_of_getElem? (i := 15) rfl
theorem nw_111 : (Jvm.Cond.fieldLinkNest "LinkMill" (43 : Nat) "LinkMill$Linker" "parts" "[LLinkMill$Part;" "LinkMill") ∈ sm_nw := List.mem_of_getElem? (i := 16) rfl
theorem nw_115 : (Jvm.Cond.fieldLinkNest "LinkMill" (138 : Nat) "LinkMill$Linker" "values" "[I" "LinkMill") ∈ sm_nw := List.mem_of_getElem? (i := 17) rfl
theorem nw_144 : (Jvm.Cond.fieldLinkNest "LinkMill" (112 : Nat) "LinkMill$Image" "bytes" "[I" "LinkMill") ∈ sm_nw := List.mem_of_getElem? (i := 18) rfl
theorem nw_146 : (Jvm.Cond.fieldLinkNest "LinkMill$Reader" (15 : Nat) "LinkMill$Image" "size" "I" "LinkMill") ∈ sm_nw := List.mem_of_getElem? (i := 19) rfl
theorem nw_147 : (Jvm.Cond.fieldLinkNest "LinkMill$Linker" (68 : Nat) "LinkMill$Image" "size" "I" "LinkMill") ∈ sm_nw := List.mem_of_getElem? (i := 20) rfl
theorem nw_148 : (Jvm.Cond.fieldLinkNest "LinkMill" (109 : Nat) "LinkMill$Image" "size" "I" "LinkMill") ∈ sm_nw := List.mem_of_getElem? (i := 21) rfl
theorem nw_161 : (Jvm.Cond.fieldLinkNest "LinkMill" (150 : Nat) "LinkMill$Machine" "words" "[I" "LinkMill") ∈ sm_nw := List.mem_of_getElem? (i := 22) rfl
theorem nw_163 : (Jvm.Cond.fieldLinkNest "LinkMill" (141 : Nat) "LinkMill$Machine" "registers" "[I" "LinkMill") ∈ sm_nw := List.mem_of_getElem? (i := 23) rfl
theorem nw_170 : (Jvm.Cond.fieldLinkNest "LinkMill" (132 : Nat) "LinkMill$Machine" "status" "I" "LinkMill") ∈ sm_nw := List.mem_of_getElem? (i := 24) rfl
theorem nw_172 : (Jvm.Cond.fieldLinkNest "LinkMill" (156 : Nat) "LinkMill$Machine" "pc" "I" "LinkMill") ∈ sm_nw := List.mem_of_getElem? (i := 25) rfl
theorem nw_174 : (Jvm.Cond.fieldLinkNest "LinkMill" (159 : Nat) "LinkMill$Machine" "steps" "I" "LinkMill") ∈ sm_nw := List.mem_of_getElem? (i := 26) rfl
theorem nw_176 : (Jvm.Cond.fieldLinkNest "LinkMill" (162 : Nat) "LinkMill$Machine" "shows" "I" "LinkMill") ∈ sm_nw := List.mem_of_getElem? (i := 27) rfl
theorem nw_275 : (Jvm.Cond.methodLinkNest "LinkMill$Machine" (127 : Nat) ({ cls := "LinkMill", name := "isBelow", desc := "(II)Z" } : Jvm.MethodName) "LinkMill") ∈ sm_nw := List.mem_of_getElem? (i := 28) rfl
theorem nw_296 : (Jvm.Cond.methodLinkNest "LinkMill$Instruction" (11 : Nat) ({ cls := "LinkMill", name := "isBelow", desc := "(II)Z" } : Jvm.MethodName) "LinkMill") ∈ sm_nw := List.mem_of_getElem? (i := 29) rfl
theorem nw_306 : (Jvm.Cond.methodLinkNest "LinkMill$Instruction" (26 : Nat) ({ cls := "LinkMill", name := "fitsSigned", desc := "(II)Z" } : Jvm.MethodName) "LinkMill") ∈ sm_nw := List.mem_of_getElem? (i := 30) rfl
theorem nw_311 : (Jvm.Cond.castable "java/lang/IllegalArgumentException" "java/lang/IllegalArgumentException") ∈ sm_nw := List.mem_of_getElem? (i := 31) rfl
theorem nw_312 : (Jvm.Cond.declares ({ cls := "java/lang/RuntimeException", name := "<init>", desc := "()V" } : Jvm.MethodName)) ∈ sm_nw := List.mem_of_getElem? (i := 32) rfl
theorem nw_313 : (Jvm.Cond.declares ({ cls := "java/lang/RuntimeException", name := "<init>", desc := "(Ljava/lang/String;)V" } : Jvm.MethodName)) ∈ sm_nw := List.mem_of_getElem? (i := 33) rfl
theorem nw_314 : (Jvm.Cond.declares ({ cls := "java/lang/Exception", name := "<init>", desc := "()V" } : Jvm.MethodName)) ∈ sm_nw := List.mem_of_getElem? (i := 34) rfl
theorem nw_315 : (Jvm.Cond.declares ({ cls := "java/lang/Exception", name := "<init>", desc := "(Ljava/lang/String;)V" } : Jvm.MethodName)) ∈ sm_nw := List.mem_of_getElem? (i := 35) rfl
theorem nw_316 : (Jvm.Cond.declares ({ cls := "java/lang/Throwable", name := "<init>", desc := "()V" } : Jvm.MethodName)) ∈ sm_nw := List.mem_of_getElem? (i := 36) rfl
theorem nw_317 : (Jvm.Cond.declares ({ cls := "java/lang/Throwable", name := "<init>", desc := "(Ljava/lang/String;)V" } : Jvm.MethodName)) ∈ sm_nw := List.mem_of_getElem? (i := 37) rfl
theorem nw_331 : (Jvm.Cond.superclass "java/lang/Throwable" "java/lang/Object") ∈ sm_nw := List.mem_of_getElem? (i := 38) rfl
theorem nw_378 : (Jvm.Cond.castable "java/lang/IllegalStateException" "java/lang/IllegalStateException") ∈ sm_nw := List.mem_of_getElem? (i := 39) rfl
theorem nw_525 : (Jvm.Cond.methodLinkNest "LinkMill$Fix" (11 : Nat) ({ cls := "LinkMill", name := "fitsSigned", desc := "(II)Z" } : Jvm.MethodName) "LinkMill") ∈ sm_nw := List.mem_of_getElem? (i := 40) rfl
theorem nw_650 : (Jvm.Cond.methodLinkNest "LinkMill$Machine" (105 : Nat) ({ cls := "LinkMill$Instruction", name := "isThreeRegisters", desc := "(I)Z" } : Jvm.MethodName) "LinkMill") ∈ sm_nw := List.mem_of_getElem? (i := 41) rfl
theorem nw_668 : (Jvm.Cond.castable "java/lang/IndexOutOfBoundsException" "java/lang/IndexOutOfBoundsException") ∈ sm_nw := List.mem_of_getElem? (i := 42) rfl
abbrev b_Mill_init : ByteArray := prog_1_method_1_code
abbrev y_Mill_init : MethodName := ⟨"LinkMill", "<init>", "()V"⟩
abbrev b_Mill_put : ByteArray := prog_1_method_2_code
abbrev y_Mill_put : MethodName := ⟨"LinkMill", "put", "(IIIII)I"⟩
abbrev b_Mill_word : ByteArray := prog_1_method_3_code
abbrev y_Mill_word : MethodName := ⟨"LinkMill", "word", "(II)I"⟩
abbrev b_Mill_define : ByteArray := prog_1_method_4_code
abbrev y_Mill_define : MethodName := ⟨"LinkMill", "define", "(IIIIZ)I"⟩
abbrev b_Mill_fix : ByteArray := prog_1_method_5_code
abbrev y_Mill_fix : MethodName := ⟨"LinkMill", "fix", "(IIIIII)I"⟩
abbrev b_Mill_clear : ByteArray := prog_1_method_6_code
abbrev y_Mill_clear : MethodName := ⟨"LinkMill", "clear", "(I)Z"⟩
abbrev b_Mill_link : ByteArray := prog_1_method_7_code
abbrev y_Mill_link : MethodName := ⟨"LinkMill", "link", "(II)I"⟩
abbrev b_Mill_image : ByteArray := prog_1_method_8_code
abbrev y_Mill_image : MethodName := ⟨"LinkMill", "image", "(I)I"⟩
abbrev b_Mill_alter : ByteArray := prog_1_method_9_code
abbrev y_Mill_alter : MethodName := ⟨"LinkMill", "alter", "(II)Z"⟩
abbrev b_Mill_stretch : ByteArray := prog_1_method_10_code
abbrev y_Mill_stretch : MethodName := ⟨"LinkMill", "stretch", "(I)I"⟩
abbrev b_Mill_read : ByteArray := prog_1_method_11_code
abbrev y_Mill_read : MethodName := ⟨"LinkMill", "read", "()I"⟩
abbrev b_Mill_run : ByteArray := prog_1_method_12_code
abbrev y_Mill_run : MethodName := ⟨"LinkMill", "run", "(I)I"⟩
abbrev b_Mill_value : ByteArray := prog_1_method_13_code
abbrev y_Mill_value : MethodName := ⟨"LinkMill", "value", "(I)I"⟩
abbrev b_Mill_register : ByteArray := prog_1_method_14_code
abbrev y_Mill_register : MethodName := ⟨"LinkMill", "register", "(I)I"⟩
abbrev b_Mill_memory : ByteArray := prog_1_method_15_code
abbrev y_Mill_memory : MethodName := ⟨"LinkMill", "memory", "(I)I"⟩
abbrev b_Mill_shown : ByteArray := prog_1_method_16_code
abbrev y_Mill_shown : MethodName := ⟨"LinkMill", "shown", "(I)I"⟩
abbrev b_Mill_about : ByteArray := prog_1_method_17_code
abbrev y_Mill_about : MethodName := ⟨"LinkMill", "about", "(I)I"⟩
abbrev b_Mill_object : ByteArray := prog_1_method_18_code
abbrev y_Mill_object : MethodName := ⟨"LinkMill", "object", "(II)I"⟩
abbrev b_Mill_isBelow : ByteArray := prog_1_method_19_code
abbrev y_Mill_isBelow : MethodName := ⟨"LinkMill", "isBelow", "(II)Z"⟩
abbrev b_Mill_isSection : ByteArray := prog_1_method_20_code
abbrev y_Mill_isSection : MethodName := ⟨"LinkMill", "isSection", "(I)Z"⟩
abbrev b_Mill_fitsSigned : ByteArray := prog_1_method_21_code
abbrev y_Mill_fitsSigned : MethodName := ⟨"LinkMill", "fitsSigned", "(II)Z"⟩
abbrev b_Model_init : ByteArray := prog_11_method_1_code
abbrev y_Model_init : MethodName := ⟨"LinkMillModel", "<init>", "()V"⟩
abbrev b_Model_thrown : ByteArray := prog_11_method_2_code
abbrev y_Model_thrown : MethodName := ⟨"LinkMillModel", "thrown", "()I"⟩
abbrev b_Model_within : ByteArray := prog_11_method_3_code
abbrev y_Model_within : MethodName := ⟨"LinkMillModel", "within", "(III)Z"⟩
abbrev b_Model_placeOf : ByteArray := prog_11_method_4_code
abbrev y_Model_placeOf : MethodName := ⟨"LinkMillModel", "placeOf", "(I)I"⟩
abbrev b_Model_fits : ByteArray := prog_11_method_5_code
abbrev y_Model_fits : MethodName := ⟨"LinkMillModel", "fits", "(II)Z"⟩
abbrev b_Model_isC : ByteArray := prog_11_method_6_code
abbrev y_Model_isC : MethodName := ⟨"LinkMillModel", "isC", "(II)Z"⟩
abbrev b_Model_packed : ByteArray := prog_11_method_7_code
abbrev y_Model_packed : MethodName := ⟨"LinkMillModel", "packed", "(IIII)I"⟩
abbrev b_Model_put : ByteArray := prog_11_method_8_code
abbrev y_Model_put : MethodName := ⟨"LinkMillModel", "put", "(IIIII)I"⟩
abbrev b_Model_word : ByteArray := prog_11_method_9_code
abbrev y_Model_word : MethodName := ⟨"LinkMillModel", "word", "(II)I"⟩
abbrev b_Model_define : ByteArray := prog_11_method_10_code
abbrev y_Model_define : MethodName := ⟨"LinkMillModel", "define", "(IIIIZ)I"⟩
abbrev b_Model_fix : ByteArray := prog_11_method_11_code
abbrev y_Model_fix : MethodName := ⟨"LinkMillModel", "fix", "(IIIIII)I"⟩
abbrev b_Model_clear : ByteArray := prog_11_method_12_code
abbrev y_Model_clear : MethodName := ⟨"LinkMillModel", "clear", "(I)Z"⟩
abbrev b_Model_definition : ByteArray := prog_11_method_13_code
abbrev y_Model_definition : MethodName := ⟨"LinkMillModel", "definition", "(IIZ)I"⟩
abbrev b_Model_globalOne : ByteArray := prog_11_method_14_code
abbrev y_Model_globalOne : MethodName := ⟨"LinkMillModel", "globalOne", "(I)I"⟩
abbrev b_Model_twice : ByteArray := prog_11_method_15_code
abbrev y_Model_twice : MethodName := ⟨"LinkMillModel", "twice", "(I)Z"⟩
abbrev b_Model_needed : ByteArray := prog_11_method_16_code
abbrev y_Model_needed : MethodName := ⟨"LinkMillModel", "needed", "(II)I"⟩
abbrev b_Model_valueOf : ByteArray := prog_11_method_17_code
abbrev y_Model_valueOf : MethodName := ⟨"LinkMillModel", "valueOf", "(I)I"⟩
abbrev b_Model_with : ByteArray := prog_11_method_18_code
abbrev y_Model_with : MethodName := ⟨"LinkMillModel", "with", "(III)I"⟩
abbrev b_Model_makes : ByteArray := prog_11_method_19_code
abbrev y_Model_makes : MethodName := ⟨"LinkMillModel", "makes", "(I)Z"⟩
abbrev b_Model_end : ByteArray := prog_11_method_20_code
abbrev y_Model_end : MethodName := ⟨"LinkMillModel", "end", "(I)I"⟩
abbrev b_Model_begins : ByteArray := prog_11_method_21_code
abbrev y_Model_begins : MethodName := ⟨"LinkMillModel", "begins", "(I)V"⟩
abbrev b_Model_refusal : ByteArray := prog_11_method_22_code
abbrev y_Model_refusal : MethodName := ⟨"LinkMillModel", "refusal", "(I)I"⟩
abbrev b_Model_bytes : ByteArray := prog_11_method_23_code
abbrev y_Model_bytes : MethodName := ⟨"LinkMillModel", "bytes", "(I)V"⟩
abbrev b_Model_link : ByteArray := prog_11_method_24_code
abbrev y_Model_link : MethodName := ⟨"LinkMillModel", "link", "(II)I"⟩
abbrev b_Model_image : ByteArray := prog_11_method_25_code
abbrev y_Model_image : MethodName := ⟨"LinkMillModel", "image", "(I)I"⟩
abbrev b_Model_alter : ByteArray := prog_11_method_26_code
abbrev y_Model_alter : MethodName := ⟨"LinkMillModel", "alter", "(II)Z"⟩
abbrev b_Model_stretch : ByteArray := prog_11_method_27_code
abbrev y_Model_stretch : MethodName := ⟨"LinkMillModel", "stretch", "(I)I"⟩
abbrev b_Model_wordAt : ByteArray := prog_11_method_28_code
abbrev y_Model_wordAt : MethodName := ⟨"LinkMillModel", "wordAt", "(I)I"⟩
abbrev b_Model_isGood : ByteArray := prog_11_method_29_code
abbrev y_Model_isGood : MethodName := ⟨"LinkMillModel", "isGood", "(I)Z"⟩
abbrev b_Model_turn : ByteArray := prog_11_method_30_code
abbrev y_Model_turn : MethodName := ⟨"LinkMillModel", "turn", "(I)I"⟩
abbrev b_Model_read : ByteArray := prog_11_method_31_code
abbrev y_Model_read : MethodName := ⟨"LinkMillModel", "read", "()I"⟩
abbrev b_Model_find : ByteArray := prog_11_method_32_code
abbrev y_Model_find : MethodName := ⟨"LinkMillModel", "find", "(I)I"⟩
abbrev b_Model_set : ByteArray := prog_11_method_33_code
abbrev y_Model_set : MethodName := ⟨"LinkMillModel", "set", "(II)V"⟩
abbrev b_Model_reckoned : ByteArray := prog_11_method_34_code
abbrev y_Model_reckoned : MethodName := ⟨"LinkMillModel", "reckoned", "(III)I"⟩
abbrev b_Model_step : ByteArray := prog_11_method_35_code
abbrev y_Model_step : MethodName := ⟨"LinkMillModel", "step", "()V"⟩
abbrev b_Model_run : ByteArray := prog_11_method_36_code
abbrev y_Model_run : MethodName := ⟨"LinkMillModel", "run", "(I)I"⟩
abbrev b_Model_value : ByteArray := prog_11_method_37_code
abbrev y_Model_value : MethodName := ⟨"LinkMillModel", "value", "(I)I"⟩
abbrev b_Model_register : ByteArray := prog_11_method_38_code
abbrev y_Model_register : MethodName := ⟨"LinkMillModel", "register", "(I)I"⟩
abbrev b_Model_memory : ByteArray := prog_11_method_39_code
abbrev y_Model_memory : MethodName := ⟨"LinkMillModel", "memory", "(I)I"⟩
abbrev b_Model_shown : ByteArray := prog_11_method_40_code
abbrev y_Model_shown : MethodName := ⟨"LinkMillModel", "shown", "(I)I"⟩
abbrev b_Model_about : ByteArray := prog_11_method_41_code
abbrev y_Model_about : MethodName := ⟨"LinkMillModel", "about", "(I)I"⟩
abbrev b_Model_object : ByteArray := prog_11_method_42_code
abbrev y_Model_object : MethodName := ⟨"LinkMillModel", "object", "(II)I"⟩
abbrev b_Fix_reaches : ByteArray := prog_2_method_2_code
abbrev y_Fix_reaches : MethodName := ⟨"LinkMill$Fix", "reaches", "(II)Z"⟩
abbrev b_Fix_fixed : ByteArray := prog_2_method_3_code
abbrev y_Fix_fixed : MethodName := ⟨"LinkMill$Fix", "fixed", "(IIII)I"⟩
abbrev b_Fix_withNumber : ByteArray := prog_2_method_4_code
abbrev y_Fix_withNumber : MethodName := ⟨"LinkMill$Fix", "withNumber", "(III)I"⟩
abbrev b_Image_init : ByteArray := prog_3_method_1_code
abbrev y_Image_init : MethodName := ⟨"LinkMill$Image", "<init>", "()V"⟩
abbrev b_Image_resize : ByteArray := prog_3_method_2_code
abbrev y_Image_resize : MethodName := ⟨"LinkMill$Image", "resize", "(I)V"⟩
abbrev b_Image_wordAt : ByteArray := prog_3_method_3_code
abbrev y_Image_wordAt : MethodName := ⟨"LinkMill$Image", "wordAt", "(I)I"⟩
abbrev b_Image_setWord : ByteArray := prog_3_method_4_code
abbrev y_Image_setWord : MethodName := ⟨"LinkMill$Image", "setWord", "(II)V"⟩
abbrev b_Image_headerWord : ByteArray := prog_3_method_5_code
abbrev y_Image_headerWord : MethodName := ⟨"LinkMill$Image", "headerWord", "(I)I"⟩
abbrev b_Image_headerSum : ByteArray := prog_3_method_6_code
abbrev y_Image_headerSum : MethodName := ⟨"LinkMill$Image", "headerSum", "()I"⟩
abbrev b_Instr_isThreeRegisters : ByteArray := prog_4_method_2_code
abbrev y_Instr_isThreeRegisters : MethodName := ⟨"LinkMill$Instruction", "isThreeRegisters", "(I)Z"⟩
abbrev b_Instr_canBe : ByteArray := prog_4_method_3_code
abbrev y_Instr_canBe : MethodName := ⟨"LinkMill$Instruction", "canBe", "(IIII)Z"⟩
abbrev b_Instr_canHold : ByteArray := prog_4_method_4_code
abbrev y_Instr_canHold : MethodName := ⟨"LinkMill$Instruction", "canHold", "(II)Z"⟩
abbrev b_Instr_numberAt : ByteArray := prog_4_method_5_code
abbrev y_Instr_numberAt : MethodName := ⟨"LinkMill$Instruction", "numberAt", "(I)I"⟩
abbrev b_Instr_encoded : ByteArray := prog_4_method_6_code
abbrev y_Instr_encoded : MethodName := ⟨"LinkMill$Instruction", "encoded", "(IIII)I"⟩
abbrev b_Instr_opOf : ByteArray := prog_4_method_7_code
abbrev y_Instr_opOf : MethodName := ⟨"LinkMill$Instruction", "opOf", "(I)I"⟩
abbrev b_Instr_aOf : ByteArray := prog_4_method_8_code
abbrev y_Instr_aOf : MethodName := ⟨"LinkMill$Instruction", "aOf", "(I)I"⟩
abbrev b_Instr_bOf : ByteArray := prog_4_method_9_code
abbrev y_Instr_bOf : MethodName := ⟨"LinkMill$Instruction", "bOf", "(I)I"⟩
abbrev b_Instr_registerCOf : ByteArray := prog_4_method_10_code
abbrev y_Instr_registerCOf : MethodName := ⟨"LinkMill$Instruction", "registerCOf", "(I)I"⟩
abbrev b_Instr_numberOf : ByteArray := prog_4_method_11_code
abbrev y_Instr_numberOf : MethodName := ⟨"LinkMill$Instruction", "numberOf", "(I)I"⟩
abbrev b_Linker_init : ByteArray := prog_5_method_1_code
abbrev y_Linker_init : MethodName := ⟨"LinkMill$Linker", "<init>", "()V"⟩
abbrev b_Linker_build : ByteArray := prog_5_method_2_code
abbrev y_Linker_build : MethodName := ⟨"LinkMill$Linker", "build", "(LLinkMill$Image;II)I"⟩
abbrev b_Linker_layOut : ByteArray := prog_5_method_3_code
abbrev y_Linker_layOut : MethodName := ⟨"LinkMill$Linker", "layOut", "(I)V"⟩
abbrev b_Linker_layOutSections : ByteArray := prog_5_method_4_code
abbrev y_Linker_layOutSections : MethodName := ⟨"LinkMill$Linker", "layOutSections", "(II)I"⟩
abbrev b_Linker_findGlobals : ByteArray := prog_5_method_5_code
abbrev y_Linker_findGlobals : MethodName := ⟨"LinkMill$Linker", "findGlobals", "()V"⟩
abbrev b_Linker_refusalOf : ByteArray := prog_5_method_6_code
abbrev y_Linker_refusalOf : MethodName := ⟨"LinkMill$Linker", "refusalOf", "(I)I"⟩
abbrev b_Linker_leastDoubledName : ByteArray := prog_5_method_7_code
abbrev y_Linker_leastDoubledName : MethodName := ⟨"LinkMill$Linker", "leastDoubledName", "()I"⟩
abbrev b_Linker_isDoubled : ByteArray := prog_5_method_8_code
abbrev y_Linker_isDoubled : MethodName := ⟨"LinkMill$Linker", "isDoubled", "(I)Z"⟩
abbrev b_Linker_firstNamelessFix : ByteArray := prog_5_method_9_code
abbrev y_Linker_firstNamelessFix : MethodName := ⟨"LinkMill$Linker", "firstNamelessFix", "()I"⟩
abbrev b_Linker_firstFixOutOfReach : ByteArray := prog_5_method_10_code
abbrev y_Linker_firstFixOutOfReach : MethodName := ⟨"LinkMill$Linker", "firstFixOutOfReach", "()I"⟩
abbrev b_Linker_addressFor : ByteArray := prog_5_method_11_code
abbrev y_Linker_addressFor : MethodName := ⟨"LinkMill$Linker", "addressFor", "(II)I"⟩
abbrev b_Linker_definedAddress : ByteArray := prog_5_method_12_code
abbrev y_Linker_definedAddress : MethodName := ⟨"LinkMill$Linker", "definedAddress", "(II)I"⟩
abbrev b_Linker_addressOf : ByteArray := prog_5_method_13_code
abbrev y_Linker_addressOf : MethodName := ⟨"LinkMill$Linker", "addressOf", "(III)I"⟩
abbrev b_Linker_fixAddress : ByteArray := prog_5_method_14_code
abbrev y_Linker_fixAddress : MethodName := ⟨"LinkMill$Linker", "fixAddress", "(II)I"⟩
abbrev b_Linker_fixValue : ByteArray := prog_5_method_15_code
abbrev y_Linker_fixValue : MethodName := ⟨"LinkMill$Linker", "fixValue", "(II)I"⟩
abbrev b_Linker_writeHeader : ByteArray := prog_5_method_16_code
abbrev y_Linker_writeHeader : MethodName := ⟨"LinkMill$Linker", "writeHeader", "(LLinkMill$Image;I)V"⟩
abbrev b_Linker_byteOf : ByteArray := prog_5_method_17_code
abbrev y_Linker_byteOf : MethodName := ⟨"LinkMill$Linker", "byteOf", "(II)I"⟩
abbrev b_Linker_writeSection : ByteArray := prog_5_method_18_code
abbrev y_Linker_writeSection : MethodName := ⟨"LinkMill$Linker", "writeSection", "(LLinkMill$Image;II)V"⟩
abbrev b_Linker_makeFixes : ByteArray := prog_5_method_19_code
abbrev y_Linker_makeFixes : MethodName := ⟨"LinkMill$Linker", "makeFixes", "(LLinkMill$Image;I)V"⟩
abbrev b_Machine_init : ByteArray := prog_6_method_1_code
abbrev y_Machine_init : MethodName := ⟨"LinkMill$Machine", "<init>", "()V"⟩
abbrev b_Machine_start : ByteArray := prog_6_method_2_code
abbrev y_Machine_start : MethodName := ⟨"LinkMill$Machine", "start", "(LLinkMill$Image;)V"⟩
abbrev b_Machine_advance : ByteArray := prog_6_method_3_code
abbrev y_Machine_advance : MethodName := ⟨"LinkMill$Machine", "advance", "(I)I"⟩
abbrev b_Machine_step : ByteArray := prog_6_method_4_code
abbrev y_Machine_step : MethodName := ⟨"LinkMill$Machine", "step", "()V"⟩
abbrev b_Machine_execute : ByteArray := prog_6_method_5_code
abbrev y_Machine_execute : MethodName := ⟨"LinkMill$Machine", "execute", "(I)V"⟩
abbrev b_Machine_executeRegisters : ByteArray := prog_6_method_6_code
abbrev y_Machine_executeRegisters : MethodName := ⟨"LinkMill$Machine", "executeRegisters", "(II)V"⟩
abbrev b_Machine_joined : ByteArray := prog_6_method_7_code
abbrev y_Machine_joined : MethodName := ⟨"LinkMill$Machine", "joined", "(III)I"⟩
abbrev b_Machine_branches : ByteArray := prog_6_method_8_code
abbrev y_Machine_branches : MethodName := ⟨"LinkMill$Machine", "branches", "(II)Z"⟩
abbrev b_Machine_load : ByteArray := prog_6_method_9_code
abbrev y_Machine_load : MethodName := ⟨"LinkMill$Machine", "load", "(II)V"⟩
abbrev b_Machine_store : ByteArray := prog_6_method_10_code
abbrev y_Machine_store : MethodName := ⟨"LinkMill$Machine", "store", "(II)V"⟩
abbrev b_Machine_leave : ByteArray := prog_6_method_11_code
abbrev y_Machine_leave : MethodName := ⟨"LinkMill$Machine", "leave", "(II)V"⟩
abbrev b_Machine_show : ByteArray := prog_6_method_12_code
abbrev y_Machine_show : MethodName := ⟨"LinkMill$Machine", "show", "(I)V"⟩
abbrev b_Machine_goOnWith : ByteArray := prog_6_method_13_code
abbrev y_Machine_goOnWith : MethodName := ⟨"LinkMill$Machine", "goOnWith", "(II)V"⟩
abbrev b_Machine_setRegister : ByteArray := prog_6_method_14_code
abbrev y_Machine_setRegister : MethodName := ⟨"LinkMill$Machine", "setRegister", "(II)V"⟩
abbrev b_Machine_lastShown : ByteArray := prog_6_method_15_code
abbrev y_Machine_lastShown : MethodName := ⟨"LinkMill$Machine", "lastShown", "(I)I"⟩
abbrev b_Machine_indexOf : ByteArray := prog_6_method_16_code
abbrev y_Machine_indexOf : MethodName := ⟨"LinkMill$Machine", "indexOf", "(I)I"⟩
abbrev b_Machine_placeOf : ByteArray := prog_6_method_17_code
abbrev y_Machine_placeOf : MethodName := ⟨"LinkMill$Machine", "placeOf", "(III)I"⟩
abbrev b_Part_init : ByteArray := prog_7_method_1_code
abbrev y_Part_init : MethodName := ⟨"LinkMill$Part", "<init>", "()V"⟩
abbrev b_Part_sectionOf : ByteArray := prog_7_method_2_code
abbrev y_Part_sectionOf : MethodName := ⟨"LinkMill$Part", "sectionOf", "(I)LLinkMill$Section;"⟩
abbrev b_Part_empty : ByteArray := prog_7_method_3_code
abbrev y_Part_empty : MethodName := ⟨"LinkMill$Part", "empty", "()V"⟩
abbrev b_Part_addDefinition : ByteArray := prog_7_method_4_code
abbrev y_Part_addDefinition : MethodName := ⟨"LinkMill$Part", "addDefinition", "(IIIZ)I"⟩
abbrev b_Part_addFix : ByteArray := prog_7_method_5_code
abbrev y_Part_addFix : MethodName := ⟨"LinkMill$Part", "addFix", "(IIIII)I"⟩
abbrev b_Part_timesDefined : ByteArray := prog_7_method_6_code
abbrev y_Part_timesDefined : MethodName := ⟨"LinkMill$Part", "timesDefined", "(I)I"⟩
abbrev b_Part_definitionOf : ByteArray := prog_7_method_7_code
abbrev y_Part_definitionOf : MethodName := ⟨"LinkMill$Part", "definitionOf", "(I)I"⟩
abbrev b_Part_globalDefinitionOf : ByteArray := prog_7_method_8_code
abbrev y_Part_globalDefinitionOf : MethodName := ⟨"LinkMill$Part", "globalDefinitionOf", "(I)I"⟩
abbrev b_Reader_faultOf : ByteArray := prog_8_method_2_code
abbrev y_Reader_faultOf : MethodName := ⟨"LinkMill$Reader", "faultOf", "(LLinkMill$Image;)I"⟩
abbrev b_Reader_isAsItMust : ByteArray := prog_8_method_3_code
abbrev y_Reader_isAsItMust : MethodName := ⟨"LinkMill$Reader", "isAsItMust", "(LLinkMill$Image;I)Z"⟩
abbrev b_Reader_codeEnd : ByteArray := prog_8_method_4_code
abbrev y_Reader_codeEnd : MethodName := ⟨"LinkMill$Reader", "codeEnd", "(LLinkMill$Image;)J"⟩
abbrev b_Reader_isLength : ByteArray := prog_8_method_5_code
abbrev y_Reader_isLength : MethodName := ⟨"LinkMill$Reader", "isLength", "(II)Z"⟩
abbrev b_Section_init : ByteArray := prog_9_method_1_code
abbrev y_Section_init : MethodName := ⟨"LinkMill$Section", "<init>", "(I)V"⟩
abbrev b_Section_isFull : ByteArray := prog_9_method_2_code
abbrev y_Section_isFull : MethodName := ⟨"LinkMill$Section", "isFull", "()Z"⟩
abbrev b_Section_append : ByteArray := prog_9_method_3_code
abbrev y_Section_append : MethodName := ⟨"LinkMill$Section", "append", "(I)I"⟩
abbrev b_Law_put : ByteArray := method_3_code
abbrev y_Law_put : MethodName := ⟨"LinkMillLaw", "put", "(LLinkMill;IIIII[J)I"⟩
abbrev b_Law_word : ByteArray := method_4_code
abbrev y_Law_word : MethodName := ⟨"LinkMillLaw", "word", "(LLinkMill;II[J)I"⟩
abbrev b_Law_define : ByteArray := method_5_code
abbrev y_Law_define : MethodName := ⟨"LinkMillLaw", "define", "(LLinkMill;IIIIZ[J)I"⟩
abbrev b_Law_fix : ByteArray := method_6_code
abbrev y_Law_fix : MethodName := ⟨"LinkMillLaw", "fix", "(LLinkMill;IIIIII[J)I"⟩
abbrev b_Law_clear : ByteArray := method_7_code
abbrev y_Law_clear : MethodName := ⟨"LinkMillLaw", "clear", "(LLinkMill;I[J)I"⟩
abbrev b_Law_link : ByteArray := method_8_code
abbrev y_Law_link : MethodName := ⟨"LinkMillLaw", "link", "(LLinkMill;II[J)I"⟩
abbrev b_Law_alter : ByteArray := method_9_code
abbrev y_Law_alter : MethodName := ⟨"LinkMillLaw", "alter", "(LLinkMill;II[J)I"⟩
abbrev b_Law_stretch : ByteArray := method_10_code
abbrev y_Law_stretch : MethodName := ⟨"LinkMillLaw", "stretch", "(LLinkMill;I[J)I"⟩
abbrev b_Law_run : ByteArray := method_11_code
abbrev y_Law_run : MethodName := ⟨"LinkMillLaw", "run", "(LLinkMill;I[J)I"⟩
abbrev b_Law_memory : ByteArray := method_12_code
abbrev y_Law_memory : MethodName := ⟨"LinkMillLaw", "memory", "(LLinkMill;I[J)I"⟩
abbrev b_Math_floorDiv : ByteArray := prog_16_method_47_code
abbrev y_Math_floorDiv : MethodName := ⟨"java/lang/Math", "floorDiv", "(II)I"⟩
abbrev b_Math_min : ByteArray := prog_16_method_69_code
abbrev y_Math_min : MethodName := ⟨"java/lang/Math", "min", "(II)I"⟩
