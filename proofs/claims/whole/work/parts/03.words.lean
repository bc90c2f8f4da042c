def R_Tb : String := "ModuleBytes$Table"
def F_Tb : u_T := fun k => match k with
  | 0 => ("ModuleBytes$Table", "width", "I", true)
  | 1 => ("ModuleBytes$Table", "cells", "[J", false)
  | _ => ("ModuleBytes$Table", "count", "I", false)
def t_Tb : Nat → FieldType := fun k => match k with
  | 0 => .int
  | 1 => .array .long
  | _ => .int
theorem n_Tb : ∀ a, a < 3 → ∀ b, b < 3 → a ≠ b → (F_Tb a).2.1 ≠ (F_Tb b).2.1 := by decide +kernel
theorem tk_Tb : ∀ k, k < 3 → parseFieldDescriptor (F_Tb k).2.2.1 = some (t_Tb k) := by decide +kernel
def R_Ct : String := "ModuleBytes$Contents"
def F_Ct : u_T := fun k => match k with
  | 0 => ("ModuleBytes$Contents", "bytes", "[B", true)
  | 1 => ("ModuleBytes$Contents", "kinds", "[LModuleBytes$Table;", true)
  | 2 => ("ModuleBytes$Contents", "lists", "LModuleBytes$Table;", true)
  | 3 => ("ModuleBytes$Contents", "sections", "I", false)
  | 4 => ("ModuleBytes$Contents", "start", "J", false)
  | _ => ("ModuleBytes$Contents", "dataCount", "J", false)
def t_Ct : Nat → FieldType := fun k => match k with
  | 0 => .array .byte
  | 1 => .array (.object "ModuleBytes$Table")
  | 2 => .object "ModuleBytes$Table"
  | 3 => .int
  | 4 => .long
  | _ => .long
theorem n_Ct : ∀ a, a < 6 → ∀ b, b < 6 → a ≠ b → (F_Ct a).2.1 ≠ (F_Ct b).2.1 := by decide +kernel
theorem tk_Ct : ∀ k, k < 6 → parseFieldDescriptor (F_Ct k).2.2.1 = some (t_Ct k) := by decide +kernel
def R_Sr : String := "ModuleBytes$Source"
def F_Sr : u_T := fun k => match k with
  | 0 => ("ModuleBytes$Source", "bytes", "[B", false)
  | 1 => ("ModuleBytes$Source", "at", "I", false)
  | 2 => ("ModuleBytes$Source", "limit", "I", false)
  | 3 => ("ModuleBytes$Source", "fault", "I", false)
  | _ => ("ModuleBytes$Source", "faultPlace", "I", false)
def t_Sr : Nat → FieldType := fun k => match k with
  | 0 => .array .byte
  | 1 => .int
  | 2 => .int
  | 3 => .int
  | _ => .int
theorem n_Sr : ∀ a, a < 5 → ∀ b, b < 5 → a ≠ b → (F_Sr a).2.1 ≠ (F_Sr b).2.1 := by decide +kernel
theorem tk_Sr : ∀ k, k < 5 → parseFieldDescriptor (F_Sr k).2.2.1 = some (t_Sr k) := by decide +kernel
def R_Xr : String := "ModuleBytes$ExpressionReader"
def F_Xr : u_T := fun k => match k with
  | 0 => ("ModuleBytes$ExpressionReader", "source", "LModuleBytes$Source;", true)
  | 1 => ("ModuleBytes$ExpressionReader", "elseMayCome", "[Z", true)
  | 2 => ("ModuleBytes$ExpressionReader", "depth", "I", false)
  | _ => ("ModuleBytes$ExpressionReader", "dataCounted", "Z", false)
def t_Xr : Nat → FieldType := fun k => match k with
  | 0 => .object "ModuleBytes$Source"
  | 1 => .array .boolean
  | 2 => .int
  | _ => .boolean
theorem n_Xr : ∀ a, a < 4 → ∀ b, b < 4 → a ≠ b → (F_Xr a).2.1 ≠ (F_Xr b).2.1 := by decide +kernel
theorem tk_Xr : ∀ k, k < 4 → parseFieldDescriptor (F_Xr k).2.2.1 = some (t_Xr k) := by decide +kernel
def R_Mr : String := "ModuleBytes$ModuleReader"
def F_Mr : u_T := fun k => match k with
  | 0 => ("ModuleBytes$ModuleReader", "source", "LModuleBytes$Source;", true)
  | 1 => ("ModuleBytes$ModuleReader", "expressions", "LModuleBytes$ExpressionReader;", true)
  | 2 => ("ModuleBytes$ModuleReader", "into", "LModuleBytes$Contents;", false)
  | _ => ("ModuleBytes$ModuleReader", "latestRank", "I", false)
def t_Mr : Nat → FieldType := fun k => match k with
  | 0 => .object "ModuleBytes$Source"
  | 1 => .object "ModuleBytes$ExpressionReader"
  | 2 => .object "ModuleBytes$Contents"
  | _ => .int
theorem n_Mr : ∀ a, a < 4 → ∀ b, b < 4 → a ≠ b → (F_Mr a).2.1 ≠ (F_Mr b).2.1 := by decide +kernel
theorem tk_Mr : ∀ k, k < 4 → parseFieldDescriptor (F_Mr k).2.2.1 = some (t_Mr k) := by decide +kernel
def R_Mb : String := "ModuleBytes"
def F_Mb : u_T := fun k => match k with
  | 0 => ("ModuleBytes", "reader", "LModuleBytes$ModuleReader;", true)
  | 1 => ("ModuleBytes", "module", "LModuleBytes$Contents;", false)
  | 2 => ("ModuleBytes", "draft", "LModuleBytes$Contents;", false)
  | 3 => ("ModuleBytes", "fed", "I", false)
  | _ => ("ModuleBytes", "latestPlace", "I", false)
def t_Mb : Nat → FieldType := fun k => match k with
  | 0 => .object "ModuleBytes$ModuleReader"
  | 1 => .object "ModuleBytes$Contents"
  | 2 => .object "ModuleBytes$Contents"
  | 3 => .int
  | _ => .int
theorem n_Mb : ∀ a, a < 5 → ∀ b, b < 5 → a ≠ b → (F_Mb a).2.1 ≠ (F_Mb b).2.1 := by decide +kernel
theorem tk_Mb : ∀ k, k < 5 → parseFieldDescriptor (F_Mb k).2.2.1 = some (t_Mb k) := by decide +kernel
def R_Md : String := "ModuleBytesModel"
def F_Md : u_T := fun k => match k with
  | 0 => ("ModuleBytesModel", "fed", "[I", false)
  | 1 => ("ModuleBytesModel", "many", "I", false)
  | 2 => ("ModuleBytesModel", "at", "I", false)
  | 3 => ("ModuleBytesModel", "fault", "I", false)
  | 4 => ("ModuleBytesModel", "faultPlace", "I", false)
  | 5 => ("ModuleBytesModel", "latest", "I", false)
  | 6 => ("ModuleBytesModel", "expected", "I", false)
  | 7 => ("ModuleBytesModel", "expect", "[I", false)
  | 8 => ("ModuleBytesModel", "times", "[J", false)
  | 9 => ("ModuleBytesModel", "parts", "I", false)
  | 10 => ("ModuleBytesModel", "partEnd", "[I", false)
  | 11 => ("ModuleBytesModel", "block", "[I", false)
  | 12 => ("ModuleBytesModel", "blocks", "I", false)
  | 13 => ("ModuleBytesModel", "last", "I", false)
  | 14 => ("ModuleBytesModel", "counted", "Z", false)
  | 15 => ("ModuleBytesModel", "locals", "J", false)
  | 16 => ("ModuleBytesModel", "localsAt", "I", false)
  | 17 => ("ModuleBytesModel", "things", "I", false)
  | 18 => ("ModuleBytesModel", "kind", "[I", false)
  | 19 => ("ModuleBytesModel", "from", "[I", false)
  | 20 => ("ModuleBytesModel", "to", "[I", false)
  | 21 => ("ModuleBytesModel", "rest", "[I", false)
  | 22 => ("ModuleBytesModel", "expressions", "I", false)
  | 23 => ("ModuleBytesModel", "owner", "[I", false)
  | 24 => ("ModuleBytesModel", "first", "[I", false)
  | 25 => ("ModuleBytesModel", "behind", "[I", false)
  | 26 => ("ModuleBytesModel", "sections", "I", false)
  | 27 => ("ModuleBytesModel", "start", "J", false)
  | 28 => ("ModuleBytesModel", "dataCount", "J", false)
  | 29 => ("ModuleBytesModel", "is", "Z", false)
  | 30 => ("ModuleBytesModel", "bytes", "[I", false)
  | 31 => ("ModuleBytesModel", "theThings", "I", false)
  | 32 => ("ModuleBytesModel", "theExpressions", "I", false)
  | 33 => ("ModuleBytesModel", "theSections", "I", false)
  | 34 => ("ModuleBytesModel", "theKind", "[I", false)
  | 35 => ("ModuleBytesModel", "theFrom", "[I", false)
  | 36 => ("ModuleBytesModel", "theTo", "[I", false)
  | 37 => ("ModuleBytesModel", "theRest", "[I", false)
  | 38 => ("ModuleBytesModel", "theOwner", "[I", false)
  | 39 => ("ModuleBytesModel", "theFirst", "[I", false)
  | 40 => ("ModuleBytesModel", "theBehind", "[I", false)
  | 41 => ("ModuleBytesModel", "theStart", "J", false)
  | 42 => ("ModuleBytesModel", "theDataCount", "J", false)
  | _ => ("ModuleBytesModel", "q", "I", false)
def t_Md : Nat → FieldType := fun k => match k with
  | 0 => .array .int
  | 1 => .int
  | 2 => .int
  | 3 => .int
  | 4 => .int
  | 5 => .int
  | 6 => .int
  | 7 => .array .int
  | 8 => .array .long
  | 9 => .int
  | 10 => .array .int
  | 11 => .array .int
  | 12 => .int
  | 13 => .int
  | 14 => .boolean
  | 15 => .long
  | 16 => .int
  | 17 => .int
  | 18 => .array .int
  | 19 => .array .int
  | 20 => .array .int
  | 21 => .array .int
  | 22 => .int
  | 23 => .array .int
  | 24 => .array .int
  | 25 => .array .int
  | 26 => .int
  | 27 => .long
  | 28 => .long
  | 29 => .boolean
  | 30 => .array .int
  | 31 => .int
  | 32 => .int
  | 33 => .int
  | 34 => .array .int
  | 35 => .array .int
  | 36 => .array .int
  | 37 => .array .int
  | 38 => .array .int
  | 39 => .array .int
  | 40 => .array .int
  | 41 => .long
  | 42 => .long
  | _ => .int
theorem n_Md : ∀ a, a < 44 → ∀ b, b < 44 → a ≠ b → (F_Md a).2.1 ≠ (F_Md b).2.1 := by decide +kernel
theorem tk_Md : ∀ k, k < 44 → parseFieldDescriptor (F_Md k).2.2.1 = some (t_Md k) := by decide +kernel
abbrev cls : List vw_C := [(R_Tb, F_Tb, 3), (R_Ct, F_Ct, 6), (R_Sr, F_Sr, 5), (R_Xr, F_Xr, 4), (R_Mr, F_Mr, 4), (R_Mb, F_Mb, 5), (R_Md, F_Md, 44)]
/-- every word of the tables that a callee may be handed -/
def wAll : List Cond := lw_tbl.filter goodWord
theorem wa_in : ∀ w ∈ wAll, w ∈ lw_tbl := fun _ h => (List.mem_filter.mp h).1
theorem wa_good : GoodIn wAll wAll := fun w h => ⟨h, good_of_word (List.mem_filter.mp h).2⟩
theorem wa_1 {w : Cond} (k : Nat) (h : tables_1_1[k]? = some w) (g : goodWord w = true) : w ∈ wAll := List.mem_filter.mpr ⟨List.mem_append_right _ (List.mem_append_left _ (List.mem_of_getElem? h)), g⟩
theorem wa_2 {w : Cond} (k : Nat) (h : tables_1_2[k]? = some w) (g : goodWord w = true) : w ∈ wAll := List.mem_filter.mpr ⟨List.mem_append_right _ (List.mem_append_right _ (List.mem_append_left _ (List.mem_of_getElem? h))), g⟩
theorem wa_3 {w : Cond} (k : Nat) (h : tables_1_3[k]? = some w) (g : goodWord w = true) : w ∈ wAll := List.mem_filter.mpr ⟨List.mem_append_right _ (List.mem_append_right _ (List.mem_append_right _ (List.mem_append_left _ (List.mem_of_getElem? h)))), g⟩
theorem wa_4 {w : Cond} (k : Nat) (h : tables_1_4[k]? = some w) (g : goodWord w = true) : w ∈ wAll := List.mem_filter.mpr ⟨List.mem_append_right _ (List.mem_append_right _ (List.mem_append_right _ (List.mem_append_right _ (List.mem_of_getElem? h)))), g⟩
theorem wa_s {y : MethodName} {n : Nat} (h : (y, n) ∈ lw_privs) : Cond.selects y.cls y y ∈ wAll := List.mem_filter.mpr ⟨List.mem_append_left _ (List.mem_map.mpr ⟨(y, n), h, rfl⟩), rfl⟩
theorem wa_call {w0 : Cond} {own C : String} {idx maxL : Nat} {y : MethodName} {cc : ByteArray} {ret : Option FieldType} (h1 : Cond.methodLink own idx y ∈ wAll) (h2 : Cond.instanceMethod y ∈ wAll) (h3 : Cond.selects C y y ∈ wAll) (h4 : Cond.initialized C ∈ wAll) (h5 : Cond.code y cc maxL ret ∈ wAll) : GoodIn (w0 :: wAll) (wsV own idx C y (.code y cc maxL ret :: wAll)) := by
  have k : ∀ w ∈ wAll, w ∈ w0 :: wAll ∧ ((w.onTables && w.keeps) = true ∨ ∃ ty, w = .arrayClass ty) := fun w h => ⟨List.mem_cons_of_mem _ h, (wa_good w h).2⟩
  intro w hw
  simp only [wsV, List.mem_append, List.mem_cons, List.not_mem_nil, or_false] at hw
  rcases hw with (rfl | rfl | rfl | rfl) | (rfl | hw)
  · exact k _ h1
  · exact k _ h2
  · exact k _ h3
  · exact k _ h4
  · exact k _ h5
  · exact k _ hw
theorem wa_callS {w0 : Cond} {own : String} {idx maxL : Nat} {y : MethodName} {cc : ByteArray} {ret : Option FieldType} (h1 : Cond.methodLink own idx y ∈ wAll) (h2 : Cond.static y ∈ wAll) (h4 : Cond.initialized own ∈ wAll) (h5 : Cond.code y cc maxL ret ∈ wAll) : GoodIn (w0 :: wAll) (wsS own idx y (.code y cc maxL ret :: wAll)) := by
  have k : ∀ w ∈ wAll, w ∈ w0 :: wAll ∧ ((w.onTables && w.keeps) = true ∨ ∃ ty, w = .arrayClass ty) := fun w h => ⟨List.mem_cons_of_mem _ h, (wa_good w h).2⟩
  intro w hw
  simp only [wsS, List.mem_append, List.mem_cons, List.not_mem_nil, or_false] at hw
  rcases hw with (rfl | rfl | rfl) | (rfl | hw)
  · exact k _ h1
  · exact k _ h2
  · exact k _ h4
  · exact k _ h5
  · exact k _ hw
theorem wa_callI {w0 : Cond} {maxL : Nat} {y : MethodName} {cc : ByteArray} {ret : Option FieldType} (h5 : Cond.code y cc maxL ret ∈ wAll) : GoodIn (w0 :: wAll) (.code y cc maxL ret :: wAll) := by
  have k : ∀ w ∈ wAll, w ∈ w0 :: wAll ∧ ((w.onTables && w.keeps) = true ∨ ∃ ty, w = .arrayClass ty) := fun w h => ⟨List.mem_cons_of_mem _ h, (wa_good w h).2⟩
  intro w hw
  rcases List.mem_cons.mp hw with rfl | hw
  · exact k _ h5
  · exact k _ hw
theorem iw1_0 : (.initialized "ModuleBytesLaw" : Cond) ∈ wAll := wa_1 0 rfl rfl
theorem iw1_1 : (.initialized "ModuleBytes" : Cond) ∈ wAll := wa_1 1 rfl rfl
theorem iw1_2 : (.initialized "ModuleBytes$Contents" : Cond) ∈ wAll := wa_1 2 rfl rfl
theorem iw1_3 : (.initialized "ModuleBytes$Table" : Cond) ∈ wAll := wa_1 3 rfl rfl
theorem iw1_4 : (.initialized "ModuleBytes$ModuleReader" : Cond) ∈ wAll := wa_1 4 rfl rfl
theorem iw1_5 : (.initialized "ModuleBytes$Source" : Cond) ∈ wAll := wa_1 5 rfl rfl
theorem iw1_6 : (.initialized "ModuleBytes$ExpressionReader" : Cond) ∈ wAll := wa_1 6 rfl rfl
theorem iw1_7 : (.initialized "ModuleBytesModel" : Cond) ∈ wAll := wa_1 7 rfl rfl
theorem iw1_8 : (.initialized "java/lang/Math" : Cond) ∈ wAll := wa_1 8 rfl rfl
theorem iw1_9 : (.initialized "java/lang/Throwable" : Cond) ∈ wAll := wa_1 9 rfl rfl
theorem iw1_10 : (.initialized "java/lang/Exception" : Cond) ∈ wAll := wa_1 10 rfl rfl
theorem iw1_11 : (.initialized "java/lang/RuntimeException" : Cond) ∈ wAll := wa_1 11 rfl rfl
theorem iw1_12 : (.initialized "java/lang/IllegalStateException" : Cond) ∈ wAll := wa_1 12 rfl rfl
theorem iw1_13 : (.initialized "java/util/Arrays" : Cond) ∈ wAll := wa_1 13 rfl rfl
theorem iw1_14 : (.initialized "java/lang/System" : Cond) ∈ wAll := wa_1 14 rfl rfl
theorem iw1_15 : (.classLink "ModuleBytesLaw" 7 "ModuleBytes" : Cond) ∈ wAll := wa_1 15 rfl rfl
theorem iw1_16 : (.instantiable "ModuleBytes" 5 : Cond) ∈ wAll := wa_1 16 rfl rfl
theorem iw1_17 : (.methodLink "ModuleBytesLaw" 9 ⟨"ModuleBytes", "<init>", "()V"⟩ : Cond) ∈ wAll := wa_1 17 rfl rfl
theorem iw1_18 : (.instanceMethod ⟨"ModuleBytes", "<init>", "()V"⟩ : Cond) ∈ wAll := wa_1 18 rfl rfl
theorem iw1_19 : (.code ⟨"ModuleBytes", "<init>", "()V"⟩ prog_1_method_1_code 1 (Option.none : Option Jvm.ClassFile.FieldType) : Cond) ∈ wAll := wa_1 19 rfl rfl
theorem iw1_20 : (.methodLink "ModuleBytes" 1 ⟨"java/lang/Object", "<init>", "()V"⟩ : Cond) ∈ wAll := wa_1 20 rfl rfl
theorem iw1_21 : (.instanceMethod ⟨"java/lang/Object", "<init>", "()V"⟩ : Cond) ∈ wAll := wa_1 21 rfl rfl
theorem iw1_22 : (.code ⟨"java/lang/Object", "<init>", "()V"⟩ object_method_1_code 1 (Option.none : Option Jvm.ClassFile.FieldType) : Cond) ∈ wAll := wa_1 22 rfl rfl
theorem iw1_23 : (.classLink "ModuleBytes" 7 "ModuleBytes$Contents" : Cond) ∈ wAll := wa_1 23 rfl rfl
theorem iw1_24 : (.instantiable "ModuleBytes$Contents" 6 : Cond) ∈ wAll := wa_1 24 rfl rfl
theorem iw1_25 : (.methodLink "ModuleBytes" 9 ⟨"ModuleBytes$Contents", "<init>", "()V"⟩ : Cond) ∈ wAll := wa_1 25 rfl rfl
theorem iw1_26 : (.instanceMethod ⟨"ModuleBytes$Contents", "<init>", "()V"⟩ : Cond) ∈ wAll := wa_1 26 rfl rfl
theorem iw1_27 : (.code ⟨"ModuleBytes$Contents", "<init>", "()V"⟩ prog_2_method_1_code 2 (Option.none : Option Jvm.ClassFile.FieldType) : Cond) ∈ wAll := wa_1 27 rfl rfl
theorem iw1_28 : (.methodLink "ModuleBytes$Contents" 3 ⟨"java/lang/Object", "<init>", "()V"⟩ : Cond) ∈ wAll := wa_1 28 rfl rfl
theorem iw1_29 : (.classLink "ModuleBytes$Contents" 15 "ModuleBytes$Table" : Cond) ∈ wAll := wa_1 29 rfl rfl
theorem iw1_31 : (.instantiable "ModuleBytes$Table" 3 : Cond) ∈ wAll := wa_1 31 rfl rfl
theorem iw1_36 : (.methodLink "ModuleBytes$Contents" 28 ⟨"ModuleBytes$Table", "<init>", "(I)V"⟩ : Cond) ∈ wAll := wa_1 36 rfl rfl
theorem iw1_37 : (.instanceMethod ⟨"ModuleBytes$Table", "<init>", "(I)V"⟩ : Cond) ∈ wAll := wa_1 37 rfl rfl
theorem iw1_38 : (.code ⟨"ModuleBytes$Table", "<init>", "(I)V"⟩ prog_6_method_1_code 2 (Option.none : Option Jvm.ClassFile.FieldType) : Cond) ∈ wAll := wa_1 38 rfl rfl
theorem iw1_39 : (.methodLink "ModuleBytes$Table" 3 ⟨"java/lang/Object", "<init>", "()V"⟩ : Cond) ∈ wAll := wa_1 39 rfl rfl
theorem iw1_40 : (.fieldLink "ModuleBytes$Table" 9 "ModuleBytes$Table" "width" "I" : Cond) ∈ wAll := wa_1 40 rfl rfl
theorem iw1_41 : (.fieldLink "ModuleBytes$Table" 15 "ModuleBytes$Table" "cells" "[J" : Cond) ∈ wAll := wa_1 41 rfl rfl
theorem iw1_42 : (.fieldLink "ModuleBytes$Table" 19 "ModuleBytes$Table" "count" "I" : Cond) ∈ wAll := wa_1 42 rfl rfl
theorem iw1_43 : (.fieldLink "ModuleBytes$ModuleReader" 115 "ModuleBytes$Table" "count" "I" : Cond) ∈ wAll := wa_1 43 rfl rfl
theorem iw1_44 : (.fieldLink "ModuleBytes" 61 "ModuleBytes$Table" "count" "I" : Cond) ∈ wAll := wa_1 44 rfl rfl
theorem iw1_45 : (.laysFinal "ModuleBytes$Table" "ModuleBytes$Table" "width" "I" : Cond) ∈ wAll := wa_1 45 rfl rfl
theorem iw1_46 : (.soleField "ModuleBytes$Table" "width" : Cond) ∈ wAll := wa_1 46 rfl rfl
theorem iw1_47 : (.lays "ModuleBytes$Table" "ModuleBytes$Table" "cells" "[J" : Cond) ∈ wAll := wa_1 47 rfl rfl
theorem iw1_48 : (.soleField "ModuleBytes$Table" "cells" : Cond) ∈ wAll := wa_1 48 rfl rfl
theorem iw1_49 : (.lays "ModuleBytes$Table" "ModuleBytes$Table" "count" "I" : Cond) ∈ wAll := wa_1 49 rfl rfl
theorem iw1_50 : (.soleField "ModuleBytes$Table" "count" : Cond) ∈ wAll := wa_1 50 rfl rfl
theorem iw1_51 : (.superclass "ModuleBytes$Table" "java/lang/Object" : Cond) ∈ wAll := wa_1 51 rfl rfl
theorem iw1_52 : (.arrayClass Jvm.ClassFile.FieldType.byte : Cond) ∈ wAll := wa_1 52 rfl rfl
theorem iw1_53 : (.arrayClass Jvm.ClassFile.FieldType.long : Cond) ∈ wAll := wa_1 53 rfl rfl
theorem iw1_54 : (.constantLong "ModuleBytes$Contents" 39 (-1) : Cond) ∈ wAll := wa_1 54 rfl rfl
theorem iw1_55 : (.fieldLink "ModuleBytes$Contents" 9 "ModuleBytes$Contents" "bytes" "[B" : Cond) ∈ wAll := wa_1 55 rfl rfl
theorem iw1_56 : (.fieldLink "ModuleBytes$ModuleReader" 17 "ModuleBytes$Contents" "bytes" "[B" : Cond) ∈ wAll := wa_1 56 rfl rfl
theorem iw1_57 : (.fieldLink "ModuleBytes$Contents" 17 "ModuleBytes$Contents" "kinds" "[LModuleBytes$Table;" : Cond) ∈ wAll := wa_1 57 rfl rfl
theorem iw1_58 : (.fieldLink "ModuleBytes$ModuleReader" 111 "ModuleBytes$Contents" "kinds" "[LModuleBytes$Table;" : Cond) ∈ wAll := wa_1 58 rfl rfl
theorem iw1_59 : (.fieldLink "ModuleBytes" 57 "ModuleBytes$Contents" "kinds" "[LModuleBytes$Table;" : Cond) ∈ wAll := wa_1 59 rfl rfl
theorem iw1_60 : (.fieldLink "ModuleBytes$Contents" 31 "ModuleBytes$Contents" "lists" "LModuleBytes$Table;" : Cond) ∈ wAll := wa_1 60 rfl rfl
theorem iw1_61 : (.fieldLink "ModuleBytes$ModuleReader" 197 "ModuleBytes$Contents" "lists" "LModuleBytes$Table;" : Cond) ∈ wAll := wa_1 61 rfl rfl
theorem iw1_62 : (.fieldLink "ModuleBytes$Contents" 35 "ModuleBytes$Contents" "sections" "I" : Cond) ∈ wAll := wa_1 62 rfl rfl
theorem iw1_63 : (.fieldLink "ModuleBytes$ModuleReader" 91 "ModuleBytes$Contents" "sections" "I" : Cond) ∈ wAll := wa_1 63 rfl rfl
theorem iw1_64 : (.fieldLink "ModuleBytes" 66 "ModuleBytes$Contents" "sections" "I" : Cond) ∈ wAll := wa_1 64 rfl rfl
theorem iw1_65 : (.fieldLink "ModuleBytes$Contents" 41 "ModuleBytes$Contents" "start" "J" : Cond) ∈ wAll := wa_1 65 rfl rfl
theorem iw1_66 : (.fieldLink "ModuleBytes$ModuleReader" 77 "ModuleBytes$Contents" "start" "J" : Cond) ∈ wAll := wa_1 66 rfl rfl
theorem iw1_67 : (.fieldLink "ModuleBytes" 69 "ModuleBytes$Contents" "start" "J" : Cond) ∈ wAll := wa_1 67 rfl rfl
theorem iw1_68 : (.fieldLink "ModuleBytes$Contents" 45 "ModuleBytes$Contents" "dataCount" "J" : Cond) ∈ wAll := wa_1 68 rfl rfl
theorem iw1_69 : (.fieldLink "ModuleBytes$ModuleReader" 81 "ModuleBytes$Contents" "dataCount" "J" : Cond) ∈ wAll := wa_1 69 rfl rfl
theorem iw1_70 : (.fieldLink "ModuleBytes" 73 "ModuleBytes$Contents" "dataCount" "J" : Cond) ∈ wAll := wa_1 70 rfl rfl
theorem iw1_71 : (.laysFinal "ModuleBytes$Contents" "ModuleBytes$Contents" "bytes" "[B" : Cond) ∈ wAll := wa_1 71 rfl rfl
theorem iw1_72 : (.soleField "ModuleBytes$Contents" "bytes" : Cond) ∈ wAll := wa_1 72 rfl rfl
theorem iw1_73 : (.laysFinal "ModuleBytes$Contents" "ModuleBytes$Contents" "kinds" "[LModuleBytes$Table;" : Cond) ∈ wAll := wa_1 73 rfl rfl
theorem iw1_74 : (.soleField "ModuleBytes$Contents" "kinds" : Cond) ∈ wAll := wa_1 74 rfl rfl
theorem iw1_75 : (.laysFinal "ModuleBytes$Contents" "ModuleBytes$Contents" "lists" "LModuleBytes$Table;" : Cond) ∈ wAll := wa_1 75 rfl rfl
theorem iw1_76 : (.soleField "ModuleBytes$Contents" "lists" : Cond) ∈ wAll := wa_1 76 rfl rfl
theorem iw1_77 : (.lays "ModuleBytes$Contents" "ModuleBytes$Contents" "sections" "I" : Cond) ∈ wAll := wa_1 77 rfl rfl
theorem iw1_78 : (.soleField "ModuleBytes$Contents" "sections" : Cond) ∈ wAll := wa_1 78 rfl rfl
theorem iw1_79 : (.lays "ModuleBytes$Contents" "ModuleBytes$Contents" "start" "J" : Cond) ∈ wAll := wa_1 79 rfl rfl
theorem iw1_80 : (.soleField "ModuleBytes$Contents" "start" : Cond) ∈ wAll := wa_1 80 rfl rfl
theorem iw1_81 : (.lays "ModuleBytes$Contents" "ModuleBytes$Contents" "dataCount" "J" : Cond) ∈ wAll := wa_1 81 rfl rfl
theorem iw1_82 : (.soleField "ModuleBytes$Contents" "dataCount" : Cond) ∈ wAll := wa_1 82 rfl rfl
theorem iw1_83 : (.superclass "ModuleBytes$Contents" "java/lang/Object" : Cond) ∈ wAll := wa_1 83 rfl rfl
theorem iw1_84 : (.classLink "ModuleBytes" 19 "ModuleBytes$ModuleReader" : Cond) ∈ wAll := wa_1 84 rfl rfl
theorem iw1_85 : (.instantiable "ModuleBytes$ModuleReader" 4 : Cond) ∈ wAll := wa_1 85 rfl rfl
theorem iw1_86 : (.methodLink "ModuleBytes" 21 ⟨"ModuleBytes$ModuleReader", "<init>", "(LModuleBytes$Contents;)V"⟩ : Cond) ∈ wAll := wa_1 86 rfl rfl
theorem iw1_87 : (.instanceMethod ⟨"ModuleBytes$ModuleReader", "<init>", "(LModuleBytes$Contents;)V"⟩ : Cond) ∈ wAll := wa_1 87 rfl rfl
theorem iw1_88 : (.code ⟨"ModuleBytes$ModuleReader", "<init>", "(LModuleBytes$Contents;)V"⟩ prog_4_method_1_code 2 (Option.none : Option Jvm.ClassFile.FieldType) : Cond) ∈ wAll := wa_1 88 rfl rfl
theorem iw1_89 : (.methodLink "ModuleBytes$ModuleReader" 3 ⟨"java/lang/Object", "<init>", "()V"⟩ : Cond) ∈ wAll := wa_1 89 rfl rfl
theorem iw1_90 : (.classLink "ModuleBytes$ModuleReader" 15 "ModuleBytes$Source" : Cond) ∈ wAll := wa_1 90 rfl rfl
theorem iw1_91 : (.instantiable "ModuleBytes$Source" 5 : Cond) ∈ wAll := wa_1 91 rfl rfl
theorem iw1_92 : (.methodLink "ModuleBytes$ModuleReader" 23 ⟨"ModuleBytes$Source", "<init>", "([B)V"⟩ : Cond) ∈ wAll := wa_1 92 rfl rfl
theorem iw1_93 : (.instanceMethod ⟨"ModuleBytes$Source", "<init>", "([B)V"⟩ : Cond) ∈ wAll := wa_1 93 rfl rfl
theorem iw1_94 : (.code ⟨"ModuleBytes$Source", "<init>", "([B)V"⟩ prog_5_method_1_code 2 (Option.none : Option Jvm.ClassFile.FieldType) : Cond) ∈ wAll := wa_1 94 rfl rfl
theorem iw1_95 : (.methodLink "ModuleBytes$Source" 3 ⟨"java/lang/Object", "<init>", "()V"⟩ : Cond) ∈ wAll := wa_1 95 rfl rfl
theorem iw1_96 : (.fieldLink "ModuleBytes$Source" 9 "ModuleBytes$Source" "bytes" "[B" : Cond) ∈ wAll := wa_1 96 rfl rfl
theorem iw1_97 : (.fieldLink "ModuleBytes$Source" 15 "ModuleBytes$Source" "at" "I" : Cond) ∈ wAll := wa_1 97 rfl rfl
theorem iw1_98 : (.fieldLink "ModuleBytes$ExpressionReader" 27 "ModuleBytes$Source" "at" "I" : Cond) ∈ wAll := wa_1 98 rfl rfl
theorem iw1_99 : (.fieldLink "ModuleBytes$ModuleReader" 57 "ModuleBytes$Source" "at" "I" : Cond) ∈ wAll := wa_1 99 rfl rfl
theorem iw1_100 : (.fieldLink "ModuleBytes$Source" 19 "ModuleBytes$Source" "limit" "I" : Cond) ∈ wAll := wa_1 100 rfl rfl
theorem iw1_101 : (.fieldLink "ModuleBytes$ModuleReader" 60 "ModuleBytes$Source" "limit" "I" : Cond) ∈ wAll := wa_1 101 rfl rfl
theorem iw1_102 : (.fieldLink "ModuleBytes$Source" 22 "ModuleBytes$Source" "fault" "I" : Cond) ∈ wAll := wa_1 102 rfl rfl
theorem iw1_103 : (.fieldLink "ModuleBytes" 54 "ModuleBytes$Source" "fault" "I" : Cond) ∈ wAll := wa_1 103 rfl rfl
theorem iw1_104 : (.fieldLink "ModuleBytes$Source" 25 "ModuleBytes$Source" "faultPlace" "I" : Cond) ∈ wAll := wa_1 104 rfl rfl
theorem iw1_105 : (.fieldLink "ModuleBytes" 49 "ModuleBytes$Source" "faultPlace" "I" : Cond) ∈ wAll := wa_1 105 rfl rfl
theorem iw1_106 : (.lays "ModuleBytes$Source" "ModuleBytes$Source" "bytes" "[B" : Cond) ∈ wAll := wa_1 106 rfl rfl
theorem iw1_107 : (.soleField "ModuleBytes$Source" "bytes" : Cond) ∈ wAll := wa_1 107 rfl rfl
theorem iw1_108 : (.lays "ModuleBytes$Source" "ModuleBytes$Source" "at" "I" : Cond) ∈ wAll := wa_1 108 rfl rfl
theorem iw1_109 : (.soleField "ModuleBytes$Source" "at" : Cond) ∈ wAll := wa_1 109 rfl rfl
theorem iw1_110 : (.lays "ModuleBytes$Source" "ModuleBytes$Source" "limit" "I" : Cond) ∈ wAll := wa_1 110 rfl rfl
theorem iw1_111 : (.soleField "ModuleBytes$Source" "limit" : Cond) ∈ wAll := wa_1 111 rfl rfl
theorem iw1_112 : (.lays "ModuleBytes$Source" "ModuleBytes$Source" "fault" "I" : Cond) ∈ wAll := wa_1 112 rfl rfl
theorem iw1_113 : (.soleField "ModuleBytes$Source" "fault" : Cond) ∈ wAll := wa_1 113 rfl rfl
theorem iw1_114 : (.lays "ModuleBytes$Source" "ModuleBytes$Source" "faultPlace" "I" : Cond) ∈ wAll := wa_1 114 rfl rfl
theorem iw1_115 : (.soleField "ModuleBytes$Source" "faultPlace" : Cond) ∈ wAll := wa_1 115 rfl rfl
theorem iw1_116 : (.superclass "ModuleBytes$Source" "java/lang/Object" : Cond) ∈ wAll := wa_1 116 rfl rfl
theorem iw1_117 : (.classLink "ModuleBytes$ModuleReader" 30 "ModuleBytes$ExpressionReader" : Cond) ∈ wAll := wa_1 117 rfl rfl
theorem iw1_118 : (.instantiable "ModuleBytes$ExpressionReader" 4 : Cond) ∈ wAll := wa_1 118 rfl rfl
theorem iw1_119 : (.methodLink "ModuleBytes$ModuleReader" 32 ⟨"ModuleBytes$ExpressionReader", "<init>", "(LModuleBytes$Source;)V"⟩ : Cond) ∈ wAll := wa_1 119 rfl rfl
theorem iw1_120 : (.instanceMethod ⟨"ModuleBytes$ExpressionReader", "<init>", "(LModuleBytes$Source;)V"⟩ : Cond) ∈ wAll := wa_1 120 rfl rfl
theorem iw1_121 : (.code ⟨"ModuleBytes$ExpressionReader", "<init>", "(LModuleBytes$Source;)V"⟩ prog_3_method_1_code 2 (Option.none : Option Jvm.ClassFile.FieldType) : Cond) ∈ wAll := wa_1 121 rfl rfl
theorem iw1_122 : (.methodLink "ModuleBytes$ExpressionReader" 3 ⟨"java/lang/Object", "<init>", "()V"⟩ : Cond) ∈ wAll := wa_1 122 rfl rfl
theorem iw1_123 : (.fieldLink "ModuleBytes$ExpressionReader" 9 "ModuleBytes$ExpressionReader" "source" "LModuleBytes$Source;" : Cond) ∈ wAll := wa_1 123 rfl rfl
theorem iw1_124 : (.fieldLink "ModuleBytes$ExpressionReader" 15 "ModuleBytes$ExpressionReader" "elseMayCome" "[Z" : Cond) ∈ wAll := wa_1 124 rfl rfl
theorem iw1_125 : (.fieldLink "ModuleBytes$ExpressionReader" 19 "ModuleBytes$ExpressionReader" "depth" "I" : Cond) ∈ wAll := wa_1 125 rfl rfl
theorem iw1_126 : (.fieldLink "ModuleBytes$ExpressionReader" 23 "ModuleBytes$ExpressionReader" "dataCounted" "Z" : Cond) ∈ wAll := wa_1 126 rfl rfl
theorem iw1_127 : (.fieldLink "ModuleBytes$ModuleReader" 50 "ModuleBytes$ExpressionReader" "dataCounted" "Z" : Cond) ∈ wAll := wa_1 127 rfl rfl
theorem iw1_128 : (.laysFinal "ModuleBytes$ExpressionReader" "ModuleBytes$ExpressionReader" "source" "LModuleBytes$Source;" : Cond) ∈ wAll := wa_1 128 rfl rfl
theorem iw1_129 : (.soleField "ModuleBytes$ExpressionReader" "source" : Cond) ∈ wAll := wa_1 129 rfl rfl
theorem iw1_130 : (.laysFinal "ModuleBytes$ExpressionReader" "ModuleBytes$ExpressionReader" "elseMayCome" "[Z" : Cond) ∈ wAll := wa_1 130 rfl rfl
theorem iw1_131 : (.soleField "ModuleBytes$ExpressionReader" "elseMayCome" : Cond) ∈ wAll := wa_1 131 rfl rfl
theorem iw1_132 : (.lays "ModuleBytes$ExpressionReader" "ModuleBytes$ExpressionReader" "depth" "I" : Cond) ∈ wAll := wa_1 132 rfl rfl
theorem iw1_133 : (.soleField "ModuleBytes$ExpressionReader" "depth" : Cond) ∈ wAll := wa_1 133 rfl rfl
theorem iw1_134 : (.lays "ModuleBytes$ExpressionReader" "ModuleBytes$ExpressionReader" "dataCounted" "Z" : Cond) ∈ wAll := wa_1 134 rfl rfl
theorem iw1_135 : (.soleField "ModuleBytes$ExpressionReader" "dataCounted" : Cond) ∈ wAll := wa_1 135 rfl rfl
theorem iw1_136 : (.superclass "ModuleBytes$ExpressionReader" "java/lang/Object" : Cond) ∈ wAll := wa_1 136 rfl rfl
theorem iw1_137 : (.arrayClass Jvm.ClassFile.FieldType.boolean : Cond) ∈ wAll := wa_1 137 rfl rfl
theorem iw1_138 : (.fieldLink "ModuleBytes$ModuleReader" 26 "ModuleBytes$ModuleReader" "source" "LModuleBytes$Source;" : Cond) ∈ wAll := wa_1 138 rfl rfl
theorem iw1_139 : (.fieldLink "ModuleBytes" 45 "ModuleBytes$ModuleReader" "source" "LModuleBytes$Source;" : Cond) ∈ wAll := wa_1 139 rfl rfl
theorem iw1_140 : (.fieldLink "ModuleBytes$ModuleReader" 35 "ModuleBytes$ModuleReader" "expressions" "LModuleBytes$ExpressionReader;" : Cond) ∈ wAll := wa_1 140 rfl rfl
theorem iw1_141 : (.fieldLink "ModuleBytes$ModuleReader" 9 "ModuleBytes$ModuleReader" "into" "LModuleBytes$Contents;" : Cond) ∈ wAll := wa_1 141 rfl rfl
theorem iw1_142 : (.fieldLink "ModuleBytes$ModuleReader" 39 "ModuleBytes$ModuleReader" "latestRank" "I" : Cond) ∈ wAll := wa_1 142 rfl rfl
theorem iw1_143 : (.laysFinal "ModuleBytes$ModuleReader" "ModuleBytes$ModuleReader" "source" "LModuleBytes$Source;" : Cond) ∈ wAll := wa_1 143 rfl rfl
theorem iw1_144 : (.soleField "ModuleBytes$ModuleReader" "source" : Cond) ∈ wAll := wa_1 144 rfl rfl
theorem iw1_145 : (.laysFinal "ModuleBytes$ModuleReader" "ModuleBytes$ModuleReader" "expressions" "LModuleBytes$ExpressionReader;" : Cond) ∈ wAll := wa_1 145 rfl rfl
theorem iw1_146 : (.soleField "ModuleBytes$ModuleReader" "expressions" : Cond) ∈ wAll := wa_1 146 rfl rfl
theorem iw1_147 : (.lays "ModuleBytes$ModuleReader" "ModuleBytes$ModuleReader" "into" "LModuleBytes$Contents;" : Cond) ∈ wAll := wa_1 147 rfl rfl
theorem iw1_148 : (.soleField "ModuleBytes$ModuleReader" "into" : Cond) ∈ wAll := wa_1 148 rfl rfl
theorem iw1_149 : (.lays "ModuleBytes$ModuleReader" "ModuleBytes$ModuleReader" "latestRank" "I" : Cond) ∈ wAll := wa_1 149 rfl rfl
theorem iw1_150 : (.soleField "ModuleBytes$ModuleReader" "latestRank" : Cond) ∈ wAll := wa_1 150 rfl rfl
theorem iw1_151 : (.superclass "ModuleBytes$ModuleReader" "java/lang/Object" : Cond) ∈ wAll := wa_1 151 rfl rfl
theorem iw1_152 : (.fieldLink "ModuleBytes" 24 "ModuleBytes" "reader" "LModuleBytes$ModuleReader;" : Cond) ∈ wAll := wa_1 152 rfl rfl
theorem iw1_153 : (.fieldLink "ModuleBytes" 10 "ModuleBytes" "module" "LModuleBytes$Contents;" : Cond) ∈ wAll := wa_1 153 rfl rfl
theorem iw1_154 : (.fieldLink "ModuleBytes" 16 "ModuleBytes" "draft" "LModuleBytes$Contents;" : Cond) ∈ wAll := wa_1 154 rfl rfl
theorem iw1_155 : (.fieldLink "ModuleBytes" 28 "ModuleBytes" "fed" "I" : Cond) ∈ wAll := wa_1 155 rfl rfl
theorem iw1_156 : (.fieldLink "ModuleBytes" 32 "ModuleBytes" "latestPlace" "I" : Cond) ∈ wAll := wa_1 156 rfl rfl
theorem iw1_157 : (.laysFinal "ModuleBytes" "ModuleBytes" "reader" "LModuleBytes$ModuleReader;" : Cond) ∈ wAll := wa_1 157 rfl rfl
theorem iw1_158 : (.soleField "ModuleBytes" "reader" : Cond) ∈ wAll := wa_1 158 rfl rfl
theorem iw1_159 : (.lays "ModuleBytes" "ModuleBytes" "module" "LModuleBytes$Contents;" : Cond) ∈ wAll := wa_1 159 rfl rfl
theorem iw1_160 : (.soleField "ModuleBytes" "module" : Cond) ∈ wAll := wa_1 160 rfl rfl
theorem iw1_161 : (.lays "ModuleBytes" "ModuleBytes" "draft" "LModuleBytes$Contents;" : Cond) ∈ wAll := wa_1 161 rfl rfl
theorem iw1_162 : (.soleField "ModuleBytes" "draft" : Cond) ∈ wAll := wa_1 162 rfl rfl
theorem iw1_163 : (.lays "ModuleBytes" "ModuleBytes" "fed" "I" : Cond) ∈ wAll := wa_1 163 rfl rfl
theorem iw1_164 : (.soleField "ModuleBytes" "fed" : Cond) ∈ wAll := wa_1 164 rfl rfl
theorem iw1_165 : (.lays "ModuleBytes" "ModuleBytes" "latestPlace" "I" : Cond) ∈ wAll := wa_1 165 rfl rfl
theorem iw1_166 : (.soleField "ModuleBytes" "latestPlace" : Cond) ∈ wAll := wa_1 166 rfl rfl
theorem iw1_167 : (.superclass "ModuleBytes" "java/lang/Object" : Cond) ∈ wAll := wa_1 167 rfl rfl
theorem iw1_168 : (.methodLink "ModuleBytesLaw" 13 ⟨"ModuleBytes", "feed", "(IIIII)I"⟩ : Cond) ∈ wAll := wa_1 168 rfl rfl
theorem iw1_169 : (.instanceMethod ⟨"ModuleBytes", "feed", "(IIIII)I"⟩ : Cond) ∈ wAll := wa_1 169 rfl rfl
theorem iw1_170 : (.selects "ModuleBytes" ⟨"ModuleBytes", "feed", "(IIIII)I"⟩ ⟨"ModuleBytes", "feed", "(IIIII)I"⟩ : Cond) ∈ wAll := wa_1 170 rfl rfl
theorem iw1_171 : (.code ⟨"ModuleBytes", "feed", "(IIIII)I"⟩ prog_1_method_2_code 6 (Option.some Jvm.ClassFile.FieldType.int) : Cond) ∈ wAll := wa_1 171 rfl rfl
theorem iw1_172 : (.methodLink "ModuleBytes" 35 ⟨"ModuleBytes$Contents", "putNumber", "(II)V"⟩ : Cond) ∈ wAll := wa_1 172 rfl rfl
theorem iw1_173 : (.instanceMethod ⟨"ModuleBytes$Contents", "putNumber", "(II)V"⟩ : Cond) ∈ wAll := wa_1 173 rfl rfl
theorem iw1_174 : (.selects "ModuleBytes$Contents" ⟨"ModuleBytes$Contents", "putNumber", "(II)V"⟩ ⟨"ModuleBytes$Contents", "putNumber", "(II)V"⟩ : Cond) ∈ wAll := wa_1 174 rfl rfl
theorem iw1_175 : (.code ⟨"ModuleBytes$Contents", "putNumber", "(II)V"⟩ prog_2_method_3_code 3 (Option.none : Option Jvm.ClassFile.FieldType) : Cond) ∈ wAll := wa_1 175 rfl rfl
theorem iw1_176 : (.methodLink "ModuleBytesLaw" 18 ⟨"ModuleBytes", "end", "(I)I"⟩ : Cond) ∈ wAll := wa_1 176 rfl rfl
theorem iw1_177 : (.instanceMethod ⟨"ModuleBytes", "end", "(I)I"⟩ : Cond) ∈ wAll := wa_1 177 rfl rfl
theorem iw1_178 : (.selects "ModuleBytes" ⟨"ModuleBytes", "end", "(I)I"⟩ ⟨"ModuleBytes", "end", "(I)I"⟩ : Cond) ∈ wAll := wa_1 178 rfl rfl
theorem iw1_179 : (.codeWith ⟨"ModuleBytes", "end", "(I)I"⟩ prog_1_method_3_code 3 (Option.some Jvm.ClassFile.FieldType.int) [((19 : Nat), (31 : Nat), (34 : Nat), (43 : Nat))] : Cond) ∈ wAll := wa_1 179 rfl rfl
theorem iw1_180 : (.classLink "ModuleBytes" 43 "java/lang/IllegalStateException" : Cond) ∈ wAll := wa_1 180 rfl rfl
theorem iw1_181 : (.methodLink "ModuleBytes" 39 ⟨"ModuleBytes$ModuleReader", "readModule", "(LModuleBytes$Contents;I)V"⟩ : Cond) ∈ wAll := wa_1 181 rfl rfl
theorem iw1_182 : (.instanceMethod ⟨"ModuleBytes$ModuleReader", "readModule", "(LModuleBytes$Contents;I)V"⟩ : Cond) ∈ wAll := wa_1 182 rfl rfl
theorem iw1_183 : (.selects "ModuleBytes$ModuleReader" ⟨"ModuleBytes$ModuleReader", "readModule", "(LModuleBytes$Contents;I)V"⟩ ⟨"ModuleBytes$ModuleReader", "readModule", "(LModuleBytes$Contents;I)V"⟩ : Cond) ∈ wAll := wa_1 183 rfl rfl
theorem iw1_184 : (.code ⟨"ModuleBytes$ModuleReader", "readModule", "(LModuleBytes$Contents;I)V"⟩ prog_4_method_2_code 6 (Option.none : Option Jvm.ClassFile.FieldType) : Cond) ∈ wAll := wa_1 184 rfl rfl
theorem iw1_185 : (.methodLink "ModuleBytes$ModuleReader" 43 ⟨"ModuleBytes$Contents", "clear", "()V"⟩ : Cond) ∈ wAll := wa_1 185 rfl rfl
theorem iw1_186 : (.instanceMethod ⟨"ModuleBytes$Contents", "clear", "()V"⟩ : Cond) ∈ wAll := wa_1 186 rfl rfl
theorem iw1_187 : (.selects "ModuleBytes$Contents" ⟨"ModuleBytes$Contents", "clear", "()V"⟩ ⟨"ModuleBytes$Contents", "clear", "()V"⟩ : Cond) ∈ wAll := wa_1 187 rfl rfl
theorem iw1_188 : (.code ⟨"ModuleBytes$Contents", "clear", "()V"⟩ prog_2_method_2_code 2 (Option.none : Option Jvm.ClassFile.FieldType) : Cond) ∈ wAll := wa_1 188 rfl rfl
theorem iw1_189 : (.methodLink "ModuleBytes$Contents" 48 ⟨"ModuleBytes$Table", "clear", "()V"⟩ : Cond) ∈ wAll := wa_1 189 rfl rfl
theorem iw1_190 : (.instanceMethod ⟨"ModuleBytes$Table", "clear", "()V"⟩ : Cond) ∈ wAll := wa_1 190 rfl rfl
theorem iw1_191 : (.selects "ModuleBytes$Table" ⟨"ModuleBytes$Table", "clear", "()V"⟩ ⟨"ModuleBytes$Table", "clear", "()V"⟩ : Cond) ∈ wAll := wa_1 191 rfl rfl
theorem iw1_192 : (.code ⟨"ModuleBytes$Table", "clear", "()V"⟩ prog_6_method_2_code 1 (Option.none : Option Jvm.ClassFile.FieldType) : Cond) ∈ wAll := wa_1 192 rfl rfl
theorem iw1_193 : (.methodLink "ModuleBytes$ModuleReader" 46 ⟨"ModuleBytes$Source", "open", "([BI)V"⟩ : Cond) ∈ wAll := wa_1 193 rfl rfl
theorem iw1_194 : (.instanceMethod ⟨"ModuleBytes$Source", "open", "([BI)V"⟩ : Cond) ∈ wAll := wa_1 194 rfl rfl
theorem iw1_195 : (.selects "ModuleBytes$Source" ⟨"ModuleBytes$Source", "open", "([BI)V"⟩ ⟨"ModuleBytes$Source", "open", "([BI)V"⟩ : Cond) ∈ wAll := wa_1 195 rfl rfl
theorem iw1_196 : (.code ⟨"ModuleBytes$Source", "open", "([BI)V"⟩ prog_5_method_2_code 3 (Option.none : Option Jvm.ClassFile.FieldType) : Cond) ∈ wAll := wa_1 196 rfl rfl
theorem iw1_197 : (.methodLink "ModuleBytes$Source" 28 ⟨"java/lang/Math", "min", "(II)I"⟩ : Cond) ∈ wAll := wa_1 197 rfl rfl
theorem iw1_198 : (.static ⟨"java/lang/Math", "min", "(II)I"⟩ : Cond) ∈ wAll := wa_1 198 rfl rfl
theorem iw1_199 : (.code ⟨"java/lang/Math", "min", "(II)I"⟩ prog_12_method_69_code 2 (Option.some Jvm.ClassFile.FieldType.int) : Cond) ∈ wAll := wa_1 199 rfl rfl
theorem iw1_200 : (.methodLink "ModuleBytes$ModuleReader" 54 ⟨"ModuleBytes$ModuleReader", "readBeginning", "()V"⟩ : Cond) ∈ wAll := wa_1 200 rfl rfl
theorem iw1_202 : (.instanceMethod ⟨"ModuleBytes$ModuleReader", "readBeginning", "()V"⟩ : Cond) ∈ wAll := wa_1 202 rfl rfl
theorem iw1_203 : (.code ⟨"ModuleBytes$ModuleReader", "readBeginning", "()V"⟩ prog_4_method_3_code 2 (Option.none : Option Jvm.ClassFile.FieldType) : Cond) ∈ wAll := wa_1 203 rfl rfl
theorem iw1_204 : (.fieldLink "ModuleBytes$ModuleReader" 97 "ModuleBytes$ModuleReader" "BEGINNING" "[I" : Cond) ∈ wAll := wa_1 204 rfl rfl
theorem iw1_206 : (.methodLink "ModuleBytes$ModuleReader" 101 ⟨"ModuleBytes$Source", "next", "()I"⟩ : Cond) ∈ wAll := wa_1 206 rfl rfl
theorem iw1_207 : (.instanceMethod ⟨"ModuleBytes$Source", "next", "()I"⟩ : Cond) ∈ wAll := wa_1 207 rfl rfl
theorem iw1_208 : (.selects "ModuleBytes$Source" ⟨"ModuleBytes$Source", "next", "()I"⟩ ⟨"ModuleBytes$Source", "next", "()I"⟩ : Cond) ∈ wAll := wa_1 208 rfl rfl
theorem iw1_209 : (.code ⟨"ModuleBytes$Source", "next", "()I"⟩ prog_5_method_4_code 2 (Option.some Jvm.ClassFile.FieldType.int) : Cond) ∈ wAll := wa_1 209 rfl rfl
theorem iw1_210 : (.classLink "ModuleBytes$Source" 34 "java/lang/IllegalStateException" : Cond) ∈ wAll := wa_1 210 rfl rfl
theorem iw1_211 : (.instantiable "java/lang/IllegalStateException" 6 : Cond) ∈ wAll := wa_1 211 rfl rfl
theorem iw1_219 : (.selects "java/lang/IllegalStateException" ⟨"java/lang/Throwable", "fillInStackTrace", "(I)Ljava/lang/Throwable;"⟩ ⟨"java/lang/Throwable", "fillInStackTrace", "(I)Ljava/lang/Throwable;"⟩ : Cond) ∈ wAll := wa_1 219 rfl rfl
theorem iw1_220 : (.selects "java/lang/IllegalStateException" ⟨"java/lang/Throwable", "fillInStackTrace", "()Ljava/lang/Throwable;"⟩ ⟨"java/lang/Throwable", "fillInStackTrace", "()Ljava/lang/Throwable;"⟩ : Cond) ∈ wAll := wa_1 220 rfl rfl
theorem iw1_221 : (.lays "java/lang/IllegalStateException" "java/lang/Throwable" "cause" "Ljava/lang/Throwable;" : Cond) ∈ wAll := wa_1 221 rfl rfl
theorem iw1_222 : (.lays "java/lang/Throwable" "java/lang/Throwable" "cause" "Ljava/lang/Throwable;" : Cond) ∈ wAll := wa_1 222 rfl rfl
theorem iw1_223 : (.lays "java/lang/IllegalStateException" "java/lang/Throwable" "stackTrace" "[Ljava/lang/StackTraceElement;" : Cond) ∈ wAll := wa_1 223 rfl rfl
theorem iw1_224 : (.lays "java/lang/Throwable" "java/lang/Throwable" "stackTrace" "[Ljava/lang/StackTraceElement;" : Cond) ∈ wAll := wa_1 224 rfl rfl
theorem iw1_225 : (.lays "java/lang/IllegalStateException" "java/lang/Throwable" "suppressedExceptions" "Ljava/util/List;" : Cond) ∈ wAll := wa_1 225 rfl rfl
theorem iw1_226 : (.lays "java/lang/Throwable" "java/lang/Throwable" "suppressedExceptions" "Ljava/util/List;" : Cond) ∈ wAll := wa_1 226 rfl rfl
theorem iw1_227 : (.lays "java/lang/IllegalStateException" "java/lang/Throwable" "detailMessage" "Ljava/lang/String;" : Cond) ∈ wAll := wa_1 227 rfl rfl
theorem iw1_228 : (.lays "java/lang/Throwable" "java/lang/Throwable" "detailMessage" "Ljava/lang/String;" : Cond) ∈ wAll := wa_1 228 rfl rfl
theorem iw1_229 : (.lays "java/lang/IllegalStateException" "java/lang/Throwable" "backtrace" "Ljava/lang/Object;" : Cond) ∈ wAll := wa_1 229 rfl rfl
theorem iw1_230 : (.lays "java/lang/Throwable" "java/lang/Throwable" "backtrace" "Ljava/lang/Object;" : Cond) ∈ wAll := wa_1 230 rfl rfl
theorem iw1_231 : (.fieldLink "java/lang/Throwable" 198 "java/lang/Throwable" "backtrace" "Ljava/lang/Object;" : Cond) ∈ wAll := wa_1 231 rfl rfl
theorem iw1_232 : (.superclass "java/lang/Throwable" "java/lang/Object" : Cond) ∈ wAll := wa_1 232 rfl rfl
theorem iw1_233 : (.instanceMethod ⟨"java/lang/Throwable", "<init>", "()V"⟩ : Cond) ∈ wAll := wa_1 233 rfl rfl
theorem iw1_234 : (.code ⟨"java/lang/Throwable", "<init>", "()V"⟩ prog_16_method_1_code 1 (Option.none : Option Jvm.ClassFile.FieldType) : Cond) ∈ wAll := wa_1 234 rfl rfl
theorem iw1_235 : (.methodLink "java/lang/Throwable" 1 ⟨"java/lang/Object", "<init>", "()V"⟩ : Cond) ∈ wAll := wa_1 235 rfl rfl
theorem iw1_236 : (.fieldLink "java/lang/Throwable" 13 "java/lang/Throwable" "UNASSIGNED_STACK" "[Ljava/lang/StackTraceElement;" : Cond) ∈ wAll := wa_1 236 rfl rfl
theorem iw1_238 : (.fieldLink "java/lang/Throwable" 20 "java/lang/Throwable" "SUPPRESSED_SENTINEL" "Ljava/util/List;" : Cond) ∈ wAll := wa_1 238 rfl rfl
theorem iw2_0 : (.methodLink "java/lang/Throwable" 27 ⟨"java/lang/Throwable", "fillInStackTrace", "()Ljava/lang/Throwable;"⟩ : Cond) ∈ wAll := wa_2 0 rfl rfl
theorem iw2_1 : (.instanceMethod ⟨"java/lang/Throwable", "fillInStackTrace", "()Ljava/lang/Throwable;"⟩ : Cond) ∈ wAll := wa_2 1 rfl rfl
theorem iw2_2 : (.sameMethod "java/lang/Throwable" "java/lang/Throwable" "fillInStackTrace" "()Ljava/lang/Throwable;" : Cond) ∈ wAll := wa_2 2 rfl rfl
theorem iw2_3 : (.codeSync ⟨"java/lang/Throwable", "fillInStackTrace", "()Ljava/lang/Throwable;"⟩ prog_16_method_18_code 1 (Option.some (Jvm.ClassFile.FieldType.object "java/lang/Throwable")) : Cond) ∈ wAll := wa_2 3 rfl rfl
theorem iw2_4 : (.methodLink "java/lang/Throwable" 202 ⟨"java/lang/Throwable", "fillInStackTrace", "(I)Ljava/lang/Throwable;"⟩ : Cond) ∈ wAll := wa_2 4 rfl rfl
theorem iw2_6 : (.instanceMethod ⟨"java/lang/Throwable", "fillInStackTrace", "(I)Ljava/lang/Throwable;"⟩ : Cond) ∈ wAll := wa_2 6 rfl rfl
theorem iw2_7 : (.instantiable "java/lang/Throwable" 6 : Cond) ∈ wAll := wa_2 7 rfl rfl
theorem iw2_8 : (.native ⟨"java/lang/Throwable", "fillInStackTrace", "(I)Ljava/lang/Throwable;"⟩ : Cond) ∈ wAll := wa_2 8 rfl rfl
theorem iw2_10 : (.methodLink "ModuleBytes$Source" 38 ⟨"java/lang/IllegalStateException", "<init>", "(Ljava/lang/String;)V"⟩ : Cond) ∈ wAll := wa_2 10 rfl rfl
theorem iw2_11 : (.instanceMethod ⟨"java/lang/IllegalStateException", "<init>", "(Ljava/lang/String;)V"⟩ : Cond) ∈ wAll := wa_2 11 rfl rfl
theorem iw2_12 : (.code ⟨"java/lang/IllegalStateException", "<init>", "(Ljava/lang/String;)V"⟩ prog_11_method_2_code 2 (Option.none : Option Jvm.ClassFile.FieldType) : Cond) ∈ wAll := wa_2 12 rfl rfl
theorem iw2_13 : (.methodLink "java/lang/IllegalStateException" 7 ⟨"java/lang/RuntimeException", "<init>", "(Ljava/lang/String;)V"⟩ : Cond) ∈ wAll := wa_2 13 rfl rfl
theorem iw2_14 : (.instanceMethod ⟨"java/lang/RuntimeException", "<init>", "(Ljava/lang/String;)V"⟩ : Cond) ∈ wAll := wa_2 14 rfl rfl
theorem iw2_15 : (.code ⟨"java/lang/RuntimeException", "<init>", "(Ljava/lang/String;)V"⟩ prog_13_method_2_code 2 (Option.none : Option Jvm.ClassFile.FieldType) : Cond) ∈ wAll := wa_2 15 rfl rfl
theorem iw2_16 : (.methodLink "java/lang/RuntimeException" 7 ⟨"java/lang/Exception", "<init>", "(Ljava/lang/String;)V"⟩ : Cond) ∈ wAll := wa_2 16 rfl rfl
theorem iw2_17 : (.instanceMethod ⟨"java/lang/Exception", "<init>", "(Ljava/lang/String;)V"⟩ : Cond) ∈ wAll := wa_2 17 rfl rfl
theorem iw2_18 : (.code ⟨"java/lang/Exception", "<init>", "(Ljava/lang/String;)V"⟩ prog_10_method_2_code 2 (Option.none : Option Jvm.ClassFile.FieldType) : Cond) ∈ wAll := wa_2 18 rfl rfl
theorem iw2_19 : (.methodLink "java/lang/Exception" 7 ⟨"java/lang/Throwable", "<init>", "(Ljava/lang/String;)V"⟩ : Cond) ∈ wAll := wa_2 19 rfl rfl
theorem iw2_20 : (.instanceMethod ⟨"java/lang/Throwable", "<init>", "(Ljava/lang/String;)V"⟩ : Cond) ∈ wAll := wa_2 20 rfl rfl
theorem iw2_21 : (.code ⟨"java/lang/Throwable", "<init>", "(Ljava/lang/String;)V"⟩ prog_16_method_2_code 2 (Option.none : Option Jvm.ClassFile.FieldType) : Cond) ∈ wAll := wa_2 21 rfl rfl
theorem iw2_23 : (.fieldLink "java/lang/Throwable" 31 "java/lang/Throwable" "detailMessage" "Ljava/lang/String;" : Cond) ∈ wAll := wa_2 23 rfl rfl
theorem iw2_24 : (.fieldLink "java/lang/Throwable" 7 "java/lang/Throwable" "cause" "Ljava/lang/Throwable;" : Cond) ∈ wAll := wa_2 24 rfl rfl
theorem iw2_25 : (.fieldLink "java/lang/Throwable" 17 "java/lang/Throwable" "stackTrace" "[Ljava/lang/StackTraceElement;" : Cond) ∈ wAll := wa_2 25 rfl rfl
theorem iw2_26 : (.fieldLink "java/lang/Throwable" 24 "java/lang/Throwable" "suppressedExceptions" "Ljava/util/List;" : Cond) ∈ wAll := wa_2 26 rfl rfl
theorem iw2_27 : (.soleField "java/lang/Throwable" "backtrace" : Cond) ∈ wAll := wa_2 27 rfl rfl
theorem iw2_28 : (.soleField "java/lang/Throwable" "detailMessage" : Cond) ∈ wAll := wa_2 28 rfl rfl
theorem iw2_29 : (.soleField "java/lang/Throwable" "cause" : Cond) ∈ wAll := wa_2 29 rfl rfl
theorem iw2_30 : (.soleField "java/lang/Throwable" "stackTrace" : Cond) ∈ wAll := wa_2 30 rfl rfl
theorem iw2_31 : (.lays "java/lang/IllegalStateException" "java/lang/Throwable" "depth" "I" : Cond) ∈ wAll := wa_2 31 rfl rfl
theorem iw2_32 : (.soleField "java/lang/Throwable" "depth" : Cond) ∈ wAll := wa_2 32 rfl rfl
theorem iw2_33 : (.soleField "java/lang/Throwable" "suppressedExceptions" : Cond) ∈ wAll := wa_2 33 rfl rfl
theorem iw2_34 : (.superclass "java/lang/IllegalStateException" "java/lang/RuntimeException" : Cond) ∈ wAll := wa_2 34 rfl rfl
theorem iw2_35 : (.methodLink "ModuleBytes$ModuleReader" 104 ⟨"ModuleBytes$Source", "fail", "(II)V"⟩ : Cond) ∈ wAll := wa_2 35 rfl rfl
theorem iw2_36 : (.instanceMethod ⟨"ModuleBytes$Source", "fail", "(II)V"⟩ : Cond) ∈ wAll := wa_2 36 rfl rfl
theorem iw2_37 : (.selects "ModuleBytes$Source" ⟨"ModuleBytes$Source", "fail", "(II)V"⟩ ⟨"ModuleBytes$Source", "fail", "(II)V"⟩ : Cond) ∈ wAll := wa_2 37 rfl rfl
theorem iw2_38 : (.code ⟨"ModuleBytes$Source", "fail", "(II)V"⟩ prog_5_method_3_code 3 (Option.none : Option Jvm.ClassFile.FieldType) : Cond) ∈ wAll := wa_2 38 rfl rfl
theorem iw2_40 : (.methodLink "ModuleBytes$ModuleReader" 63 ⟨"ModuleBytes$ModuleReader", "readId", "()I"⟩ : Cond) ∈ wAll := wa_2 40 rfl rfl
theorem iw2_42 : (.instanceMethod ⟨"ModuleBytes$ModuleReader", "readId", "()I"⟩ : Cond) ∈ wAll := wa_2 42 rfl rfl
theorem iw2_43 : (.code ⟨"ModuleBytes$ModuleReader", "readId", "()I"⟩ prog_4_method_4_code 2 (Option.some Jvm.ClassFile.FieldType.int) : Cond) ∈ wAll := wa_2 43 rfl rfl
theorem iw2_44 : (.fieldLink "ModuleBytes$ModuleReader" 108 "ModuleBytes$ModuleReader" "RANKS" "[I" : Cond) ∈ wAll := wa_2 44 rfl rfl
theorem iw2_46 : (.methodLink "ModuleBytes$ModuleReader" 67 ⟨"ModuleBytes$Source", "enter", "()I"⟩ : Cond) ∈ wAll := wa_2 46 rfl rfl
theorem iw2_47 : (.instanceMethod ⟨"ModuleBytes$Source", "enter", "()I"⟩ : Cond) ∈ wAll := wa_2 47 rfl rfl
theorem iw2_48 : (.selects "ModuleBytes$Source" ⟨"ModuleBytes$Source", "enter", "()I"⟩ ⟨"ModuleBytes$Source", "enter", "()I"⟩ : Cond) ∈ wAll := wa_2 48 rfl rfl
theorem iw2_49 : (.code ⟨"ModuleBytes$Source", "enter", "()I"⟩ prog_5_method_6_code 5 (Option.some Jvm.ClassFile.FieldType.int) : Cond) ∈ wAll := wa_2 49 rfl rfl
theorem iw2_50 : (.methodLink "ModuleBytes$Source" 47 ⟨"ModuleBytes$Source", "u32", "()J"⟩ : Cond) ∈ wAll := wa_2 50 rfl rfl
theorem iw2_51 : (.instanceMethod ⟨"ModuleBytes$Source", "u32", "()J"⟩ : Cond) ∈ wAll := wa_2 51 rfl rfl
theorem iw2_52 : (.selects "ModuleBytes$Source" ⟨"ModuleBytes$Source", "u32", "()J"⟩ ⟨"ModuleBytes$Source", "u32", "()J"⟩ : Cond) ∈ wAll := wa_2 52 rfl rfl
theorem iw2_53 : (.code ⟨"ModuleBytes$Source", "u32", "()J"⟩ prog_5_method_8_code 5 (Option.some Jvm.ClassFile.FieldType.long) : Cond) ∈ wAll := wa_2 53 rfl rfl
theorem iw2_54 : (.methodLink "ModuleBytes$Source" 51 ⟨"ModuleBytes$Source", "next", "()I"⟩ : Cond) ∈ wAll := wa_2 54 rfl rfl
theorem iw2_55 : (.methodLink "ModuleBytes$Source" 43 ⟨"ModuleBytes$Source", "fail", "(II)V"⟩ : Cond) ∈ wAll := wa_2 55 rfl rfl
theorem iw2_56 : (.methodLink "ModuleBytes$ModuleReader" 70 ⟨"ModuleBytes$ModuleReader", "readCustom", "()V"⟩ : Cond) ∈ wAll := wa_2 56 rfl rfl
theorem iw2_58 : (.instanceMethod ⟨"ModuleBytes$ModuleReader", "readCustom", "()V"⟩ : Cond) ∈ wAll := wa_2 58 rfl rfl
theorem iw2_59 : (.code ⟨"ModuleBytes$ModuleReader", "readCustom", "()V"⟩ prog_4_method_6_code 2 (Option.none : Option Jvm.ClassFile.FieldType) : Cond) ∈ wAll := wa_2 59 rfl rfl
theorem iw2_60 : (.methodLink "ModuleBytes$ModuleReader" 122 ⟨"ModuleBytes$Table", "begin", "()V"⟩ : Cond) ∈ wAll := wa_2 60 rfl rfl
theorem iw2_61 : (.instanceMethod ⟨"ModuleBytes$Table", "begin", "()V"⟩ : Cond) ∈ wAll := wa_2 61 rfl rfl
theorem iw2_62 : (.selects "ModuleBytes$Table" ⟨"ModuleBytes$Table", "begin", "()V"⟩ ⟨"ModuleBytes$Table", "begin", "()V"⟩ : Cond) ∈ wAll := wa_2 62 rfl rfl
theorem iw2_63 : (.code ⟨"ModuleBytes$Table", "begin", "()V"⟩ prog_6_method_3_code 3 (Option.none : Option Jvm.ClassFile.FieldType) : Cond) ∈ wAll := wa_2 63 rfl rfl
theorem iw2_64 : (.methodLink "ModuleBytes$Table" 22 ⟨"java/util/Arrays", "copyOf", "([JI)[J"⟩ : Cond) ∈ wAll := wa_2 64 rfl rfl
theorem iw2_65 : (.static ⟨"java/util/Arrays", "copyOf", "([JI)[J"⟩ : Cond) ∈ wAll := wa_2 65 rfl rfl
theorem iw2_66 : (.code ⟨"java/util/Arrays", "copyOf", "([JI)[J"⟩ prog_17_method_124_code 3 (Option.some (Jvm.ClassFile.FieldType.array Jvm.ClassFile.FieldType.long)) : Cond) ∈ wAll := wa_2 66 rfl rfl
theorem iw2_67 : (.methodLink "java/util/Arrays" 319 ⟨"[J", "clone", "()Ljava/lang/Object;"⟩ : Cond) ∈ wAll := wa_2 67 rfl rfl
theorem iw2_68 : (.sameMethod "[J" "java/lang/Object" "clone" "()Ljava/lang/Object;" : Cond) ∈ wAll := wa_2 68 rfl rfl
theorem iw2_69 : (.native ⟨"java/lang/Object", "clone", "()Ljava/lang/Object;"⟩ : Cond) ∈ wAll := wa_2 69 rfl rfl
theorem iw2_70 : (.instanceMethod ⟨"java/lang/Object", "clone", "()Ljava/lang/Object;"⟩ : Cond) ∈ wAll := wa_2 70 rfl rfl
theorem iw2_71 : (.selects "[J" ⟨"[J", "clone", "()Ljava/lang/Object;"⟩ ⟨"java/lang/Object", "clone", "()Ljava/lang/Object;"⟩ : Cond) ∈ wAll := wa_2 71 rfl rfl
theorem iw2_73 : (.classLink "java/util/Arrays" 320 "[J" : Cond) ∈ wAll := wa_2 73 rfl rfl
theorem iw2_74 : (.methodLink "java/util/Arrays" 304 ⟨"java/lang/Math", "min", "(II)I"⟩ : Cond) ∈ wAll := wa_2 74 rfl rfl
theorem iw2_75 : (.methodLink "java/util/Arrays" 150 ⟨"java/lang/System", "arraycopy", "(Ljava/lang/Object;ILjava/lang/Object;II)V"⟩ : Cond) ∈ wAll := wa_2 75 rfl rfl
theorem iw2_76 : (.static ⟨"java/lang/System", "arraycopy", "(Ljava/lang/Object;ILjava/lang/Object;II)V"⟩ : Cond) ∈ wAll := wa_2 76 rfl rfl
theorem iw2_77 : (.native ⟨"java/lang/System", "arraycopy", "(Ljava/lang/Object;ILjava/lang/Object;II)V"⟩ : Cond) ∈ wAll := wa_2 77 rfl rfl
theorem iw2_78 : (.constantLong "ModuleBytes$Table" 28 (-1) : Cond) ∈ wAll := wa_2 78 rfl rfl
theorem iw2_80 : (.methodLink "ModuleBytes$ModuleReader" 128 ⟨"ModuleBytes$Source", "nameInto", "(LModuleBytes$Table;I)V"⟩ : Cond) ∈ wAll := wa_2 80 rfl rfl
theorem iw2_81 : (.instanceMethod ⟨"ModuleBytes$Source", "nameInto", "(LModuleBytes$Table;I)V"⟩ : Cond) ∈ wAll := wa_2 81 rfl rfl
theorem iw2_82 : (.selects "ModuleBytes$Source" ⟨"ModuleBytes$Source", "nameInto", "(LModuleBytes$Table;I)V"⟩ ⟨"ModuleBytes$Source", "nameInto", "(LModuleBytes$Table;I)V"⟩ : Cond) ∈ wAll := wa_2 82 rfl rfl
theorem iw2_83 : (.code ⟨"ModuleBytes$Source", "nameInto", "(LModuleBytes$Table;I)V"⟩ prog_5_method_18_code 8 (Option.none : Option Jvm.ClassFile.FieldType) : Cond) ∈ wAll := wa_2 83 rfl rfl
theorem iw2_84 : (.methodLink "ModuleBytes$Source" 65 ⟨"ModuleBytes$Source", "skip", "(J)V"⟩ : Cond) ∈ wAll := wa_2 84 rfl rfl
theorem iw2_85 : (.instanceMethod ⟨"ModuleBytes$Source", "skip", "(J)V"⟩ : Cond) ∈ wAll := wa_2 85 rfl rfl
theorem iw2_86 : (.selects "ModuleBytes$Source" ⟨"ModuleBytes$Source", "skip", "(J)V"⟩ ⟨"ModuleBytes$Source", "skip", "(J)V"⟩ : Cond) ∈ wAll := wa_2 86 rfl rfl
theorem iw2_87 : (.code ⟨"ModuleBytes$Source", "skip", "(J)V"⟩ prog_5_method_5_code 3 (Option.none : Option Jvm.ClassFile.FieldType) : Cond) ∈ wAll := wa_2 87 rfl rfl
theorem iw2_88 : (.methodLink "ModuleBytes$Source" 69 ⟨"ModuleBytes$Table", "put", "(IJ)V"⟩ : Cond) ∈ wAll := wa_2 88 rfl rfl
theorem iw2_89 : (.instanceMethod ⟨"ModuleBytes$Table", "put", "(IJ)V"⟩ : Cond) ∈ wAll := wa_2 89 rfl rfl
theorem iw2_90 : (.selects "ModuleBytes$Table" ⟨"ModuleBytes$Table", "put", "(IJ)V"⟩ ⟨"ModuleBytes$Table", "put", "(IJ)V"⟩ : Cond) ∈ wAll := wa_2 90 rfl rfl
theorem iw2_91 : (.code ⟨"ModuleBytes$Table", "put", "(IJ)V"⟩ prog_6_method_4_code 4 (Option.none : Option Jvm.ClassFile.FieldType) : Cond) ∈ wAll := wa_2 91 rfl rfl
theorem iw2_92 : (.methodLink "ModuleBytes$Source" 75 ⟨"ModuleBytes$Source", "characterSize", "(I)I"⟩ : Cond) ∈ wAll := wa_2 92 rfl rfl
theorem iw2_94 : (.instanceMethod ⟨"ModuleBytes$Source", "characterSize", "(I)I"⟩ : Cond) ∈ wAll := wa_2 94 rfl rfl
theorem iw2_95 : (.code ⟨"ModuleBytes$Source", "characterSize", "(I)I"⟩ prog_5_method_19_code 7 (Option.some Jvm.ClassFile.FieldType.int) : Cond) ∈ wAll := wa_2 95 rfl rfl
theorem iw2_96 : (.methodLink "ModuleBytes$Source" 79 ⟨"ModuleBytes$Source", "needsSize", "(II)Z"⟩ : Cond) ∈ wAll := wa_2 96 rfl rfl
theorem iw2_97 : (.static ⟨"ModuleBytes$Source", "needsSize", "(II)Z"⟩ : Cond) ∈ wAll := wa_2 97 rfl rfl
theorem iw2_98 : (.code ⟨"ModuleBytes$Source", "needsSize", "(II)Z"⟩ prog_5_method_20_code 2 (Option.some Jvm.ClassFile.FieldType.boolean) : Cond) ∈ wAll := wa_2 98 rfl rfl
theorem iw2_99 : (.constant "ModuleBytes$Source" 83 55296 : Cond) ∈ wAll := wa_2 99 rfl rfl
theorem iw2_100 : (.constant "ModuleBytes$Source" 84 57343 : Cond) ∈ wAll := wa_2 100 rfl rfl
theorem iw2_101 : (.constant "ModuleBytes$Source" 85 65536 : Cond) ∈ wAll := wa_2 101 rfl rfl
theorem iw2_102 : (.constant "ModuleBytes$Source" 86 1114111 : Cond) ∈ wAll := wa_2 102 rfl rfl
theorem iw2_103 : (.methodLink "ModuleBytes$ModuleReader" 132 ⟨"ModuleBytes$Table", "put", "(IJ)V"⟩ : Cond) ∈ wAll := wa_2 103 rfl rfl
theorem iw2_104 : (.methodLink "ModuleBytes$ModuleReader" 73 ⟨"ModuleBytes$Source", "u32", "()J"⟩ : Cond) ∈ wAll := wa_2 104 rfl rfl
theorem iw2_105 : (.methodLink "ModuleBytes$ModuleReader" 84 ⟨"ModuleBytes$ModuleReader", "readRow", "(I)V"⟩ : Cond) ∈ wAll := wa_2 105 rfl rfl
theorem iw2_107 : (.instanceMethod ⟨"ModuleBytes$ModuleReader", "readRow", "(I)V"⟩ : Cond) ∈ wAll := wa_2 107 rfl rfl
theorem iw2_108 : (.code ⟨"ModuleBytes$ModuleReader", "readRow", "(I)V"⟩ prog_4_method_7_code 4 (Option.none : Option Jvm.ClassFile.FieldType) : Cond) ∈ wAll := wa_2 108 rfl rfl
theorem iw2_109 : (.methodLink "ModuleBytes$ModuleReader" 136 ⟨"ModuleBytes$ModuleReader", "readFunctionType", "()V"⟩ : Cond) ∈ wAll := wa_2 109 rfl rfl
theorem iw2_111 : (.instanceMethod ⟨"ModuleBytes$ModuleReader", "readFunctionType", "()V"⟩ : Cond) ∈ wAll := wa_2 111 rfl rfl
theorem iw2_112 : (.code ⟨"ModuleBytes$ModuleReader", "readFunctionType", "()V"⟩ prog_4_method_8_code 7 (Option.none : Option Jvm.ClassFile.FieldType) : Cond) ∈ wAll := wa_2 112 rfl rfl
theorem iw2_113 : (.methodLink "ModuleBytes$ModuleReader" 167 ⟨"ModuleBytes$Source", "functionMark", "()V"⟩ : Cond) ∈ wAll := wa_2 113 rfl rfl
theorem iw2_114 : (.instanceMethod ⟨"ModuleBytes$Source", "functionMark", "()V"⟩ : Cond) ∈ wAll := wa_2 114 rfl rfl
theorem iw2_115 : (.selects "ModuleBytes$Source" ⟨"ModuleBytes$Source", "functionMark", "()V"⟩ ⟨"ModuleBytes$Source", "functionMark", "()V"⟩ : Cond) ∈ wAll := wa_2 115 rfl rfl
theorem iw2_116 : (.code ⟨"ModuleBytes$Source", "functionMark", "()V"⟩ prog_5_method_14_code 1 (Option.none : Option Jvm.ClassFile.FieldType) : Cond) ∈ wAll := wa_2 116 rfl rfl
theorem iw2_117 : (.methodLink "ModuleBytes$ModuleReader" 170 ⟨"ModuleBytes$Source", "valueType", "()I"⟩ : Cond) ∈ wAll := wa_2 117 rfl rfl
theorem iw2_118 : (.instanceMethod ⟨"ModuleBytes$Source", "valueType", "()I"⟩ : Cond) ∈ wAll := wa_2 118 rfl rfl
theorem iw2_119 : (.selects "ModuleBytes$Source" ⟨"ModuleBytes$Source", "valueType", "()I"⟩ ⟨"ModuleBytes$Source", "valueType", "()I"⟩ : Cond) ∈ wAll := wa_2 119 rfl rfl
theorem iw2_120 : (.code ⟨"ModuleBytes$Source", "valueType", "()I"⟩ prog_5_method_13_code 2 (Option.some Jvm.ClassFile.FieldType.int) : Cond) ∈ wAll := wa_2 120 rfl rfl
theorem iw2_121 : (.methodLink "ModuleBytes$Source" 59 ⟨"ModuleBytes$Source", "isValueType", "(I)Z"⟩ : Cond) ∈ wAll := wa_2 121 rfl rfl
theorem iw2_122 : (.static ⟨"ModuleBytes$Source", "isValueType", "(I)Z"⟩ : Cond) ∈ wAll := wa_2 122 rfl rfl
theorem iw2_123 : (.code ⟨"ModuleBytes$Source", "isValueType", "(I)Z"⟩ prog_5_method_17_code 1 (Option.some Jvm.ClassFile.FieldType.boolean) : Cond) ∈ wAll := wa_2 123 rfl rfl
theorem iw2_124 : (.methodLink "ModuleBytes$ModuleReader" 139 ⟨"ModuleBytes$ModuleReader", "readImport", "()V"⟩ : Cond) ∈ wAll := wa_2 124 rfl rfl
theorem iw2_126 : (.instanceMethod ⟨"ModuleBytes$ModuleReader", "readImport", "()V"⟩ : Cond) ∈ wAll := wa_2 126 rfl rfl
theorem iw2_127 : (.code ⟨"ModuleBytes$ModuleReader", "readImport", "()V"⟩ prog_4_method_9_code 3 (Option.none : Option Jvm.ClassFile.FieldType) : Cond) ∈ wAll := wa_2 127 rfl rfl
theorem iw2_128 : (.methodLink "ModuleBytes$ModuleReader" 173 ⟨"ModuleBytes$Source", "choice", "(I)I"⟩ : Cond) ∈ wAll := wa_2 128 rfl rfl
theorem iw2_129 : (.instanceMethod ⟨"ModuleBytes$Source", "choice", "(I)I"⟩ : Cond) ∈ wAll := wa_2 129 rfl rfl
theorem iw2_130 : (.selects "ModuleBytes$Source" ⟨"ModuleBytes$Source", "choice", "(I)I"⟩ ⟨"ModuleBytes$Source", "choice", "(I)I"⟩ : Cond) ∈ wAll := wa_2 130 rfl rfl
theorem iw2_131 : (.code ⟨"ModuleBytes$Source", "choice", "(I)I"⟩ prog_5_method_10_code 3 (Option.some Jvm.ClassFile.FieldType.int) : Cond) ∈ wAll := wa_2 131 rfl rfl
theorem iw2_132 : (.methodLink "ModuleBytes$ModuleReader" 145 ⟨"ModuleBytes$ModuleReader", "readTable", "(LModuleBytes$Table;)V"⟩ : Cond) ∈ wAll := wa_2 132 rfl rfl
theorem iw2_134 : (.instanceMethod ⟨"ModuleBytes$ModuleReader", "readTable", "(LModuleBytes$Table;)V"⟩ : Cond) ∈ wAll := wa_2 134 rfl rfl
theorem iw2_135 : (.code ⟨"ModuleBytes$ModuleReader", "readTable", "(LModuleBytes$Table;)V"⟩ prog_4_method_11_code 2 (Option.none : Option Jvm.ClassFile.FieldType) : Cond) ∈ wAll := wa_2 135 rfl rfl
theorem iw2_136 : (.methodLink "ModuleBytes$ModuleReader" 180 ⟨"ModuleBytes$Source", "referenceType", "()I"⟩ : Cond) ∈ wAll := wa_2 136 rfl rfl
theorem iw2_137 : (.instanceMethod ⟨"ModuleBytes$Source", "referenceType", "()I"⟩ : Cond) ∈ wAll := wa_2 137 rfl rfl
theorem iw2_138 : (.selects "ModuleBytes$Source" ⟨"ModuleBytes$Source", "referenceType", "()I"⟩ ⟨"ModuleBytes$Source", "referenceType", "()I"⟩ : Cond) ∈ wAll := wa_2 138 rfl rfl
theorem iw2_139 : (.code ⟨"ModuleBytes$Source", "referenceType", "()I"⟩ prog_5_method_12_code 2 (Option.some Jvm.ClassFile.FieldType.int) : Cond) ∈ wAll := wa_2 139 rfl rfl
theorem iw2_140 : (.methodLink "ModuleBytes$Source" 55 ⟨"ModuleBytes$Source", "isReferenceType", "(I)Z"⟩ : Cond) ∈ wAll := wa_2 140 rfl rfl
theorem iw2_141 : (.static ⟨"ModuleBytes$Source", "isReferenceType", "(I)Z"⟩ : Cond) ∈ wAll := wa_2 141 rfl rfl
theorem iw2_142 : (.code ⟨"ModuleBytes$Source", "isReferenceType", "(I)Z"⟩ prog_5_method_16_code 1 (Option.some Jvm.ClassFile.FieldType.boolean) : Cond) ∈ wAll := wa_2 142 rfl rfl
theorem iw2_143 : (.methodLink "ModuleBytes$ModuleReader" 183 ⟨"ModuleBytes$ModuleReader", "readLimits", "(LModuleBytes$Table;)V"⟩ : Cond) ∈ wAll := wa_2 143 rfl rfl
theorem iw2_145 : (.instanceMethod ⟨"ModuleBytes$ModuleReader", "readLimits", "(LModuleBytes$Table;)V"⟩ : Cond) ∈ wAll := wa_2 145 rfl rfl
theorem iw2_146 : (.code ⟨"ModuleBytes$ModuleReader", "readLimits", "(LModuleBytes$Table;)V"⟩ prog_4_method_13_code 3 (Option.none : Option Jvm.ClassFile.FieldType) : Cond) ∈ wAll := wa_2 146 rfl rfl
theorem iw2_147 : (.methodLink "ModuleBytes$ModuleReader" 149 ⟨"ModuleBytes$ModuleReader", "readMemory", "(LModuleBytes$Table;)V"⟩ : Cond) ∈ wAll := wa_2 147 rfl rfl
theorem iw2_149 : (.instanceMethod ⟨"ModuleBytes$ModuleReader", "readMemory", "(LModuleBytes$Table;)V"⟩ : Cond) ∈ wAll := wa_2 149 rfl rfl
theorem iw2_150 : (.code ⟨"ModuleBytes$ModuleReader", "readMemory", "(LModuleBytes$Table;)V"⟩ prog_4_method_12_code 2 (Option.none : Option Jvm.ClassFile.FieldType) : Cond) ∈ wAll := wa_2 150 rfl rfl
theorem iw2_151 : (.methodLink "ModuleBytes$ModuleReader" 177 ⟨"ModuleBytes$ModuleReader", "readGlobal", "(LModuleBytes$Table;)V"⟩ : Cond) ∈ wAll := wa_2 151 rfl rfl
theorem iw2_153 : (.instanceMethod ⟨"ModuleBytes$ModuleReader", "readGlobal", "(LModuleBytes$Table;)V"⟩ : Cond) ∈ wAll := wa_2 153 rfl rfl
theorem iw2_154 : (.code ⟨"ModuleBytes$ModuleReader", "readGlobal", "(LModuleBytes$Table;)V"⟩ prog_4_method_14_code 2 (Option.none : Option Jvm.ClassFile.FieldType) : Cond) ∈ wAll := wa_2 154 rfl rfl
theorem iw2_155 : (.methodLink "ModuleBytes$ModuleReader" 142 ⟨"ModuleBytes$ModuleReader", "readFunction", "()V"⟩ : Cond) ∈ wAll := wa_2 155 rfl rfl
theorem iw2_157 : (.instanceMethod ⟨"ModuleBytes$ModuleReader", "readFunction", "()V"⟩ : Cond) ∈ wAll := wa_2 157 rfl rfl
theorem iw2_158 : (.code ⟨"ModuleBytes$ModuleReader", "readFunction", "()V"⟩ prog_4_method_10_code 1 (Option.none : Option Jvm.ClassFile.FieldType) : Cond) ∈ wAll := wa_2 158 rfl rfl
theorem iw2_159 : (.methodLink "ModuleBytes$ModuleReader" 152 ⟨"ModuleBytes$ModuleReader", "readOwnGlobal", "()V"⟩ : Cond) ∈ wAll := wa_2 159 rfl rfl
theorem iw2_161 : (.instanceMethod ⟨"ModuleBytes$ModuleReader", "readOwnGlobal", "()V"⟩ : Cond) ∈ wAll := wa_2 161 rfl rfl
theorem iw2_162 : (.code ⟨"ModuleBytes$ModuleReader", "readOwnGlobal", "()V"⟩ prog_4_method_15_code 2 (Option.none : Option Jvm.ClassFile.FieldType) : Cond) ∈ wAll := wa_2 162 rfl rfl
theorem iw2_163 : (.methodLink "ModuleBytes$ModuleReader" 186 ⟨"ModuleBytes$ExpressionReader", "readExpression", "()V"⟩ : Cond) ∈ wAll := wa_2 163 rfl rfl
theorem iw2_164 : (.instanceMethod ⟨"ModuleBytes$ExpressionReader", "readExpression", "()V"⟩ : Cond) ∈ wAll := wa_2 164 rfl rfl
theorem iw2_165 : (.selects "ModuleBytes$ExpressionReader" ⟨"ModuleBytes$ExpressionReader", "readExpression", "()V"⟩ ⟨"ModuleBytes$ExpressionReader", "readExpression", "()V"⟩ : Cond) ∈ wAll := wa_2 165 rfl rfl
theorem iw2_166 : (.code ⟨"ModuleBytes$ExpressionReader", "readExpression", "()V"⟩ prog_3_method_2_code 5 (Option.none : Option Jvm.ClassFile.FieldType) : Cond) ∈ wAll := wa_2 166 rfl rfl
theorem iw2_167 : (.methodLink "ModuleBytes$ExpressionReader" 32 ⟨"ModuleBytes$Source", "next", "()I"⟩ : Cond) ∈ wAll := wa_2 167 rfl rfl
theorem iw2_168 : (.methodLink "ModuleBytes$ExpressionReader" 36 ⟨"ModuleBytes$Source", "blockType", "()V"⟩ : Cond) ∈ wAll := wa_2 168 rfl rfl
theorem iw2_169 : (.instanceMethod ⟨"ModuleBytes$Source", "blockType", "()V"⟩ : Cond) ∈ wAll := wa_2 169 rfl rfl
theorem iw2_170 : (.selects "ModuleBytes$Source" ⟨"ModuleBytes$Source", "blockType", "()V"⟩ ⟨"ModuleBytes$Source", "blockType", "()V"⟩ : Cond) ∈ wAll := wa_2 170 rfl rfl
theorem iw2_171 : (.code ⟨"ModuleBytes$Source", "blockType", "()V"⟩ prog_5_method_15_code 5 (Option.none : Option Jvm.ClassFile.FieldType) : Cond) ∈ wAll := wa_2 171 rfl rfl
theorem iw2_172 : (.methodLink "ModuleBytes$Source" 62 ⟨"ModuleBytes$Source", "signedBelowZero", "(I)Z"⟩ : Cond) ∈ wAll := wa_2 172 rfl rfl
theorem iw2_173 : (.instanceMethod ⟨"ModuleBytes$Source", "signedBelowZero", "(I)Z"⟩ : Cond) ∈ wAll := wa_2 173 rfl rfl
theorem iw2_174 : (.selects "ModuleBytes$Source" ⟨"ModuleBytes$Source", "signedBelowZero", "(I)Z"⟩ ⟨"ModuleBytes$Source", "signedBelowZero", "(I)Z"⟩ : Cond) ∈ wAll := wa_2 174 rfl rfl
theorem iw2_175 : (.code ⟨"ModuleBytes$Source", "signedBelowZero", "(I)Z"⟩ prog_5_method_9_code 5 (Option.some Jvm.ClassFile.FieldType.boolean) : Cond) ∈ wAll := wa_2 175 rfl rfl
theorem iw2_176 : (.methodLink "ModuleBytes$ExpressionReader" 39 ⟨"ModuleBytes$ExpressionReader", "openBlock", "(Z)V"⟩ : Cond) ∈ wAll := wa_2 176 rfl rfl
theorem iw2_178 : (.instanceMethod ⟨"ModuleBytes$ExpressionReader", "openBlock", "(Z)V"⟩ : Cond) ∈ wAll := wa_2 178 rfl rfl
theorem iw2_179 : (.code ⟨"ModuleBytes$ExpressionReader", "openBlock", "(Z)V"⟩ prog_3_method_3_code 2 (Option.none : Option Jvm.ClassFile.FieldType) : Cond) ∈ wAll := wa_2 179 rfl rfl
theorem iw2_180 : (.methodLink "ModuleBytes$ExpressionReader" 43 ⟨"ModuleBytes$ExpressionReader", "turnToElse", "(I)V"⟩ : Cond) ∈ wAll := wa_2 180 rfl rfl
theorem iw2_182 : (.instanceMethod ⟨"ModuleBytes$ExpressionReader", "turnToElse", "(I)V"⟩ : Cond) ∈ wAll := wa_2 182 rfl rfl
theorem iw2_183 : (.code ⟨"ModuleBytes$ExpressionReader", "turnToElse", "(I)V"⟩ prog_3_method_4_code 3 (Option.none : Option Jvm.ClassFile.FieldType) : Cond) ∈ wAll := wa_2 183 rfl rfl
theorem iw2_184 : (.methodLink "ModuleBytes$ExpressionReader" 58 ⟨"ModuleBytes$Source", "fail", "(II)V"⟩ : Cond) ∈ wAll := wa_2 184 rfl rfl
theorem iw2_185 : (.methodLink "ModuleBytes$ExpressionReader" 47 ⟨"ModuleBytes$ExpressionReader", "shapeBehind252", "(I)I"⟩ : Cond) ∈ wAll := wa_2 185 rfl rfl
theorem iw2_187 : (.instanceMethod ⟨"ModuleBytes$ExpressionReader", "shapeBehind252", "(I)I"⟩ : Cond) ∈ wAll := wa_2 187 rfl rfl
theorem iw2_188 : (.code ⟨"ModuleBytes$ExpressionReader", "shapeBehind252", "(I)I"⟩ prog_3_method_6_code 4 (Option.some Jvm.ClassFile.FieldType.int) : Cond) ∈ wAll := wa_2 188 rfl rfl
theorem iw2_189 : (.methodLink "ModuleBytes$ExpressionReader" 61 ⟨"ModuleBytes$Source", "u32", "()J"⟩ : Cond) ∈ wAll := wa_2 189 rfl rfl
theorem iw2_190 : (.constantLong "ModuleBytes$ExpressionReader" 65 8 : Cond) ∈ wAll := wa_2 190 rfl rfl
theorem iw2_191 : (.constantLong "ModuleBytes$ExpressionReader" 67 9 : Cond) ∈ wAll := wa_2 191 rfl rfl
theorem iw2_192 : (.constantLong "ModuleBytes$ExpressionReader" 69 7 : Cond) ∈ wAll := wa_2 192 rfl rfl
theorem iw2_193 : (.constantLong "ModuleBytes$ExpressionReader" 71 17 : Cond) ∈ wAll := wa_2 193 rfl rfl
theorem iw2_194 : (.methodLink "ModuleBytes$ExpressionReader" 51 ⟨"ModuleBytes$ExpressionReader", "readOperands", "(II)V"⟩ : Cond) ∈ wAll := wa_2 194 rfl rfl
theorem iw2_196 : (.instanceMethod ⟨"ModuleBytes$ExpressionReader", "readOperands", "(II)V"⟩ : Cond) ∈ wAll := wa_2 196 rfl rfl
theorem iw2_197 : (.code ⟨"ModuleBytes$ExpressionReader", "readOperands", "(II)V"⟩ prog_3_method_7_code 5 (Option.none : Option Jvm.ClassFile.FieldType) : Cond) ∈ wAll := wa_2 197 rfl rfl
theorem iw2_198 : (.methodLink "ModuleBytes$ExpressionReader" 73 ⟨"ModuleBytes$Source", "valueType", "()I"⟩ : Cond) ∈ wAll := wa_2 198 rfl rfl
theorem iw2_199 : (.methodLink "ModuleBytes$ExpressionReader" 76 ⟨"ModuleBytes$Source", "choice", "(I)I"⟩ : Cond) ∈ wAll := wa_2 199 rfl rfl
theorem iw2_200 : (.methodLink "ModuleBytes$ExpressionReader" 79 ⟨"ModuleBytes$Source", "signedBelowZero", "(I)Z"⟩ : Cond) ∈ wAll := wa_2 200 rfl rfl
theorem iw2_201 : (.constantLong "ModuleBytes$ExpressionReader" 83 4 : Cond) ∈ wAll := wa_2 201 rfl rfl
theorem iw2_202 : (.methodLink "ModuleBytes$ExpressionReader" 85 ⟨"ModuleBytes$Source", "skip", "(J)V"⟩ : Cond) ∈ wAll := wa_2 202 rfl rfl
theorem iw2_203 : (.methodLink "ModuleBytes$ExpressionReader" 89 ⟨"ModuleBytes$Source", "referenceType", "()I"⟩ : Cond) ∈ wAll := wa_2 203 rfl rfl
theorem iw2_204 : (.methodLink "ModuleBytes$ExpressionReader" 55 ⟨"ModuleBytes$ExpressionReader", "shapeOf", "(I)I"⟩ : Cond) ∈ wAll := wa_2 204 rfl rfl
theorem iw2_205 : (.static ⟨"ModuleBytes$ExpressionReader", "shapeOf", "(I)I"⟩ : Cond) ∈ wAll := wa_2 205 rfl rfl
theorem iw2_206 : (.code ⟨"ModuleBytes$ExpressionReader", "shapeOf", "(I)I"⟩ prog_3_method_5_code 1 (Option.some Jvm.ClassFile.FieldType.int) : Cond) ∈ wAll := wa_2 206 rfl rfl
theorem iw2_207 : (.methodLink "ModuleBytes$ModuleReader" 155 ⟨"ModuleBytes$ModuleReader", "readExport", "()V"⟩ : Cond) ∈ wAll := wa_2 207 rfl rfl
theorem iw2_209 : (.instanceMethod ⟨"ModuleBytes$ModuleReader", "readExport", "()V"⟩ : Cond) ∈ wAll := wa_2 209 rfl rfl
theorem iw2_210 : (.code ⟨"ModuleBytes$ModuleReader", "readExport", "()V"⟩ prog_4_method_16_code 2 (Option.none : Option Jvm.ClassFile.FieldType) : Cond) ∈ wAll := wa_2 210 rfl rfl
theorem iw2_211 : (.methodLink "ModuleBytes$ModuleReader" 158 ⟨"ModuleBytes$ModuleReader", "readElement", "()V"⟩ : Cond) ∈ wAll := wa_2 211 rfl rfl
theorem iw2_213 : (.instanceMethod ⟨"ModuleBytes$ModuleReader", "readElement", "()V"⟩ : Cond) ∈ wAll := wa_2 213 rfl rfl
theorem iw2_214 : (.code ⟨"ModuleBytes$ModuleReader", "readElement", "()V"⟩ prog_4_method_17_code 10 (Option.none : Option Jvm.ClassFile.FieldType) : Cond) ∈ wAll := wa_2 214 rfl rfl
theorem iw2_215 : (.methodLink "ModuleBytes$ModuleReader" 189 ⟨"ModuleBytes$Source", "numberedChoice", "(I)I"⟩ : Cond) ∈ wAll := wa_2 215 rfl rfl
theorem iw2_216 : (.instanceMethod ⟨"ModuleBytes$Source", "numberedChoice", "(I)I"⟩ : Cond) ∈ wAll := wa_2 216 rfl rfl
theorem iw2_217 : (.selects "ModuleBytes$Source" ⟨"ModuleBytes$Source", "numberedChoice", "(I)I"⟩ ⟨"ModuleBytes$Source", "numberedChoice", "(I)I"⟩ : Cond) ∈ wAll := wa_2 217 rfl rfl
theorem iw2_218 : (.code ⟨"ModuleBytes$Source", "numberedChoice", "(I)I"⟩ prog_5_method_11_code 5 (Option.some Jvm.ClassFile.FieldType.int) : Cond) ∈ wAll := wa_2 218 rfl rfl
theorem iw2_219 : (.constantLong "ModuleBytes$ModuleReader" 192 2 : Cond) ∈ wAll := wa_2 219 rfl rfl
theorem iw2_220 : (.methodLink "ModuleBytes$ModuleReader" 194 ⟨"ModuleBytes$ModuleReader", "readElementType", "(I)I"⟩ : Cond) ∈ wAll := wa_2 220 rfl rfl
theorem iw2_222 : (.instanceMethod ⟨"ModuleBytes$ModuleReader", "readElementType", "(I)I"⟩ : Cond) ∈ wAll := wa_2 222 rfl rfl
theorem iw2_223 : (.code ⟨"ModuleBytes$ModuleReader", "readElementType", "(I)I"⟩ prog_4_method_18_code 2 (Option.some Jvm.ClassFile.FieldType.int) : Cond) ∈ wAll := wa_2 223 rfl rfl
theorem iw2_224 : (.methodLink "ModuleBytes$ModuleReader" 201 ⟨"ModuleBytes$Contents", "addToList", "(J)V"⟩ : Cond) ∈ wAll := wa_2 224 rfl rfl
theorem iw2_225 : (.instanceMethod ⟨"ModuleBytes$Contents", "addToList", "(J)V"⟩ : Cond) ∈ wAll := wa_2 225 rfl rfl
theorem iw2_226 : (.selects "ModuleBytes$Contents" ⟨"ModuleBytes$Contents", "addToList", "(J)V"⟩ ⟨"ModuleBytes$Contents", "addToList", "(J)V"⟩ : Cond) ∈ wAll := wa_2 226 rfl rfl
theorem iw2_227 : (.code ⟨"ModuleBytes$Contents", "addToList", "(J)V"⟩ prog_2_method_4_code 3 (Option.none : Option Jvm.ClassFile.FieldType) : Cond) ∈ wAll := wa_2 227 rfl rfl
theorem iw2_228 : (.methodLink "ModuleBytes$Contents" 51 ⟨"ModuleBytes$Table", "begin", "()V"⟩ : Cond) ∈ wAll := wa_2 228 rfl rfl
theorem iw2_229 : (.methodLink "ModuleBytes$Contents" 54 ⟨"ModuleBytes$Table", "put", "(IJ)V"⟩ : Cond) ∈ wAll := wa_2 229 rfl rfl
theorem iw2_230 : (.methodLink "ModuleBytes$ModuleReader" 161 ⟨"ModuleBytes$ModuleReader", "readBody", "()V"⟩ : Cond) ∈ wAll := wa_2 230 rfl rfl
theorem iw2_232 : (.instanceMethod ⟨"ModuleBytes$ModuleReader", "readBody", "()V"⟩ : Cond) ∈ wAll := wa_2 232 rfl rfl
theorem iw2_233 : (.code ⟨"ModuleBytes$ModuleReader", "readBody", "()V"⟩ prog_4_method_19_code 3 (Option.none : Option Jvm.ClassFile.FieldType) : Cond) ∈ wAll := wa_2 233 rfl rfl
theorem iw2_234 : (.methodLink "ModuleBytes$ModuleReader" 205 ⟨"ModuleBytes$ModuleReader", "readLocals", "(LModuleBytes$Table;)V"⟩ : Cond) ∈ wAll := wa_2 234 rfl rfl
theorem iw2_236 : (.instanceMethod ⟨"ModuleBytes$ModuleReader", "readLocals", "(LModuleBytes$Table;)V"⟩ : Cond) ∈ wAll := wa_2 236 rfl rfl
theorem iw2_237 : (.code ⟨"ModuleBytes$ModuleReader", "readLocals", "(LModuleBytes$Table;)V"⟩ prog_4_method_20_code 11 (Option.none : Option Jvm.ClassFile.FieldType) : Cond) ∈ wAll := wa_2 237 rfl rfl
theorem iw2_238 : (.constantLong "ModuleBytes$ModuleReader" 208 4294967295 : Cond) ∈ wAll := wa_2 238 rfl rfl
theorem iw2_239 : (.methodLink "ModuleBytes$ModuleReader" 88 ⟨"ModuleBytes$Source", "leave", "(I)V"⟩ : Cond) ∈ wAll := wa_2 239 rfl rfl
theorem iw3_0 : (.instanceMethod ⟨"ModuleBytes$Source", "leave", "(I)V"⟩ : Cond) ∈ wAll := wa_3 0 rfl rfl
theorem iw3_1 : (.selects "ModuleBytes$Source" ⟨"ModuleBytes$Source", "leave", "(I)V"⟩ ⟨"ModuleBytes$Source", "leave", "(I)V"⟩ : Cond) ∈ wAll := wa_3 1 rfl rfl
theorem iw3_2 : (.code ⟨"ModuleBytes$Source", "leave", "(I)V"⟩ prog_5_method_7_code 2 (Option.none : Option Jvm.ClassFile.FieldType) : Cond) ∈ wAll := wa_3 2 rfl rfl
theorem iw3_3 : (.methodLink "ModuleBytes$ModuleReader" 164 ⟨"ModuleBytes$ModuleReader", "readData", "()V"⟩ : Cond) ∈ wAll := wa_3 3 rfl rfl
theorem iw3_5 : (.instanceMethod ⟨"ModuleBytes$ModuleReader", "readData", "()V"⟩ : Cond) ∈ wAll := wa_3 5 rfl rfl
theorem iw3_6 : (.code ⟨"ModuleBytes$ModuleReader", "readData", "()V"⟩ prog_4_method_21_code 5 (Option.none : Option Jvm.ClassFile.FieldType) : Cond) ∈ wAll := wa_3 6 rfl rfl
theorem iw3_7 : (.methodLink "ModuleBytes$ModuleReader" 210 ⟨"ModuleBytes$Source", "skip", "(J)V"⟩ : Cond) ∈ wAll := wa_3 7 rfl rfl
theorem iw3_8 : (.methodLink "ModuleBytes$ModuleReader" 94 ⟨"ModuleBytes$ModuleReader", "compareCounts", "()V"⟩ : Cond) ∈ wAll := wa_3 8 rfl rfl
theorem iw3_10 : (.instanceMethod ⟨"ModuleBytes$ModuleReader", "compareCounts", "()V"⟩ : Cond) ∈ wAll := wa_3 10 rfl rfl
theorem iw3_11 : (.code ⟨"ModuleBytes$ModuleReader", "compareCounts", "()V"⟩ prog_4_method_5_code 1 (Option.none : Option Jvm.ClassFile.FieldType) : Cond) ∈ wAll := wa_3 11 rfl rfl
theorem iw3_12 : (.constantLong "ModuleBytes$ModuleReader" 120 (-1) : Cond) ∈ wAll := wa_3 12 rfl rfl
theorem iw3_13 : (.methodLink "ModuleBytesLaw" 23 ⟨"ModuleBytes", "place", "()I"⟩ : Cond) ∈ wAll := wa_3 13 rfl rfl
theorem iw3_14 : (.instanceMethod ⟨"ModuleBytes", "place", "()I"⟩ : Cond) ∈ wAll := wa_3 14 rfl rfl
theorem iw3_15 : (.selects "ModuleBytes" ⟨"ModuleBytes", "place", "()I"⟩ ⟨"ModuleBytes", "place", "()I"⟩ : Cond) ∈ wAll := wa_3 15 rfl rfl
theorem iw3_16 : (.code ⟨"ModuleBytes", "place", "()I"⟩ prog_1_method_4_code 1 (Option.some Jvm.ClassFile.FieldType.int) : Cond) ∈ wAll := wa_3 16 rfl rfl
theorem iw3_17 : (.methodLink "ModuleBytesLaw" 28 ⟨"ModuleBytes", "many", "(I)J"⟩ : Cond) ∈ wAll := wa_3 17 rfl rfl
theorem iw3_18 : (.instanceMethod ⟨"ModuleBytes", "many", "(I)J"⟩ : Cond) ∈ wAll := wa_3 18 rfl rfl
theorem iw3_19 : (.selects "ModuleBytes" ⟨"ModuleBytes", "many", "(I)J"⟩ ⟨"ModuleBytes", "many", "(I)J"⟩ : Cond) ∈ wAll := wa_3 19 rfl rfl
theorem iw3_20 : (.code ⟨"ModuleBytes", "many", "(I)J"⟩ prog_1_method_5_code 2 (Option.some Jvm.ClassFile.FieldType.long) : Cond) ∈ wAll := wa_3 20 rfl rfl
theorem iw3_21 : (.constantLong "ModuleBytes" 76 (-1) : Cond) ∈ wAll := wa_3 21 rfl rfl
theorem iw3_22 : (.methodLink "ModuleBytesLaw" 33 ⟨"ModuleBytes", "type", "(III)I"⟩ : Cond) ∈ wAll := wa_3 22 rfl rfl
theorem iw3_23 : (.instanceMethod ⟨"ModuleBytes", "type", "(III)I"⟩ : Cond) ∈ wAll := wa_3 23 rfl rfl
theorem iw3_24 : (.selects "ModuleBytes" ⟨"ModuleBytes", "type", "(III)I"⟩ ⟨"ModuleBytes", "type", "(III)I"⟩ : Cond) ∈ wAll := wa_3 24 rfl rfl
theorem iw3_25 : (.code ⟨"ModuleBytes", "type", "(III)I"⟩ prog_1_method_6_code 4 (Option.some Jvm.ClassFile.FieldType.int) : Cond) ∈ wAll := wa_3 25 rfl rfl
theorem iw3_26 : (.methodLink "ModuleBytes" 78 ⟨"ModuleBytes$Contents", "byteOfStretch", "(IIII)I"⟩ : Cond) ∈ wAll := wa_3 26 rfl rfl
theorem iw3_27 : (.instanceMethod ⟨"ModuleBytes$Contents", "byteOfStretch", "(IIII)I"⟩ : Cond) ∈ wAll := wa_3 27 rfl rfl
theorem iw3_28 : (.selects "ModuleBytes$Contents" ⟨"ModuleBytes$Contents", "byteOfStretch", "(IIII)I"⟩ ⟨"ModuleBytes$Contents", "byteOfStretch", "(IIII)I"⟩ : Cond) ∈ wAll := wa_3 28 rfl rfl
theorem iw3_29 : (.code ⟨"ModuleBytes$Contents", "byteOfStretch", "(IIII)I"⟩ prog_2_method_6_code 9 (Option.some Jvm.ClassFile.FieldType.int) : Cond) ∈ wAll := wa_3 29 rfl rfl
theorem iw3_30 : (.methodLink "ModuleBytes$Contents" 58 ⟨"ModuleBytes$Table", "at", "(II)J"⟩ : Cond) ∈ wAll := wa_3 30 rfl rfl
theorem iw3_31 : (.instanceMethod ⟨"ModuleBytes$Table", "at", "(II)J"⟩ : Cond) ∈ wAll := wa_3 31 rfl rfl
theorem iw3_32 : (.selects "ModuleBytes$Table" ⟨"ModuleBytes$Table", "at", "(II)J"⟩ ⟨"ModuleBytes$Table", "at", "(II)J"⟩ : Cond) ∈ wAll := wa_3 32 rfl rfl
theorem iw3_33 : (.code ⟨"ModuleBytes$Table", "at", "(II)J"⟩ prog_6_method_5_code 3 (Option.some Jvm.ClassFile.FieldType.long) : Cond) ∈ wAll := wa_3 33 rfl rfl
theorem iw3_34 : (.methodLink "ModuleBytesLaw" 38 ⟨"ModuleBytes", "look", "(III)J"⟩ : Cond) ∈ wAll := wa_3 34 rfl rfl
theorem iw3_35 : (.instanceMethod ⟨"ModuleBytes", "look", "(III)J"⟩ : Cond) ∈ wAll := wa_3 35 rfl rfl
theorem iw3_36 : (.selects "ModuleBytes" ⟨"ModuleBytes", "look", "(III)J"⟩ ⟨"ModuleBytes", "look", "(III)J"⟩ : Cond) ∈ wAll := wa_3 36 rfl rfl
theorem iw3_37 : (.code ⟨"ModuleBytes", "look", "(III)J"⟩ prog_1_method_7_code 4 (Option.some Jvm.ClassFile.FieldType.long) : Cond) ∈ wAll := wa_3 37 rfl rfl
theorem iw3_38 : (.methodLink "ModuleBytes" 82 ⟨"ModuleBytes$Contents", "listed", "(III)J"⟩ : Cond) ∈ wAll := wa_3 38 rfl rfl
theorem iw3_39 : (.instanceMethod ⟨"ModuleBytes$Contents", "listed", "(III)J"⟩ : Cond) ∈ wAll := wa_3 39 rfl rfl
theorem iw3_40 : (.selects "ModuleBytes$Contents" ⟨"ModuleBytes$Contents", "listed", "(III)J"⟩ ⟨"ModuleBytes$Contents", "listed", "(III)J"⟩ : Cond) ∈ wAll := wa_3 40 rfl rfl
theorem iw3_41 : (.code ⟨"ModuleBytes$Contents", "listed", "(III)J"⟩ prog_2_method_5_code 8 (Option.some Jvm.ClassFile.FieldType.long) : Cond) ∈ wAll := wa_3 41 rfl rfl
theorem iw3_42 : (.fieldLink "ModuleBytes" 86 "ModuleBytes" "SEEN_COLUMNS" "[I" : Cond) ∈ wAll := wa_3 42 rfl rfl
theorem iw3_43 : (.methodLink "ModuleBytes" 90 ⟨"ModuleBytes$Table", "at", "(II)J"⟩ : Cond) ∈ wAll := wa_3 43 rfl rfl
theorem iw3_44 : (.methodLink "ModuleBytesLaw" 43 ⟨"ModuleBytes", "name", "(IIII)I"⟩ : Cond) ∈ wAll := wa_3 44 rfl rfl
theorem iw3_45 : (.instanceMethod ⟨"ModuleBytes", "name", "(IIII)I"⟩ : Cond) ∈ wAll := wa_3 45 rfl rfl
theorem iw3_46 : (.selects "ModuleBytes" ⟨"ModuleBytes", "name", "(IIII)I"⟩ ⟨"ModuleBytes", "name", "(IIII)I"⟩ : Cond) ∈ wAll := wa_3 46 rfl rfl
theorem iw3_47 : (.code ⟨"ModuleBytes", "name", "(IIII)I"⟩ prog_1_method_8_code 6 (Option.some Jvm.ClassFile.FieldType.int) : Cond) ∈ wAll := wa_3 47 rfl rfl
theorem iw3_48 : (.classLink "ModuleBytesLaw" 10 "ModuleBytesModel" : Cond) ∈ wAll := wa_3 48 rfl rfl
theorem iw3_49 : (.instantiable "ModuleBytesModel" 44 : Cond) ∈ wAll := wa_3 49 rfl rfl
theorem iw3_50 : (.methodLink "ModuleBytesLaw" 12 ⟨"ModuleBytesModel", "<init>", "()V"⟩ : Cond) ∈ wAll := wa_3 50 rfl rfl
theorem iw3_51 : (.instanceMethod ⟨"ModuleBytesModel", "<init>", "()V"⟩ : Cond) ∈ wAll := wa_3 51 rfl rfl
theorem iw3_52 : (.code ⟨"ModuleBytesModel", "<init>", "()V"⟩ prog_8_method_1_code 1 (Option.none : Option Jvm.ClassFile.FieldType) : Cond) ∈ wAll := wa_3 52 rfl rfl
theorem iw3_53 : (.methodLink "ModuleBytesModel" 1 ⟨"java/lang/Object", "<init>", "()V"⟩ : Cond) ∈ wAll := wa_3 53 rfl rfl
theorem iw3_54 : (.fieldLink "ModuleBytesModel" 7 "ModuleBytesModel" "fed" "[I" : Cond) ∈ wAll := wa_3 54 rfl rfl
theorem iw3_55 : (.fieldLink "ModuleBytesModel" 75 "ModuleBytesModel" "many" "I" : Cond) ∈ wAll := wa_3 55 rfl rfl
theorem iw3_56 : (.fieldLink "ModuleBytesModel" 88 "ModuleBytesModel" "at" "I" : Cond) ∈ wAll := wa_3 56 rfl rfl
theorem iw3_57 : (.fieldLink "ModuleBytesModel" 82 "ModuleBytesModel" "fault" "I" : Cond) ∈ wAll := wa_3 57 rfl rfl
theorem iw3_58 : (.fieldLink "ModuleBytesModel" 85 "ModuleBytesModel" "faultPlace" "I" : Cond) ∈ wAll := wa_3 58 rfl rfl
theorem iw3_59 : (.fieldLink "ModuleBytesModel" 13 "ModuleBytesModel" "latest" "I" : Cond) ∈ wAll := wa_3 59 rfl rfl
theorem iw3_60 : (.fieldLink "ModuleBytesModel" 125 "ModuleBytesModel" "expected" "I" : Cond) ∈ wAll := wa_3 60 rfl rfl
theorem iw3_61 : (.fieldLink "ModuleBytesModel" 17 "ModuleBytesModel" "expect" "[I" : Cond) ∈ wAll := wa_3 61 rfl rfl
theorem iw3_62 : (.fieldLink "ModuleBytesModel" 20 "ModuleBytesModel" "times" "[J" : Cond) ∈ wAll := wa_3 62 rfl rfl
theorem iw3_63 : (.fieldLink "ModuleBytesModel" 91 "ModuleBytesModel" "parts" "I" : Cond) ∈ wAll := wa_3 63 rfl rfl
theorem iw3_64 : (.fieldLink "ModuleBytesModel" 24 "ModuleBytesModel" "partEnd" "[I" : Cond) ∈ wAll := wa_3 64 rfl rfl
theorem iw3_65 : (.fieldLink "ModuleBytesModel" 27 "ModuleBytesModel" "block" "[I" : Cond) ∈ wAll := wa_3 65 rfl rfl
theorem iw3_66 : (.fieldLink "ModuleBytesModel" 177 "ModuleBytesModel" "blocks" "I" : Cond) ∈ wAll := wa_3 66 rfl rfl
theorem iw3_67 : (.fieldLink "ModuleBytesModel" 138 "ModuleBytesModel" "last" "I" : Cond) ∈ wAll := wa_3 67 rfl rfl
theorem iw3_68 : (.fieldLink "ModuleBytesModel" 186 "ModuleBytesModel" "counted" "Z" : Cond) ∈ wAll := wa_3 68 rfl rfl
theorem iw3_69 : (.fieldLink "ModuleBytesModel" 167 "ModuleBytesModel" "locals" "J" : Cond) ∈ wAll := wa_3 69 rfl rfl
theorem iw3_70 : (.fieldLink "ModuleBytesModel" 171 "ModuleBytesModel" "localsAt" "I" : Cond) ∈ wAll := wa_3 70 rfl rfl
theorem iw3_71 : (.fieldLink "ModuleBytesModel" 131 "ModuleBytesModel" "things" "I" : Cond) ∈ wAll := wa_3 71 rfl rfl
theorem iw3_72 : (.fieldLink "ModuleBytesModel" 30 "ModuleBytesModel" "kind" "[I" : Cond) ∈ wAll := wa_3 72 rfl rfl
theorem iw3_73 : (.fieldLink "ModuleBytesModel" 33 "ModuleBytesModel" "from" "[I" : Cond) ∈ wAll := wa_3 73 rfl rfl
theorem iw3_74 : (.fieldLink "ModuleBytesModel" 36 "ModuleBytesModel" "to" "[I" : Cond) ∈ wAll := wa_3 74 rfl rfl
theorem iw3_75 : (.fieldLink "ModuleBytesModel" 39 "ModuleBytesModel" "rest" "[I" : Cond) ∈ wAll := wa_3 75 rfl rfl
theorem iw3_76 : (.fieldLink "ModuleBytesModel" 174 "ModuleBytesModel" "expressions" "I" : Cond) ∈ wAll := wa_3 76 rfl rfl
theorem iw3_77 : (.fieldLink "ModuleBytesModel" 42 "ModuleBytesModel" "owner" "[I" : Cond) ∈ wAll := wa_3 77 rfl rfl
theorem iw3_78 : (.fieldLink "ModuleBytesModel" 45 "ModuleBytesModel" "first" "[I" : Cond) ∈ wAll := wa_3 78 rfl rfl
theorem iw3_79 : (.fieldLink "ModuleBytesModel" 48 "ModuleBytesModel" "behind" "[I" : Cond) ∈ wAll := wa_3 79 rfl rfl
theorem iw3_80 : (.fieldLink "ModuleBytesModel" 141 "ModuleBytesModel" "sections" "I" : Cond) ∈ wAll := wa_3 80 rfl rfl
theorem iw3_81 : (.fieldLink "ModuleBytesModel" 245 "ModuleBytesModel" "start" "J" : Cond) ∈ wAll := wa_3 81 rfl rfl
theorem iw3_82 : (.fieldLink "ModuleBytesModel" 248 "ModuleBytesModel" "dataCount" "J" : Cond) ∈ wAll := wa_3 82 rfl rfl
theorem iw3_83 : (.fieldLink "ModuleBytesModel" 265 "ModuleBytesModel" "is" "Z" : Cond) ∈ wAll := wa_3 83 rfl rfl
theorem iw3_84 : (.fieldLink "ModuleBytesModel" 51 "ModuleBytesModel" "bytes" "[I" : Cond) ∈ wAll := wa_3 84 rfl rfl
theorem iw3_85 : (.fieldLink "ModuleBytesModel" 272 "ModuleBytesModel" "theThings" "I" : Cond) ∈ wAll := wa_3 85 rfl rfl
theorem iw3_86 : (.fieldLink "ModuleBytesModel" 275 "ModuleBytesModel" "theExpressions" "I" : Cond) ∈ wAll := wa_3 86 rfl rfl
theorem iw3_87 : (.fieldLink "ModuleBytesModel" 278 "ModuleBytesModel" "theSections" "I" : Cond) ∈ wAll := wa_3 87 rfl rfl
theorem iw3_88 : (.fieldLink "ModuleBytesModel" 54 "ModuleBytesModel" "theKind" "[I" : Cond) ∈ wAll := wa_3 88 rfl rfl
theorem iw3_89 : (.fieldLink "ModuleBytesModel" 57 "ModuleBytesModel" "theFrom" "[I" : Cond) ∈ wAll := wa_3 89 rfl rfl
theorem iw3_90 : (.fieldLink "ModuleBytesModel" 60 "ModuleBytesModel" "theTo" "[I" : Cond) ∈ wAll := wa_3 90 rfl rfl
theorem iw3_91 : (.fieldLink "ModuleBytesModel" 63 "ModuleBytesModel" "theRest" "[I" : Cond) ∈ wAll := wa_3 91 rfl rfl
theorem iw3_92 : (.fieldLink "ModuleBytesModel" 66 "ModuleBytesModel" "theOwner" "[I" : Cond) ∈ wAll := wa_3 92 rfl rfl
theorem iw3_93 : (.fieldLink "ModuleBytesModel" 69 "ModuleBytesModel" "theFirst" "[I" : Cond) ∈ wAll := wa_3 93 rfl rfl
theorem iw3_94 : (.fieldLink "ModuleBytesModel" 72 "ModuleBytesModel" "theBehind" "[I" : Cond) ∈ wAll := wa_3 94 rfl rfl
theorem iw3_95 : (.fieldLink "ModuleBytesModel" 281 "ModuleBytesModel" "theStart" "J" : Cond) ∈ wAll := wa_3 95 rfl rfl
theorem iw3_96 : (.fieldLink "ModuleBytesModel" 284 "ModuleBytesModel" "theDataCount" "J" : Cond) ∈ wAll := wa_3 96 rfl rfl
theorem iw3_97 : (.fieldLink "ModuleBytesModel" 290 "ModuleBytesModel" "q" "I" : Cond) ∈ wAll := wa_3 97 rfl rfl
theorem iw3_98 : (.lays "ModuleBytesModel" "ModuleBytesModel" "fed" "[I" : Cond) ∈ wAll := wa_3 98 rfl rfl
theorem iw3_99 : (.soleField "ModuleBytesModel" "fed" : Cond) ∈ wAll := wa_3 99 rfl rfl
theorem iw3_100 : (.lays "ModuleBytesModel" "ModuleBytesModel" "many" "I" : Cond) ∈ wAll := wa_3 100 rfl rfl
theorem iw3_101 : (.soleField "ModuleBytesModel" "many" : Cond) ∈ wAll := wa_3 101 rfl rfl
theorem iw3_102 : (.lays "ModuleBytesModel" "ModuleBytesModel" "at" "I" : Cond) ∈ wAll := wa_3 102 rfl rfl
theorem iw3_103 : (.soleField "ModuleBytesModel" "at" : Cond) ∈ wAll := wa_3 103 rfl rfl
theorem iw3_104 : (.lays "ModuleBytesModel" "ModuleBytesModel" "fault" "I" : Cond) ∈ wAll := wa_3 104 rfl rfl
theorem iw3_105 : (.soleField "ModuleBytesModel" "fault" : Cond) ∈ wAll := wa_3 105 rfl rfl
theorem iw3_106 : (.lays "ModuleBytesModel" "ModuleBytesModel" "faultPlace" "I" : Cond) ∈ wAll := wa_3 106 rfl rfl
theorem iw3_107 : (.soleField "ModuleBytesModel" "faultPlace" : Cond) ∈ wAll := wa_3 107 rfl rfl
theorem iw3_108 : (.lays "ModuleBytesModel" "ModuleBytesModel" "latest" "I" : Cond) ∈ wAll := wa_3 108 rfl rfl
theorem iw3_109 : (.soleField "ModuleBytesModel" "latest" : Cond) ∈ wAll := wa_3 109 rfl rfl
theorem iw3_110 : (.lays "ModuleBytesModel" "ModuleBytesModel" "expected" "I" : Cond) ∈ wAll := wa_3 110 rfl rfl
theorem iw3_111 : (.soleField "ModuleBytesModel" "expected" : Cond) ∈ wAll := wa_3 111 rfl rfl
theorem iw3_112 : (.lays "ModuleBytesModel" "ModuleBytesModel" "expect" "[I" : Cond) ∈ wAll := wa_3 112 rfl rfl
theorem iw3_113 : (.soleField "ModuleBytesModel" "expect" : Cond) ∈ wAll := wa_3 113 rfl rfl
theorem iw3_114 : (.lays "ModuleBytesModel" "ModuleBytesModel" "times" "[J" : Cond) ∈ wAll := wa_3 114 rfl rfl
theorem iw3_115 : (.soleField "ModuleBytesModel" "times" : Cond) ∈ wAll := wa_3 115 rfl rfl
theorem iw3_116 : (.lays "ModuleBytesModel" "ModuleBytesModel" "parts" "I" : Cond) ∈ wAll := wa_3 116 rfl rfl
theorem iw3_117 : (.soleField "ModuleBytesModel" "parts" : Cond) ∈ wAll := wa_3 117 rfl rfl
theorem iw3_118 : (.lays "ModuleBytesModel" "ModuleBytesModel" "partEnd" "[I" : Cond) ∈ wAll := wa_3 118 rfl rfl
theorem iw3_119 : (.soleField "ModuleBytesModel" "partEnd" : Cond) ∈ wAll := wa_3 119 rfl rfl
theorem iw3_120 : (.lays "ModuleBytesModel" "ModuleBytesModel" "block" "[I" : Cond) ∈ wAll := wa_3 120 rfl rfl
theorem iw3_121 : (.soleField "ModuleBytesModel" "block" : Cond) ∈ wAll := wa_3 121 rfl rfl
theorem iw3_122 : (.lays "ModuleBytesModel" "ModuleBytesModel" "blocks" "I" : Cond) ∈ wAll := wa_3 122 rfl rfl
theorem iw3_123 : (.soleField "ModuleBytesModel" "blocks" : Cond) ∈ wAll := wa_3 123 rfl rfl
theorem iw3_124 : (.lays "ModuleBytesModel" "ModuleBytesModel" "last" "I" : Cond) ∈ wAll := wa_3 124 rfl rfl
theorem iw3_125 : (.soleField "ModuleBytesModel" "last" : Cond) ∈ wAll := wa_3 125 rfl rfl
theorem iw3_126 : (.lays "ModuleBytesModel" "ModuleBytesModel" "counted" "Z" : Cond) ∈ wAll := wa_3 126 rfl rfl
theorem iw3_127 : (.soleField "ModuleBytesModel" "counted" : Cond) ∈ wAll := wa_3 127 rfl rfl
theorem iw3_128 : (.lays "ModuleBytesModel" "ModuleBytesModel" "locals" "J" : Cond) ∈ wAll := wa_3 128 rfl rfl
theorem iw3_129 : (.soleField "ModuleBytesModel" "locals" : Cond) ∈ wAll := wa_3 129 rfl rfl
theorem iw3_130 : (.lays "ModuleBytesModel" "ModuleBytesModel" "localsAt" "I" : Cond) ∈ wAll := wa_3 130 rfl rfl
theorem iw3_131 : (.soleField "ModuleBytesModel" "localsAt" : Cond) ∈ wAll := wa_3 131 rfl rfl
theorem iw3_132 : (.lays "ModuleBytesModel" "ModuleBytesModel" "things" "I" : Cond) ∈ wAll := wa_3 132 rfl rfl
theorem iw3_133 : (.soleField "ModuleBytesModel" "things" : Cond) ∈ wAll := wa_3 133 rfl rfl
theorem iw3_134 : (.lays "ModuleBytesModel" "ModuleBytesModel" "kind" "[I" : Cond) ∈ wAll := wa_3 134 rfl rfl
theorem iw3_135 : (.soleField "ModuleBytesModel" "kind" : Cond) ∈ wAll := wa_3 135 rfl rfl
theorem iw3_136 : (.lays "ModuleBytesModel" "ModuleBytesModel" "from" "[I" : Cond) ∈ wAll := wa_3 136 rfl rfl
theorem iw3_137 : (.soleField "ModuleBytesModel" "from" : Cond) ∈ wAll := wa_3 137 rfl rfl
theorem iw3_138 : (.lays "ModuleBytesModel" "ModuleBytesModel" "to" "[I" : Cond) ∈ wAll := wa_3 138 rfl rfl
theorem iw3_139 : (.soleField "ModuleBytesModel" "to" : Cond) ∈ wAll := wa_3 139 rfl rfl
theorem iw3_140 : (.lays "ModuleBytesModel" "ModuleBytesModel" "rest" "[I" : Cond) ∈ wAll := wa_3 140 rfl rfl
theorem iw3_141 : (.soleField "ModuleBytesModel" "rest" : Cond) ∈ wAll := wa_3 141 rfl rfl
theorem iw3_142 : (.lays "ModuleBytesModel" "ModuleBytesModel" "expressions" "I" : Cond) ∈ wAll := wa_3 142 rfl rfl
theorem iw3_143 : (.soleField "ModuleBytesModel" "expressions" : Cond) ∈ wAll := wa_3 143 rfl rfl
theorem iw3_144 : (.lays "ModuleBytesModel" "ModuleBytesModel" "owner" "[I" : Cond) ∈ wAll := wa_3 144 rfl rfl
theorem iw3_145 : (.soleField "ModuleBytesModel" "owner" : Cond) ∈ wAll := wa_3 145 rfl rfl
theorem iw3_146 : (.lays "ModuleBytesModel" "ModuleBytesModel" "first" "[I" : Cond) ∈ wAll := wa_3 146 rfl rfl
theorem iw3_147 : (.soleField "ModuleBytesModel" "first" : Cond) ∈ wAll := wa_3 147 rfl rfl
theorem iw3_148 : (.lays "ModuleBytesModel" "ModuleBytesModel" "behind" "[I" : Cond) ∈ wAll := wa_3 148 rfl rfl
theorem iw3_149 : (.soleField "ModuleBytesModel" "behind" : Cond) ∈ wAll := wa_3 149 rfl rfl
theorem iw3_150 : (.lays "ModuleBytesModel" "ModuleBytesModel" "sections" "I" : Cond) ∈ wAll := wa_3 150 rfl rfl
theorem iw3_151 : (.soleField "ModuleBytesModel" "sections" : Cond) ∈ wAll := wa_3 151 rfl rfl
theorem iw3_152 : (.lays "ModuleBytesModel" "ModuleBytesModel" "start" "J" : Cond) ∈ wAll := wa_3 152 rfl rfl
theorem iw3_153 : (.soleField "ModuleBytesModel" "start" : Cond) ∈ wAll := wa_3 153 rfl rfl
theorem iw3_154 : (.lays "ModuleBytesModel" "ModuleBytesModel" "dataCount" "J" : Cond) ∈ wAll := wa_3 154 rfl rfl
theorem iw3_155 : (.soleField "ModuleBytesModel" "dataCount" : Cond) ∈ wAll := wa_3 155 rfl rfl
theorem iw3_156 : (.lays "ModuleBytesModel" "ModuleBytesModel" "is" "Z" : Cond) ∈ wAll := wa_3 156 rfl rfl
theorem iw3_157 : (.soleField "ModuleBytesModel" "is" : Cond) ∈ wAll := wa_3 157 rfl rfl
theorem iw3_158 : (.lays "ModuleBytesModel" "ModuleBytesModel" "bytes" "[I" : Cond) ∈ wAll := wa_3 158 rfl rfl
theorem iw3_159 : (.soleField "ModuleBytesModel" "bytes" : Cond) ∈ wAll := wa_3 159 rfl rfl
theorem iw3_160 : (.lays "ModuleBytesModel" "ModuleBytesModel" "theThings" "I" : Cond) ∈ wAll := wa_3 160 rfl rfl
theorem iw3_161 : (.soleField "ModuleBytesModel" "theThings" : Cond) ∈ wAll := wa_3 161 rfl rfl
theorem iw3_162 : (.lays "ModuleBytesModel" "ModuleBytesModel" "theExpressions" "I" : Cond) ∈ wAll := wa_3 162 rfl rfl
theorem iw3_163 : (.soleField "ModuleBytesModel" "theExpressions" : Cond) ∈ wAll := wa_3 163 rfl rfl
theorem iw3_164 : (.lays "ModuleBytesModel" "ModuleBytesModel" "theSections" "I" : Cond) ∈ wAll := wa_3 164 rfl rfl
theorem iw3_165 : (.soleField "ModuleBytesModel" "theSections" : Cond) ∈ wAll := wa_3 165 rfl rfl
theorem iw3_166 : (.lays "ModuleBytesModel" "ModuleBytesModel" "theKind" "[I" : Cond) ∈ wAll := wa_3 166 rfl rfl
theorem iw3_167 : (.soleField "ModuleBytesModel" "theKind" : Cond) ∈ wAll := wa_3 167 rfl rfl
theorem iw3_168 : (.lays "ModuleBytesModel" "ModuleBytesModel" "theFrom" "[I" : Cond) ∈ wAll := wa_3 168 rfl rfl
theorem iw3_169 : (.soleField "ModuleBytesModel" "theFrom" : Cond) ∈ wAll := wa_3 169 rfl rfl
theorem iw3_170 : (.lays "ModuleBytesModel" "ModuleBytesModel" "theTo" "[I" : Cond) ∈ wAll := wa_3 170 rfl rfl
theorem iw3_171 : (.soleField "ModuleBytesModel" "theTo" : Cond) ∈ wAll := wa_3 171 rfl rfl
theorem iw3_172 : (.lays "ModuleBytesModel" "ModuleBytesModel" "theRest" "[I" : Cond) ∈ wAll := wa_3 172 rfl rfl
theorem iw3_173 : (.soleField "ModuleBytesModel" "theRest" : Cond) ∈ wAll := wa_3 173 rfl rfl
theorem iw3_174 : (.lays "ModuleBytesModel" "ModuleBytesModel" "theOwner" "[I" : Cond) ∈ wAll := wa_3 174 rfl rfl
theorem iw3_175 : (.soleField "ModuleBytesModel" "theOwner" : Cond) ∈ wAll := wa_3 175 rfl rfl
theorem iw3_176 : (.lays "ModuleBytesModel" "ModuleBytesModel" "theFirst" "[I" : Cond) ∈ wAll := wa_3 176 rfl rfl
theorem iw3_177 : (.soleField "ModuleBytesModel" "theFirst" : Cond) ∈ wAll := wa_3 177 rfl rfl
theorem iw3_178 : (.lays "ModuleBytesModel" "ModuleBytesModel" "theBehind" "[I" : Cond) ∈ wAll := wa_3 178 rfl rfl
theorem iw3_179 : (.soleField "ModuleBytesModel" "theBehind" : Cond) ∈ wAll := wa_3 179 rfl rfl
theorem iw3_180 : (.lays "ModuleBytesModel" "ModuleBytesModel" "theStart" "J" : Cond) ∈ wAll := wa_3 180 rfl rfl
theorem iw3_181 : (.soleField "ModuleBytesModel" "theStart" : Cond) ∈ wAll := wa_3 181 rfl rfl
theorem iw3_182 : (.lays "ModuleBytesModel" "ModuleBytesModel" "theDataCount" "J" : Cond) ∈ wAll := wa_3 182 rfl rfl
theorem iw3_183 : (.soleField "ModuleBytesModel" "theDataCount" : Cond) ∈ wAll := wa_3 183 rfl rfl
theorem iw3_184 : (.lays "ModuleBytesModel" "ModuleBytesModel" "q" "I" : Cond) ∈ wAll := wa_3 184 rfl rfl
theorem iw3_185 : (.soleField "ModuleBytesModel" "q" : Cond) ∈ wAll := wa_3 185 rfl rfl
theorem iw3_186 : (.superclass "ModuleBytesModel" "java/lang/Object" : Cond) ∈ wAll := wa_3 186 rfl rfl
theorem iw3_187 : (.arrayClass Jvm.ClassFile.FieldType.int : Cond) ∈ wAll := wa_3 187 rfl rfl
theorem iw3_188 : (.methodLink "ModuleBytesLaw" 17 ⟨"ModuleBytesModel", "feed", "(IIIII)I"⟩ : Cond) ∈ wAll := wa_3 188 rfl rfl
theorem iw3_189 : (.instanceMethod ⟨"ModuleBytesModel", "feed", "(IIIII)I"⟩ : Cond) ∈ wAll := wa_3 189 rfl rfl
theorem iw3_190 : (.selects "ModuleBytesModel" ⟨"ModuleBytesModel", "feed", "(IIIII)I"⟩ ⟨"ModuleBytesModel", "feed", "(IIIII)I"⟩ : Cond) ∈ wAll := wa_3 190 rfl rfl
theorem iw3_191 : (.code ⟨"ModuleBytesModel", "feed", "(IIIII)I"⟩ prog_8_method_3_code 6 (Option.some Jvm.ClassFile.FieldType.int) : Cond) ∈ wAll := wa_3 191 rfl rfl
theorem iw3_192 : (.methodLink "ModuleBytesModel" 78 ⟨"ModuleBytesModel", "feedOne", "(I)V"⟩ : Cond) ∈ wAll := wa_3 192 rfl rfl
theorem iw3_194 : (.instanceMethod ⟨"ModuleBytesModel", "feedOne", "(I)V"⟩ : Cond) ∈ wAll := wa_3 194 rfl rfl
theorem iw3_195 : (.code ⟨"ModuleBytesModel", "feedOne", "(I)V"⟩ prog_8_method_2_code 3 (Option.none : Option Jvm.ClassFile.FieldType) : Cond) ∈ wAll := wa_3 195 rfl rfl
theorem iw3_196 : (.methodLink "ModuleBytesLaw" 22 ⟨"ModuleBytesModel", "end", "(I)I"⟩ : Cond) ∈ wAll := wa_3 196 rfl rfl
theorem iw3_197 : (.instanceMethod ⟨"ModuleBytesModel", "end", "(I)I"⟩ : Cond) ∈ wAll := wa_3 197 rfl rfl
theorem iw3_198 : (.selects "ModuleBytesModel" ⟨"ModuleBytesModel", "end", "(I)I"⟩ ⟨"ModuleBytesModel", "end", "(I)I"⟩ : Cond) ∈ wAll := wa_3 198 rfl rfl
theorem iw3_199 : (.code ⟨"ModuleBytesModel", "end", "(I)I"⟩ prog_8_method_41_code 2 (Option.some Jvm.ClassFile.FieldType.int) : Cond) ∈ wAll := wa_3 199 rfl rfl
theorem iw3_200 : (.methodLink "ModuleBytesModel" 262 ⟨"ModuleBytesModel", "read", "(I)V"⟩ : Cond) ∈ wAll := wa_3 200 rfl rfl
theorem iw3_202 : (.instanceMethod ⟨"ModuleBytesModel", "read", "(I)V"⟩ : Cond) ∈ wAll := wa_3 202 rfl rfl
theorem iw3_203 : (.code ⟨"ModuleBytesModel", "read", "(I)V"⟩ prog_8_method_39_code 3 (Option.none : Option Jvm.ClassFile.FieldType) : Cond) ∈ wAll := wa_3 203 rfl rfl
theorem iw3_204 : (.constantLong "ModuleBytesModel" 251 (-1) : Cond) ∈ wAll := wa_3 204 rfl rfl
theorem iw3_205 : (.methodLink "ModuleBytesModel" 253 ⟨"ModuleBytesModel", "head", "(I)I"⟩ : Cond) ∈ wAll := wa_3 205 rfl rfl
theorem iw3_206 : (.static ⟨"ModuleBytesModel", "head", "(I)I"⟩ : Cond) ∈ wAll := wa_3 206 rfl rfl
theorem iw3_207 : (.code ⟨"ModuleBytesModel", "head", "(I)I"⟩ prog_8_method_38_code 1 (Option.some Jvm.ClassFile.FieldType.int) : Cond) ∈ wAll := wa_3 207 rfl rfl
theorem iw3_208 : (.methodLink "ModuleBytesModel" 159 ⟨"ModuleBytesModel", "takeBetween", "(III)I"⟩ : Cond) ∈ wAll := wa_3 208 rfl rfl
theorem iw3_210 : (.instanceMethod ⟨"ModuleBytesModel", "takeBetween", "(III)I"⟩ : Cond) ∈ wAll := wa_3 210 rfl rfl
theorem iw3_211 : (.code ⟨"ModuleBytesModel", "takeBetween", "(III)I"⟩ prog_8_method_10_code 5 (Option.some Jvm.ClassFile.FieldType.int) : Cond) ∈ wAll := wa_3 211 rfl rfl
theorem iw3_212 : (.methodLink "ModuleBytesModel" 98 ⟨"ModuleBytesModel", "take", "()I"⟩ : Cond) ∈ wAll := wa_3 212 rfl rfl
theorem iw3_214 : (.instanceMethod ⟨"ModuleBytesModel", "take", "()I"⟩ : Cond) ∈ wAll := wa_3 214 rfl rfl
theorem iw3_215 : (.code ⟨"ModuleBytesModel", "take", "()I"⟩ prog_8_method_5_code 1 (Option.some Jvm.ClassFile.FieldType.int) : Cond) ∈ wAll := wa_3 215 rfl rfl
theorem iw3_216 : (.methodLink "ModuleBytesModel" 94 ⟨"ModuleBytesModel", "stop", "(II)V"⟩ : Cond) ∈ wAll := wa_3 216 rfl rfl
theorem iw3_218 : (.instanceMethod ⟨"ModuleBytesModel", "stop", "(II)V"⟩ : Cond) ∈ wAll := wa_3 218 rfl rfl
theorem iw3_219 : (.code ⟨"ModuleBytesModel", "stop", "(II)V"⟩ prog_8_method_4_code 3 (Option.none : Option Jvm.ClassFile.FieldType) : Cond) ∈ wAll := wa_3 219 rfl rfl
theorem iw3_220 : (.methodLink "ModuleBytesModel" 128 ⟨"ModuleBytesModel", "want", "(I)V"⟩ : Cond) ∈ wAll := wa_3 220 rfl rfl
theorem iw3_222 : (.instanceMethod ⟨"ModuleBytesModel", "want", "(I)V"⟩ : Cond) ∈ wAll := wa_3 222 rfl rfl
theorem iw3_223 : (.code ⟨"ModuleBytesModel", "want", "(I)V"⟩ prog_8_method_15_code 2 (Option.none : Option Jvm.ClassFile.FieldType) : Cond) ∈ wAll := wa_3 223 rfl rfl
theorem iw3_224 : (.methodLink "ModuleBytesModel" 256 ⟨"ModuleBytesModel", "next", "()V"⟩ : Cond) ∈ wAll := wa_3 224 rfl rfl
theorem iw3_226 : (.instanceMethod ⟨"ModuleBytesModel", "next", "()V"⟩ : Cond) ∈ wAll := wa_3 226 rfl rfl
theorem iw3_227 : (.code ⟨"ModuleBytesModel", "next", "()V"⟩ prog_8_method_35_code 4 (Option.none : Option Jvm.ClassFile.FieldType) : Cond) ∈ wAll := wa_3 227 rfl rfl
theorem iw3_228 : (.methodLink "ModuleBytesModel" 113 ⟨"ModuleBytesModel", "takeU32", "()J"⟩ : Cond) ∈ wAll := wa_3 228 rfl rfl
theorem iw3_230 : (.instanceMethod ⟨"ModuleBytesModel", "takeU32", "()J"⟩ : Cond) ∈ wAll := wa_3 230 rfl rfl
theorem iw3_231 : (.code ⟨"ModuleBytesModel", "takeU32", "()J"⟩ prog_8_method_6_code 5 (Option.some Jvm.ClassFile.FieldType.long) : Cond) ∈ wAll := wa_3 231 rfl rfl
theorem iw3_232 : (.methodLink "ModuleBytesModel" 156 ⟨"ModuleBytesModel", "takeName", "()V"⟩ : Cond) ∈ wAll := wa_3 232 rfl rfl
theorem iw3_234 : (.instanceMethod ⟨"ModuleBytesModel", "takeName", "()V"⟩ : Cond) ∈ wAll := wa_3 234 rfl rfl
theorem iw3_235 : (.code ⟨"ModuleBytesModel", "takeName", "()V"⟩ prog_8_method_14_code 6 (Option.none : Option Jvm.ClassFile.FieldType) : Cond) ∈ wAll := wa_3 235 rfl rfl
theorem iw3_236 : (.methodLink "ModuleBytesModel" 117 ⟨"ModuleBytesModel", "skip", "(J)V"⟩ : Cond) ∈ wAll := wa_3 236 rfl rfl
theorem iw3_238 : (.instanceMethod ⟨"ModuleBytesModel", "skip", "(J)V"⟩ : Cond) ∈ wAll := wa_3 238 rfl rfl
theorem iw3_239 : (.code ⟨"ModuleBytesModel", "skip", "(J)V"⟩ prog_8_method_12_code 5 (Option.none : Option Jvm.ClassFile.FieldType) : Cond) ∈ wAll := wa_3 239 rfl rfl
theorem iw4_0 : (.methodLink "ModuleBytesModel" 121 ⟨"ModuleBytesModel", "character", "(II)I"⟩ : Cond) ∈ wAll := wa_4 0 rfl rfl
theorem iw4_2 : (.instanceMethod ⟨"ModuleBytesModel", "character", "(II)I"⟩ : Cond) ∈ wAll := wa_4 2 rfl rfl
theorem iw4_3 : (.code ⟨"ModuleBytesModel", "character", "(II)I"⟩ prog_8_method_13_code 7 (Option.some Jvm.ClassFile.FieldType.int) : Cond) ∈ wAll := wa_4 3 rfl rfl
theorem iw4_4 : (.constant "ModuleBytesModel" 109 55296 : Cond) ∈ wAll := wa_4 4 rfl rfl
theorem iw4_5 : (.constant "ModuleBytesModel" 110 57343 : Cond) ∈ wAll := wa_4 5 rfl rfl
theorem iw4_6 : (.constant "ModuleBytesModel" 111 65536 : Cond) ∈ wAll := wa_4 6 rfl rfl
theorem iw4_7 : (.constant "ModuleBytesModel" 112 1114111 : Cond) ∈ wAll := wa_4 7 rfl rfl
theorem iw4_8 : (.methodLink "ModuleBytesModel" 209 ⟨"ModuleBytesModel", "takeType", "(Z)V"⟩ : Cond) ∈ wAll := wa_4 8 rfl rfl
theorem iw4_10 : (.instanceMethod ⟨"ModuleBytesModel", "takeType", "(Z)V"⟩ : Cond) ∈ wAll := wa_4 10 rfl rfl
theorem iw4_11 : (.code ⟨"ModuleBytesModel", "takeType", "(Z)V"⟩ prog_8_method_11_code 3 (Option.none : Option Jvm.ClassFile.FieldType) : Cond) ∈ wAll := wa_4 11 rfl rfl
theorem iw4_12 : (.methodLink "ModuleBytesModel" 102 ⟨"ModuleBytesModel", "isReference", "(I)Z"⟩ : Cond) ∈ wAll := wa_4 12 rfl rfl
theorem iw4_13 : (.static ⟨"ModuleBytesModel", "isReference", "(I)Z"⟩ : Cond) ∈ wAll := wa_4 13 rfl rfl
theorem iw4_14 : (.code ⟨"ModuleBytesModel", "isReference", "(I)Z"⟩ prog_8_method_8_code 1 (Option.some Jvm.ClassFile.FieldType.boolean) : Cond) ∈ wAll := wa_4 14 rfl rfl
theorem iw4_15 : (.methodLink "ModuleBytesModel" 106 ⟨"ModuleBytesModel", "isValue", "(I)Z"⟩ : Cond) ∈ wAll := wa_4 15 rfl rfl
theorem iw4_16 : (.static ⟨"ModuleBytesModel", "isValue", "(I)Z"⟩ : Cond) ∈ wAll := wa_4 16 rfl rfl
theorem iw4_17 : (.code ⟨"ModuleBytesModel", "isValue", "(I)Z"⟩ prog_8_method_9_code 1 (Option.some Jvm.ClassFile.FieldType.boolean) : Cond) ∈ wAll := wa_4 17 rfl rfl
theorem iw4_18 : (.methodLink "ModuleBytesModel" 147 ⟨"ModuleBytesModel", "thing", "(I)I"⟩ : Cond) ∈ wAll := wa_4 18 rfl rfl
theorem iw4_20 : (.instanceMethod ⟨"ModuleBytesModel", "thing", "(I)I"⟩ : Cond) ∈ wAll := wa_4 20 rfl rfl
theorem iw4_21 : (.code ⟨"ModuleBytesModel", "thing", "(I)I"⟩ prog_8_method_18_code 2 (Option.some Jvm.ClassFile.FieldType.int) : Cond) ∈ wAll := wa_4 21 rfl rfl
theorem iw4_22 : (.methodLink "ModuleBytesModel" 150 ⟨"ModuleBytesModel", "wantTwo", "(II)V"⟩ : Cond) ∈ wAll := wa_4 22 rfl rfl
theorem iw4_24 : (.instanceMethod ⟨"ModuleBytesModel", "wantTwo", "(II)V"⟩ : Cond) ∈ wAll := wa_4 24 rfl rfl
theorem iw4_25 : (.code ⟨"ModuleBytesModel", "wantTwo", "(II)V"⟩ prog_8_method_16_code 3 (Option.none : Option Jvm.ClassFile.FieldType) : Cond) ∈ wAll := wa_4 25 rfl rfl
theorem iw4_26 : (.methodLink "ModuleBytesModel" 213 ⟨"ModuleBytesModel", "takeImport", "()V"⟩ : Cond) ∈ wAll := wa_4 26 rfl rfl
theorem iw4_28 : (.instanceMethod ⟨"ModuleBytesModel", "takeImport", "()V"⟩ : Cond) ∈ wAll := wa_4 28 rfl rfl
theorem iw4_29 : (.code ⟨"ModuleBytesModel", "takeImport", "()V"⟩ prog_8_method_23_code 2 (Option.none : Option Jvm.ClassFile.FieldType) : Cond) ∈ wAll := wa_4 29 rfl rfl
theorem iw4_30 : (.methodLink "ModuleBytesModel" 216 ⟨"ModuleBytesModel", "takeElement", "()V"⟩ : Cond) ∈ wAll := wa_4 30 rfl rfl
theorem iw4_32 : (.instanceMethod ⟨"ModuleBytesModel", "takeElement", "()V"⟩ : Cond) ∈ wAll := wa_4 32 rfl rfl
theorem iw4_33 : (.code ⟨"ModuleBytesModel", "takeElement", "()V"⟩ prog_8_method_24_code 5 (Option.none : Option Jvm.ClassFile.FieldType) : Cond) ∈ wAll := wa_4 33 rfl rfl
theorem iw4_34 : (.constantLong "ModuleBytesModel" 163 7 : Cond) ∈ wAll := wa_4 34 rfl rfl
theorem iw4_35 : (.methodLink "ModuleBytesModel" 153 ⟨"ModuleBytesModel", "wantRow", "(I)V"⟩ : Cond) ∈ wAll := wa_4 35 rfl rfl
theorem iw4_37 : (.instanceMethod ⟨"ModuleBytesModel", "wantRow", "(I)V"⟩ : Cond) ∈ wAll := wa_4 37 rfl rfl
theorem iw4_38 : (.code ⟨"ModuleBytesModel", "wantRow", "(I)V"⟩ prog_8_method_17_code 2 (Option.none : Option Jvm.ClassFile.FieldType) : Cond) ∈ wAll := wa_4 38 rfl rfl
theorem iw4_39 : (.methodLink "ModuleBytesModel" 219 ⟨"ModuleBytesModel", "takeBody", "()V"⟩ : Cond) ∈ wAll := wa_4 39 rfl rfl
theorem iw4_41 : (.instanceMethod ⟨"ModuleBytesModel", "takeBody", "()V"⟩ : Cond) ∈ wAll := wa_4 41 rfl rfl
theorem iw4_42 : (.code ⟨"ModuleBytesModel", "takeBody", "()V"⟩ prog_8_method_26_code 1 (Option.none : Option Jvm.ClassFile.FieldType) : Cond) ∈ wAll := wa_4 42 rfl rfl
theorem iw4_43 : (.methodLink "ModuleBytesModel" 144 ⟨"ModuleBytesModel", "openPart", "()V"⟩ : Cond) ∈ wAll := wa_4 43 rfl rfl
theorem iw4_45 : (.instanceMethod ⟨"ModuleBytesModel", "openPart", "()V"⟩ : Cond) ∈ wAll := wa_4 45 rfl rfl
theorem iw4_46 : (.code ⟨"ModuleBytesModel", "openPart", "()V"⟩ prog_8_method_19_code 4 (Option.none : Option Jvm.ClassFile.FieldType) : Cond) ∈ wAll := wa_4 46 rfl rfl
theorem iw4_47 : (.methodLink "ModuleBytesModel" 222 ⟨"ModuleBytesModel", "takeData", "()V"⟩ : Cond) ∈ wAll := wa_4 47 rfl rfl
theorem iw4_49 : (.instanceMethod ⟨"ModuleBytesModel", "takeData", "()V"⟩ : Cond) ∈ wAll := wa_4 49 rfl rfl
theorem iw4_50 : (.code ⟨"ModuleBytesModel", "takeData", "()V"⟩ prog_8_method_25_code 4 (Option.none : Option Jvm.ClassFile.FieldType) : Cond) ∈ wAll := wa_4 50 rfl rfl
theorem iw4_51 : (.constantLong "ModuleBytesModel" 165 2 : Cond) ∈ wAll := wa_4 51 rfl rfl
theorem iw4_52 : (.methodLink "ModuleBytesModel" 225 ⟨"ModuleBytesModel", "nextOther", "(I)V"⟩ : Cond) ∈ wAll := wa_4 52 rfl rfl
theorem iw4_54 : (.instanceMethod ⟨"ModuleBytesModel", "nextOther", "(I)V"⟩ : Cond) ∈ wAll := wa_4 54 rfl rfl
theorem iw4_55 : (.code ⟨"ModuleBytesModel", "nextOther", "(I)V"⟩ prog_8_method_36_code 2 (Option.none : Option Jvm.ClassFile.FieldType) : Cond) ∈ wAll := wa_4 55 rfl rfl
theorem iw4_56 : (.methodLink "ModuleBytesModel" 228 ⟨"ModuleBytesModel", "takeExpression", "()V"⟩ : Cond) ∈ wAll := wa_4 56 rfl rfl
theorem iw4_58 : (.instanceMethod ⟨"ModuleBytesModel", "takeExpression", "()V"⟩ : Cond) ∈ wAll := wa_4 58 rfl rfl
theorem iw4_59 : (.code ⟨"ModuleBytesModel", "takeExpression", "()V"⟩ prog_8_method_28_code 1 (Option.none : Option Jvm.ClassFile.FieldType) : Cond) ∈ wAll := wa_4 59 rfl rfl
theorem iw4_60 : (.methodLink "ModuleBytesModel" 231 ⟨"ModuleBytesModel", "takeLocals", "()V"⟩ : Cond) ∈ wAll := wa_4 60 rfl rfl
theorem iw4_62 : (.instanceMethod ⟨"ModuleBytesModel", "takeLocals", "()V"⟩ : Cond) ∈ wAll := wa_4 62 rfl rfl
theorem iw4_63 : (.code ⟨"ModuleBytesModel", "takeLocals", "()V"⟩ prog_8_method_27_code 1 (Option.none : Option Jvm.ClassFile.FieldType) : Cond) ∈ wAll := wa_4 63 rfl rfl
theorem iw4_64 : (.constantLong "ModuleBytesModel" 234 4294967295 : Cond) ∈ wAll := wa_4 64 rfl rfl
theorem iw4_65 : (.methodLink "ModuleBytesModel" 236 ⟨"ModuleBytesModel", "takeInstruction", "()V"⟩ : Cond) ∈ wAll := wa_4 65 rfl rfl
theorem iw4_67 : (.instanceMethod ⟨"ModuleBytesModel", "takeInstruction", "()V"⟩ : Cond) ∈ wAll := wa_4 67 rfl rfl
theorem iw4_68 : (.code ⟨"ModuleBytesModel", "takeInstruction", "()V"⟩ prog_8_method_33_code 3 (Option.none : Option Jvm.ClassFile.FieldType) : Cond) ∈ wAll := wa_4 68 rfl rfl
theorem iw4_69 : (.methodLink "ModuleBytesModel" 190 ⟨"ModuleBytesModel", "isAlone", "(I)Z"⟩ : Cond) ∈ wAll := wa_4 69 rfl rfl
theorem iw4_70 : (.static ⟨"ModuleBytesModel", "isAlone", "(I)Z"⟩ : Cond) ∈ wAll := wa_4 70 rfl rfl
theorem iw4_71 : (.code ⟨"ModuleBytesModel", "isAlone", "(I)Z"⟩ prog_8_method_29_code 1 (Option.some Jvm.ClassFile.FieldType.boolean) : Cond) ∈ wAll := wa_4 71 rfl rfl
theorem iw4_72 : (.methodLink "ModuleBytesModel" 193 ⟨"ModuleBytesModel", "takeBlock", "(I)V"⟩ : Cond) ∈ wAll := wa_4 72 rfl rfl
theorem iw4_74 : (.instanceMethod ⟨"ModuleBytesModel", "takeBlock", "(I)V"⟩ : Cond) ∈ wAll := wa_4 74 rfl rfl
theorem iw4_75 : (.code ⟨"ModuleBytesModel", "takeBlock", "(I)V"⟩ prog_8_method_31_code 6 (Option.none : Option Jvm.ClassFile.FieldType) : Cond) ∈ wAll := wa_4 75 rfl rfl
theorem iw4_76 : (.methodLink "ModuleBytesModel" 180 ⟨"ModuleBytesModel", "takeSigned", "(I)J"⟩ : Cond) ∈ wAll := wa_4 76 rfl rfl
theorem iw4_78 : (.instanceMethod ⟨"ModuleBytesModel", "takeSigned", "(I)J"⟩ : Cond) ∈ wAll := wa_4 78 rfl rfl
theorem iw4_79 : (.code ⟨"ModuleBytesModel", "takeSigned", "(I)J"⟩ prog_8_method_7_code 11 (Option.some Jvm.ClassFile.FieldType.long) : Cond) ∈ wAll := wa_4 79 rfl rfl
theorem iw4_80 : (.methodLink "ModuleBytesModel" 196 ⟨"ModuleBytesModel", "hasOne", "(I)Z"⟩ : Cond) ∈ wAll := wa_4 80 rfl rfl
theorem iw4_81 : (.static ⟨"ModuleBytesModel", "hasOne", "(I)Z"⟩ : Cond) ∈ wAll := wa_4 81 rfl rfl
theorem iw4_82 : (.code ⟨"ModuleBytesModel", "hasOne", "(I)Z"⟩ prog_8_method_30_code 1 (Option.some Jvm.ClassFile.FieldType.boolean) : Cond) ∈ wAll := wa_4 82 rfl rfl
theorem iw4_83 : (.methodLink "ModuleBytesModel" 199 ⟨"ModuleBytesModel", "takeRare", "(II)V"⟩ : Cond) ∈ wAll := wa_4 83 rfl rfl
theorem iw4_85 : (.instanceMethod ⟨"ModuleBytesModel", "takeRare", "(II)V"⟩ : Cond) ∈ wAll := wa_4 85 rfl rfl
theorem iw4_86 : (.code ⟨"ModuleBytesModel", "takeRare", "(II)V"⟩ prog_8_method_34_code 3 (Option.none : Option Jvm.ClassFile.FieldType) : Cond) ∈ wAll := wa_4 86 rfl rfl
theorem iw4_87 : (.constantLong "ModuleBytesModel" 202 4 : Cond) ∈ wAll := wa_4 87 rfl rfl
theorem iw4_88 : (.constantLong "ModuleBytesModel" 204 8 : Cond) ∈ wAll := wa_4 88 rfl rfl
theorem iw4_89 : (.methodLink "ModuleBytesModel" 206 ⟨"ModuleBytesModel", "takeOther", "(I)V"⟩ : Cond) ∈ wAll := wa_4 89 rfl rfl
theorem iw4_91 : (.instanceMethod ⟨"ModuleBytesModel", "takeOther", "(I)V"⟩ : Cond) ∈ wAll := wa_4 91 rfl rfl
theorem iw4_92 : (.code ⟨"ModuleBytesModel", "takeOther", "(I)V"⟩ prog_8_method_32_code 5 (Option.none : Option Jvm.ClassFile.FieldType) : Cond) ∈ wAll := wa_4 92 rfl rfl
theorem iw4_93 : (.constantLong "ModuleBytesModel" 184 17 : Cond) ∈ wAll := wa_4 93 rfl rfl
theorem iw4_94 : (.methodLink "ModuleBytesModel" 239 ⟨"ModuleBytesModel", "takeSection", "()V"⟩ : Cond) ∈ wAll := wa_4 94 rfl rfl
theorem iw4_96 : (.instanceMethod ⟨"ModuleBytesModel", "takeSection", "()V"⟩ : Cond) ∈ wAll := wa_4 96 rfl rfl
theorem iw4_97 : (.code ⟨"ModuleBytesModel", "takeSection", "()V"⟩ prog_8_method_22_code 2 (Option.none : Option Jvm.ClassFile.FieldType) : Cond) ∈ wAll := wa_4 97 rfl rfl
theorem iw4_98 : (.methodLink "ModuleBytesModel" 134 ⟨"ModuleBytesModel", "order", "(I)I"⟩ : Cond) ∈ wAll := wa_4 98 rfl rfl
theorem iw4_99 : (.static ⟨"ModuleBytesModel", "order", "(I)I"⟩ : Cond) ∈ wAll := wa_4 99 rfl rfl
theorem iw4_100 : (.code ⟨"ModuleBytesModel", "order", "(I)I"⟩ prog_8_method_21_code 1 (Option.some Jvm.ClassFile.FieldType.int) : Cond) ∈ wAll := wa_4 100 rfl rfl
theorem iw4_101 : (.methodLink "ModuleBytesModel" 242 ⟨"ModuleBytesModel", "closePart", "()V"⟩ : Cond) ∈ wAll := wa_4 101 rfl rfl
theorem iw4_103 : (.instanceMethod ⟨"ModuleBytesModel", "closePart", "()V"⟩ : Cond) ∈ wAll := wa_4 103 rfl rfl
theorem iw4_104 : (.code ⟨"ModuleBytesModel", "closePart", "()V"⟩ prog_8_method_20_code 1 (Option.none : Option Jvm.ClassFile.FieldType) : Cond) ∈ wAll := wa_4 104 rfl rfl
theorem iw4_105 : (.methodLink "ModuleBytesModel" 259 ⟨"ModuleBytesModel", "count", "(I)I"⟩ : Cond) ∈ wAll := wa_4 105 rfl rfl
theorem iw4_107 : (.instanceMethod ⟨"ModuleBytesModel", "count", "(I)I"⟩ : Cond) ∈ wAll := wa_4 107 rfl rfl
theorem iw4_108 : (.code ⟨"ModuleBytesModel", "count", "(I)I"⟩ prog_8_method_37_code 4 (Option.some Jvm.ClassFile.FieldType.int) : Cond) ∈ wAll := wa_4 108 rfl rfl
theorem iw4_109 : (.methodLink "ModuleBytesModel" 268 ⟨"ModuleBytesModel", "copy", "([I[II)V"⟩ : Cond) ∈ wAll := wa_4 109 rfl rfl
theorem iw4_110 : (.static ⟨"ModuleBytesModel", "copy", "([I[II)V"⟩ : Cond) ∈ wAll := wa_4 110 rfl rfl
theorem iw4_111 : (.code ⟨"ModuleBytesModel", "copy", "([I[II)V"⟩ prog_8_method_40_code 4 (Option.none : Option Jvm.ClassFile.FieldType) : Cond) ∈ wAll := wa_4 111 rfl rfl
theorem iw4_112 : (.methodLink "ModuleBytesLaw" 27 ⟨"ModuleBytesModel", "place", "()I"⟩ : Cond) ∈ wAll := wa_4 112 rfl rfl
theorem iw4_113 : (.instanceMethod ⟨"ModuleBytesModel", "place", "()I"⟩ : Cond) ∈ wAll := wa_4 113 rfl rfl
theorem iw4_114 : (.selects "ModuleBytesModel" ⟨"ModuleBytesModel", "place", "()I"⟩ ⟨"ModuleBytesModel", "place", "()I"⟩ : Cond) ∈ wAll := wa_4 114 rfl rfl
theorem iw4_115 : (.code ⟨"ModuleBytesModel", "place", "()I"⟩ prog_8_method_42_code 1 (Option.some Jvm.ClassFile.FieldType.int) : Cond) ∈ wAll := wa_4 115 rfl rfl
theorem iw4_116 : (.methodLink "ModuleBytesLaw" 32 ⟨"ModuleBytesModel", "many", "(I)J"⟩ : Cond) ∈ wAll := wa_4 116 rfl rfl
theorem iw4_117 : (.instanceMethod ⟨"ModuleBytesModel", "many", "(I)J"⟩ : Cond) ∈ wAll := wa_4 117 rfl rfl
theorem iw4_118 : (.selects "ModuleBytesModel" ⟨"ModuleBytesModel", "many", "(I)J"⟩ ⟨"ModuleBytesModel", "many", "(I)J"⟩ : Cond) ∈ wAll := wa_4 118 rfl rfl
theorem iw4_119 : (.code ⟨"ModuleBytesModel", "many", "(I)J"⟩ prog_8_method_44_code 2 (Option.some Jvm.ClassFile.FieldType.long) : Cond) ∈ wAll := wa_4 119 rfl rfl
theorem iw4_120 : (.methodLink "ModuleBytesModel" 287 ⟨"ModuleBytesModel", "countOf", "(I)I"⟩ : Cond) ∈ wAll := wa_4 120 rfl rfl
theorem iw4_122 : (.instanceMethod ⟨"ModuleBytesModel", "countOf", "(I)I"⟩ : Cond) ∈ wAll := wa_4 122 rfl rfl
theorem iw4_123 : (.code ⟨"ModuleBytesModel", "countOf", "(I)I"⟩ prog_8_method_43_code 4 (Option.some Jvm.ClassFile.FieldType.int) : Cond) ∈ wAll := wa_4 123 rfl rfl
theorem iw4_124 : (.methodLink "ModuleBytesLaw" 37 ⟨"ModuleBytesModel", "type", "(III)I"⟩ : Cond) ∈ wAll := wa_4 124 rfl rfl
theorem iw4_125 : (.instanceMethod ⟨"ModuleBytesModel", "type", "(III)I"⟩ : Cond) ∈ wAll := wa_4 125 rfl rfl
theorem iw4_126 : (.selects "ModuleBytesModel" ⟨"ModuleBytesModel", "type", "(III)I"⟩ ⟨"ModuleBytesModel", "type", "(III)I"⟩ : Cond) ∈ wAll := wa_4 126 rfl rfl
theorem iw4_127 : (.code ⟨"ModuleBytesModel", "type", "(III)I"⟩ prog_8_method_50_code 6 (Option.some Jvm.ClassFile.FieldType.int) : Cond) ∈ wAll := wa_4 127 rfl rfl
theorem iw4_128 : (.methodLink "ModuleBytesModel" 299 ⟨"ModuleBytesModel", "thingOf", "(II)I"⟩ : Cond) ∈ wAll := wa_4 128 rfl rfl
theorem iw4_130 : (.instanceMethod ⟨"ModuleBytesModel", "thingOf", "(II)I"⟩ : Cond) ∈ wAll := wa_4 130 rfl rfl
theorem iw4_131 : (.code ⟨"ModuleBytesModel", "thingOf", "(II)I"⟩ prog_8_method_45_code 5 (Option.some Jvm.ClassFile.FieldType.int) : Cond) ∈ wAll := wa_4 131 rfl rfl
theorem iw4_132 : (.methodLink "ModuleBytesModel" 293 ⟨"ModuleBytesModel", "number", "()J"⟩ : Cond) ∈ wAll := wa_4 132 rfl rfl
theorem iw4_134 : (.instanceMethod ⟨"ModuleBytesModel", "number", "()J"⟩ : Cond) ∈ wAll := wa_4 134 rfl rfl
theorem iw4_135 : (.code ⟨"ModuleBytesModel", "number", "()J"⟩ prog_8_method_46_code 4 (Option.some Jvm.ClassFile.FieldType.long) : Cond) ∈ wAll := wa_4 135 rfl rfl
theorem iw4_136 : (.methodLink "ModuleBytesLaw" 42 ⟨"ModuleBytesModel", "look", "(III)J"⟩ : Cond) ∈ wAll := wa_4 136 rfl rfl
theorem iw4_137 : (.instanceMethod ⟨"ModuleBytesModel", "look", "(III)J"⟩ : Cond) ∈ wAll := wa_4 137 rfl rfl
theorem iw4_138 : (.selects "ModuleBytesModel" ⟨"ModuleBytesModel", "look", "(III)J"⟩ ⟨"ModuleBytesModel", "look", "(III)J"⟩ : Cond) ∈ wAll := wa_4 138 rfl rfl
theorem iw4_139 : (.code ⟨"ModuleBytesModel", "look", "(III)J"⟩ prog_8_method_57_code 6 (Option.some Jvm.ClassFile.FieldType.long) : Cond) ∈ wAll := wa_4 139 rfl rfl
theorem iw4_140 : (.methodLink "ModuleBytesModel" 314 ⟨"ModuleBytesModel", "lookImport", "(II)J"⟩ : Cond) ∈ wAll := wa_4 140 rfl rfl
theorem iw4_142 : (.instanceMethod ⟨"ModuleBytesModel", "lookImport", "(II)J"⟩ : Cond) ∈ wAll := wa_4 142 rfl rfl
theorem iw4_143 : (.code ⟨"ModuleBytesModel", "lookImport", "(II)J"⟩ prog_8_method_52_code 5 (Option.some Jvm.ClassFile.FieldType.long) : Cond) ∈ wAll := wa_4 143 rfl rfl
theorem iw4_144 : (.methodLink "ModuleBytesModel" 302 ⟨"ModuleBytesModel", "passName", "()V"⟩ : Cond) ∈ wAll := wa_4 144 rfl rfl
theorem iw4_146 : (.instanceMethod ⟨"ModuleBytesModel", "passName", "()V"⟩ : Cond) ∈ wAll := wa_4 146 rfl rfl
theorem iw4_147 : (.code ⟨"ModuleBytesModel", "passName", "()V"⟩ prog_8_method_47_code 2 (Option.none : Option Jvm.ClassFile.FieldType) : Cond) ∈ wAll := wa_4 147 rfl rfl
theorem iw4_148 : (.methodLink "ModuleBytesModel" 305 ⟨"ModuleBytesModel", "limit", "(Z)J"⟩ : Cond) ∈ wAll := wa_4 148 rfl rfl
theorem iw4_150 : (.instanceMethod ⟨"ModuleBytesModel", "limit", "(Z)J"⟩ : Cond) ∈ wAll := wa_4 150 rfl rfl
theorem iw4_151 : (.code ⟨"ModuleBytesModel", "limit", "(Z)J"⟩ prog_8_method_51_code 5 (Option.some Jvm.ClassFile.FieldType.long) : Cond) ∈ wAll := wa_4 151 rfl rfl
theorem iw4_152 : (.methodLink "ModuleBytesModel" 309 ⟨"ModuleBytesModel", "placeOf", "(II)I"⟩ : Cond) ∈ wAll := wa_4 152 rfl rfl
theorem iw4_154 : (.instanceMethod ⟨"ModuleBytesModel", "placeOf", "(II)I"⟩ : Cond) ∈ wAll := wa_4 154 rfl rfl
theorem iw4_155 : (.code ⟨"ModuleBytesModel", "placeOf", "(II)I"⟩ prog_8_method_49_code 4 (Option.some Jvm.ClassFile.FieldType.int) : Cond) ∈ wAll := wa_4 155 rfl rfl
theorem iw4_156 : (.methodLink "ModuleBytesModel" 296 ⟨"ModuleBytesModel", "expressionOf", "(II)I"⟩ : Cond) ∈ wAll := wa_4 156 rfl rfl
theorem iw4_158 : (.instanceMethod ⟨"ModuleBytesModel", "expressionOf", "(II)I"⟩ : Cond) ∈ wAll := wa_4 158 rfl rfl
theorem iw4_159 : (.code ⟨"ModuleBytesModel", "expressionOf", "(II)I"⟩ prog_8_method_48_code 6 (Option.some Jvm.ClassFile.FieldType.int) : Cond) ∈ wAll := wa_4 159 rfl rfl
theorem iw4_160 : (.methodLink "ModuleBytesModel" 318 ⟨"ModuleBytesModel", "exportNumber", "()J"⟩ : Cond) ∈ wAll := wa_4 160 rfl rfl
theorem iw4_162 : (.instanceMethod ⟨"ModuleBytesModel", "exportNumber", "()J"⟩ : Cond) ∈ wAll := wa_4 162 rfl rfl
theorem iw4_163 : (.code ⟨"ModuleBytesModel", "exportNumber", "()J"⟩ prog_8_method_58_code 1 (Option.some Jvm.ClassFile.FieldType.long) : Cond) ∈ wAll := wa_4 163 rfl rfl
theorem iw4_164 : (.methodLink "ModuleBytesModel" 321 ⟨"ModuleBytesModel", "lookElement", "(II)J"⟩ : Cond) ∈ wAll := wa_4 164 rfl rfl
theorem iw4_166 : (.instanceMethod ⟨"ModuleBytesModel", "lookElement", "(II)J"⟩ : Cond) ∈ wAll := wa_4 166 rfl rfl
theorem iw4_167 : (.code ⟨"ModuleBytesModel", "lookElement", "(II)J"⟩ prog_8_method_53_code 13 (Option.some Jvm.ClassFile.FieldType.long) : Cond) ∈ wAll := wa_4 167 rfl rfl
theorem iw4_168 : (.constantLong "ModuleBytesModel" 312 112 : Cond) ∈ wAll := wa_4 168 rfl rfl
theorem iw4_169 : (.methodLink "ModuleBytesModel" 324 ⟨"ModuleBytesModel", "lookBody", "(II)J"⟩ : Cond) ∈ wAll := wa_4 169 rfl rfl
theorem iw4_171 : (.instanceMethod ⟨"ModuleBytesModel", "lookBody", "(II)J"⟩ : Cond) ∈ wAll := wa_4 171 rfl rfl
theorem iw4_172 : (.code ⟨"ModuleBytesModel", "lookBody", "(II)J"⟩ prog_8_method_54_code 9 (Option.some Jvm.ClassFile.FieldType.long) : Cond) ∈ wAll := wa_4 172 rfl rfl
theorem iw4_173 : (.methodLink "ModuleBytesModel" 327 ⟨"ModuleBytesModel", "lookData", "(II)J"⟩ : Cond) ∈ wAll := wa_4 173 rfl rfl
theorem iw4_175 : (.instanceMethod ⟨"ModuleBytesModel", "lookData", "(II)J"⟩ : Cond) ∈ wAll := wa_4 175 rfl rfl
theorem iw4_176 : (.code ⟨"ModuleBytesModel", "lookData", "(II)J"⟩ prog_8_method_55_code 9 (Option.some Jvm.ClassFile.FieldType.long) : Cond) ∈ wAll := wa_4 176 rfl rfl
theorem iw4_177 : (.methodLink "ModuleBytesModel" 330 ⟨"ModuleBytesModel", "lookRest", "(II)J"⟩ : Cond) ∈ wAll := wa_4 177 rfl rfl
theorem iw4_179 : (.instanceMethod ⟨"ModuleBytesModel", "lookRest", "(II)J"⟩ : Cond) ∈ wAll := wa_4 179 rfl rfl
theorem iw4_180 : (.code ⟨"ModuleBytesModel", "lookRest", "(II)J"⟩ prog_8_method_56_code 3 (Option.some Jvm.ClassFile.FieldType.long) : Cond) ∈ wAll := wa_4 180 rfl rfl
theorem iw4_181 : (.methodLink "ModuleBytesLaw" 47 ⟨"ModuleBytesModel", "name", "(IIII)I"⟩ : Cond) ∈ wAll := wa_4 181 rfl rfl
theorem iw4_182 : (.instanceMethod ⟨"ModuleBytesModel", "name", "(IIII)I"⟩ : Cond) ∈ wAll := wa_4 182 rfl rfl
theorem iw4_183 : (.selects "ModuleBytesModel" ⟨"ModuleBytesModel", "name", "(IIII)I"⟩ ⟨"ModuleBytesModel", "name", "(IIII)I"⟩ : Cond) ∈ wAll := wa_4 183 rfl rfl
theorem iw4_184 : (.code ⟨"ModuleBytesModel", "name", "(IIII)I"⟩ prog_8_method_59_code 7 (Option.some Jvm.ClassFile.FieldType.int) : Cond) ∈ wAll := wa_4 184 rfl rfl
theorem iw4_185 : (.sameMethod "java/lang/Throwable" "java/lang/Throwable" "fillInStackTrace" "(I)Ljava/lang/Throwable;" : Cond) ∈ wAll := wa_4 185 rfl rfl
theorem i_Tb : ∀ w ∈ u_ws R_Tb F_Tb 3, w ∈ wAll := by decide +kernel
theorem i_Ct : ∀ w ∈ u_ws R_Ct F_Ct 6, w ∈ wAll := by decide +kernel
theorem i_Sr : ∀ w ∈ u_ws R_Sr F_Sr 5, w ∈ wAll := by decide +kernel
theorem i_Xr : ∀ w ∈ u_ws R_Xr F_Xr 4, w ∈ wAll := by decide +kernel
theorem i_Mr : ∀ w ∈ u_ws R_Mr F_Mr 4, w ∈ wAll := by decide +kernel
theorem i_Mb : ∀ w ∈ u_ws R_Mb F_Mb 5, w ∈ wAll := by decide +kernel
theorem i_Md : ∀ w ∈ u_ws R_Md F_Md 44, w ∈ wAll := by decide +kernel
theorem sel_Mr_readBeginning : (Cond.selects "ModuleBytes$ModuleReader" ⟨"ModuleBytes$ModuleReader", "readBeginning", "()V"⟩ ⟨"ModuleBytes$ModuleReader", "readBeginning", "()V"⟩) ∈ wAll := wa_s (y := ⟨"ModuleBytes$ModuleReader", "readBeginning", "()V"⟩) (n := 4) (by decide +kernel)
theorem sel_Thr_fillInStackTrace : (Cond.selects "java/lang/Throwable" ⟨"java/lang/Throwable", "fillInStackTrace", "(I)Ljava/lang/Throwable;"⟩ ⟨"java/lang/Throwable", "fillInStackTrace", "(I)Ljava/lang/Throwable;"⟩) ∈ wAll := wa_s (y := ⟨"java/lang/Throwable", "fillInStackTrace", "(I)Ljava/lang/Throwable;"⟩) (n := 6) (by decide +kernel)
theorem sel_Mr_readId : (Cond.selects "ModuleBytes$ModuleReader" ⟨"ModuleBytes$ModuleReader", "readId", "()I"⟩ ⟨"ModuleBytes$ModuleReader", "readId", "()I"⟩) ∈ wAll := wa_s (y := ⟨"ModuleBytes$ModuleReader", "readId", "()I"⟩) (n := 4) (by decide +kernel)
theorem sel_Mr_readCustom : (Cond.selects "ModuleBytes$ModuleReader" ⟨"ModuleBytes$ModuleReader", "readCustom", "()V"⟩ ⟨"ModuleBytes$ModuleReader", "readCustom", "()V"⟩) ∈ wAll := wa_s (y := ⟨"ModuleBytes$ModuleReader", "readCustom", "()V"⟩) (n := 4) (by decide +kernel)
theorem sel_Sr_characterSize : (Cond.selects "ModuleBytes$Source" ⟨"ModuleBytes$Source", "characterSize", "(I)I"⟩ ⟨"ModuleBytes$Source", "characterSize", "(I)I"⟩) ∈ wAll := wa_s (y := ⟨"ModuleBytes$Source", "characterSize", "(I)I"⟩) (n := 5) (by decide +kernel)
theorem sel_Mr_readRow : (Cond.selects "ModuleBytes$ModuleReader" ⟨"ModuleBytes$ModuleReader", "readRow", "(I)V"⟩ ⟨"ModuleBytes$ModuleReader", "readRow", "(I)V"⟩) ∈ wAll := wa_s (y := ⟨"ModuleBytes$ModuleReader", "readRow", "(I)V"⟩) (n := 4) (by decide +kernel)
theorem sel_Mr_readFunctionType : (Cond.selects "ModuleBytes$ModuleReader" ⟨"ModuleBytes$ModuleReader", "readFunctionType", "()V"⟩ ⟨"ModuleBytes$ModuleReader", "readFunctionType", "()V"⟩) ∈ wAll := wa_s (y := ⟨"ModuleBytes$ModuleReader", "readFunctionType", "()V"⟩) (n := 4) (by decide +kernel)
theorem sel_Mr_readImport : (Cond.selects "ModuleBytes$ModuleReader" ⟨"ModuleBytes$ModuleReader", "readImport", "()V"⟩ ⟨"ModuleBytes$ModuleReader", "readImport", "()V"⟩) ∈ wAll := wa_s (y := ⟨"ModuleBytes$ModuleReader", "readImport", "()V"⟩) (n := 4) (by decide +kernel)
theorem sel_Mr_readTable : (Cond.selects "ModuleBytes$ModuleReader" ⟨"ModuleBytes$ModuleReader", "readTable", "(LModuleBytes$Table;)V"⟩ ⟨"ModuleBytes$ModuleReader", "readTable", "(LModuleBytes$Table;)V"⟩) ∈ wAll := wa_s (y := ⟨"ModuleBytes$ModuleReader", "readTable", "(LModuleBytes$Table;)V"⟩) (n := 4) (by decide +kernel)
theorem sel_Mr_readLimits : (Cond.selects "ModuleBytes$ModuleReader" ⟨"ModuleBytes$ModuleReader", "readLimits", "(LModuleBytes$Table;)V"⟩ ⟨"ModuleBytes$ModuleReader", "readLimits", "(LModuleBytes$Table;)V"⟩) ∈ wAll := wa_s (y := ⟨"ModuleBytes$ModuleReader", "readLimits", "(LModuleBytes$Table;)V"⟩) (n := 4) (by decide +kernel)
theorem sel_Mr_readMemory : (Cond.selects "ModuleBytes$ModuleReader" ⟨"ModuleBytes$ModuleReader", "readMemory", "(LModuleBytes$Table;)V"⟩ ⟨"ModuleBytes$ModuleReader", "readMemory", "(LModuleBytes$Table;)V"⟩) ∈ wAll := wa_s (y := ⟨"ModuleBytes$ModuleReader", "readMemory", "(LModuleBytes$Table;)V"⟩) (n := 4) (by decide +kernel)
theorem sel_Mr_readGlobal : (Cond.selects "ModuleBytes$ModuleReader" ⟨"ModuleBytes$ModuleReader", "readGlobal", "(LModuleBytes$Table;)V"⟩ ⟨"ModuleBytes$ModuleReader", "readGlobal", "(LModuleBytes$Table;)V"⟩) ∈ wAll := wa_s (y := ⟨"ModuleBytes$ModuleReader", "readGlobal", "(LModuleBytes$Table;)V"⟩) (n := 4) (by decide +kernel)
theorem sel_Mr_readFunction : (Cond.selects "ModuleBytes$ModuleReader" ⟨"ModuleBytes$ModuleReader", "readFunction", "()V"⟩ ⟨"ModuleBytes$ModuleReader", "readFunction", "()V"⟩) ∈ wAll := wa_s (y := ⟨"ModuleBytes$ModuleReader", "readFunction", "()V"⟩) (n := 4) (by decide +kernel)
theorem sel_Mr_readOwnGlobal : (Cond.selects "ModuleBytes$ModuleReader" ⟨"ModuleBytes$ModuleReader", "readOwnGlobal", "()V"⟩ ⟨"ModuleBytes$ModuleReader", "readOwnGlobal", "()V"⟩) ∈ wAll := wa_s (y := ⟨"ModuleBytes$ModuleReader", "readOwnGlobal", "()V"⟩) (n := 4) (by decide +kernel)
theorem sel_Xr_openBlock : (Cond.selects "ModuleBytes$ExpressionReader" ⟨"ModuleBytes$ExpressionReader", "openBlock", "(Z)V"⟩ ⟨"ModuleBytes$ExpressionReader", "openBlock", "(Z)V"⟩) ∈ wAll := wa_s (y := ⟨"ModuleBytes$ExpressionReader", "openBlock", "(Z)V"⟩) (n := 4) (by decide +kernel)
theorem sel_Xr_turnToElse : (Cond.selects "ModuleBytes$ExpressionReader" ⟨"ModuleBytes$ExpressionReader", "turnToElse", "(I)V"⟩ ⟨"ModuleBytes$ExpressionReader", "turnToElse", "(I)V"⟩) ∈ wAll := wa_s (y := ⟨"ModuleBytes$ExpressionReader", "turnToElse", "(I)V"⟩) (n := 4) (by decide +kernel)
theorem sel_Xr_shapeBehind252 : (Cond.selects "ModuleBytes$ExpressionReader" ⟨"ModuleBytes$ExpressionReader", "shapeBehind252", "(I)I"⟩ ⟨"ModuleBytes$ExpressionReader", "shapeBehind252", "(I)I"⟩) ∈ wAll := wa_s (y := ⟨"ModuleBytes$ExpressionReader", "shapeBehind252", "(I)I"⟩) (n := 4) (by decide +kernel)
theorem sel_Xr_readOperands : (Cond.selects "ModuleBytes$ExpressionReader" ⟨"ModuleBytes$ExpressionReader", "readOperands", "(II)V"⟩ ⟨"ModuleBytes$ExpressionReader", "readOperands", "(II)V"⟩) ∈ wAll := wa_s (y := ⟨"ModuleBytes$ExpressionReader", "readOperands", "(II)V"⟩) (n := 4) (by decide +kernel)
theorem sel_Mr_readExport : (Cond.selects "ModuleBytes$ModuleReader" ⟨"ModuleBytes$ModuleReader", "readExport", "()V"⟩ ⟨"ModuleBytes$ModuleReader", "readExport", "()V"⟩) ∈ wAll := wa_s (y := ⟨"ModuleBytes$ModuleReader", "readExport", "()V"⟩) (n := 4) (by decide +kernel)
theorem sel_Mr_readElement : (Cond.selects "ModuleBytes$ModuleReader" ⟨"ModuleBytes$ModuleReader", "readElement", "()V"⟩ ⟨"ModuleBytes$ModuleReader", "readElement", "()V"⟩) ∈ wAll := wa_s (y := ⟨"ModuleBytes$ModuleReader", "readElement", "()V"⟩) (n := 4) (by decide +kernel)
theorem sel_Mr_readElementType : (Cond.selects "ModuleBytes$ModuleReader" ⟨"ModuleBytes$ModuleReader", "readElementType", "(I)I"⟩ ⟨"ModuleBytes$ModuleReader", "readElementType", "(I)I"⟩) ∈ wAll := wa_s (y := ⟨"ModuleBytes$ModuleReader", "readElementType", "(I)I"⟩) (n := 4) (by decide +kernel)
theorem sel_Mr_readBody : (Cond.selects "ModuleBytes$ModuleReader" ⟨"ModuleBytes$ModuleReader", "readBody", "()V"⟩ ⟨"ModuleBytes$ModuleReader", "readBody", "()V"⟩) ∈ wAll := wa_s (y := ⟨"ModuleBytes$ModuleReader", "readBody", "()V"⟩) (n := 4) (by decide +kernel)
theorem sel_Mr_readLocals : (Cond.selects "ModuleBytes$ModuleReader" ⟨"ModuleBytes$ModuleReader", "readLocals", "(LModuleBytes$Table;)V"⟩ ⟨"ModuleBytes$ModuleReader", "readLocals", "(LModuleBytes$Table;)V"⟩) ∈ wAll := wa_s (y := ⟨"ModuleBytes$ModuleReader", "readLocals", "(LModuleBytes$Table;)V"⟩) (n := 4) (by decide +kernel)
theorem sel_Mr_readData : (Cond.selects "ModuleBytes$ModuleReader" ⟨"ModuleBytes$ModuleReader", "readData", "()V"⟩ ⟨"ModuleBytes$ModuleReader", "readData", "()V"⟩) ∈ wAll := wa_s (y := ⟨"ModuleBytes$ModuleReader", "readData", "()V"⟩) (n := 4) (by decide +kernel)
theorem sel_Mr_compareCounts : (Cond.selects "ModuleBytes$ModuleReader" ⟨"ModuleBytes$ModuleReader", "compareCounts", "()V"⟩ ⟨"ModuleBytes$ModuleReader", "compareCounts", "()V"⟩) ∈ wAll := wa_s (y := ⟨"ModuleBytes$ModuleReader", "compareCounts", "()V"⟩) (n := 4) (by decide +kernel)
theorem sel_Md_feedOne : (Cond.selects "ModuleBytesModel" ⟨"ModuleBytesModel", "feedOne", "(I)V"⟩ ⟨"ModuleBytesModel", "feedOne", "(I)V"⟩) ∈ wAll := wa_s (y := ⟨"ModuleBytesModel", "feedOne", "(I)V"⟩) (n := 44) (by decide +kernel)
theorem sel_Md_read : (Cond.selects "ModuleBytesModel" ⟨"ModuleBytesModel", "read", "(I)V"⟩ ⟨"ModuleBytesModel", "read", "(I)V"⟩) ∈ wAll := wa_s (y := ⟨"ModuleBytesModel", "read", "(I)V"⟩) (n := 44) (by decide +kernel)
theorem sel_Md_takeBetween : (Cond.selects "ModuleBytesModel" ⟨"ModuleBytesModel", "takeBetween", "(III)I"⟩ ⟨"ModuleBytesModel", "takeBetween", "(III)I"⟩) ∈ wAll := wa_s (y := ⟨"ModuleBytesModel", "takeBetween", "(III)I"⟩) (n := 44) (by decide +kernel)
theorem sel_Md_take : (Cond.selects "ModuleBytesModel" ⟨"ModuleBytesModel", "take", "()I"⟩ ⟨"ModuleBytesModel", "take", "()I"⟩) ∈ wAll := wa_s (y := ⟨"ModuleBytesModel", "take", "()I"⟩) (n := 44) (by decide +kernel)
theorem sel_Md_stop : (Cond.selects "ModuleBytesModel" ⟨"ModuleBytesModel", "stop", "(II)V"⟩ ⟨"ModuleBytesModel", "stop", "(II)V"⟩) ∈ wAll := wa_s (y := ⟨"ModuleBytesModel", "stop", "(II)V"⟩) (n := 44) (by decide +kernel)
theorem sel_Md_want : (Cond.selects "ModuleBytesModel" ⟨"ModuleBytesModel", "want", "(I)V"⟩ ⟨"ModuleBytesModel", "want", "(I)V"⟩) ∈ wAll := wa_s (y := ⟨"ModuleBytesModel", "want", "(I)V"⟩) (n := 44) (by decide +kernel)
theorem sel_Md_next : (Cond.selects "ModuleBytesModel" ⟨"ModuleBytesModel", "next", "()V"⟩ ⟨"ModuleBytesModel", "next", "()V"⟩) ∈ wAll := wa_s (y := ⟨"ModuleBytesModel", "next", "()V"⟩) (n := 44) (by decide +kernel)
theorem sel_Md_takeU32 : (Cond.selects "ModuleBytesModel" ⟨"ModuleBytesModel", "takeU32", "()J"⟩ ⟨"ModuleBytesModel", "takeU32", "()J"⟩) ∈ wAll := wa_s (y := ⟨"ModuleBytesModel", "takeU32", "()J"⟩) (n := 44) (by decide +kernel)
theorem sel_Md_takeName : (Cond.selects "ModuleBytesModel" ⟨"ModuleBytesModel", "takeName", "()V"⟩ ⟨"ModuleBytesModel", "takeName", "()V"⟩) ∈ wAll := wa_s (y := ⟨"ModuleBytesModel", "takeName", "()V"⟩) (n := 44) (by decide +kernel)
theorem sel_Md_skip : (Cond.selects "ModuleBytesModel" ⟨"ModuleBytesModel", "skip", "(J)V"⟩ ⟨"ModuleBytesModel", "skip", "(J)V"⟩) ∈ wAll := wa_s (y := ⟨"ModuleBytesModel", "skip", "(J)V"⟩) (n := 44) (by decide +kernel)
theorem sel_Md_character : (Cond.selects "ModuleBytesModel" ⟨"ModuleBytesModel", "character", "(II)I"⟩ ⟨"ModuleBytesModel", "character", "(II)I"⟩) ∈ wAll := wa_s (y := ⟨"ModuleBytesModel", "character", "(II)I"⟩) (n := 44) (by decide +kernel)
theorem sel_Md_takeType : (Cond.selects "ModuleBytesModel" ⟨"ModuleBytesModel", "takeType", "(Z)V"⟩ ⟨"ModuleBytesModel", "takeType", "(Z)V"⟩) ∈ wAll := wa_s (y := ⟨"ModuleBytesModel", "takeType", "(Z)V"⟩) (n := 44) (by decide +kernel)
theorem sel_Md_thing : (Cond.selects "ModuleBytesModel" ⟨"ModuleBytesModel", "thing", "(I)I"⟩ ⟨"ModuleBytesModel", "thing", "(I)I"⟩) ∈ wAll := wa_s (y := ⟨"ModuleBytesModel", "thing", "(I)I"⟩) (n := 44) (by decide +kernel)
theorem sel_Md_wantTwo : (Cond.selects "ModuleBytesModel" ⟨"ModuleBytesModel", "wantTwo", "(II)V"⟩ ⟨"ModuleBytesModel", "wantTwo", "(II)V"⟩) ∈ wAll := wa_s (y := ⟨"ModuleBytesModel", "wantTwo", "(II)V"⟩) (n := 44) (by decide +kernel)
theorem sel_Md_takeImport : (Cond.selects "ModuleBytesModel" ⟨"ModuleBytesModel", "takeImport", "()V"⟩ ⟨"ModuleBytesModel", "takeImport", "()V"⟩) ∈ wAll := wa_s (y := ⟨"ModuleBytesModel", "takeImport", "()V"⟩) (n := 44) (by decide +kernel)
theorem sel_Md_takeElement : (Cond.selects "ModuleBytesModel" ⟨"ModuleBytesModel", "takeElement", "()V"⟩ ⟨"ModuleBytesModel", "takeElement", "()V"⟩) ∈ wAll := wa_s (y := ⟨"ModuleBytesModel", "takeElement", "()V"⟩) (n := 44) (by decide +kernel)
theorem sel_Md_wantRow : (Cond.selects "ModuleBytesModel" ⟨"ModuleBytesModel", "wantRow", "(I)V"⟩ ⟨"ModuleBytesModel", "wantRow", "(I)V"⟩) ∈ wAll := wa_s (y := ⟨"ModuleBytesModel", "wantRow", "(I)V"⟩) (n := 44) (by decide +kernel)
theorem sel_Md_takeBody : (Cond.selects "ModuleBytesModel" ⟨"ModuleBytesModel", "takeBody", "()V"⟩ ⟨"ModuleBytesModel", "takeBody", "()V"⟩) ∈ wAll := wa_s (y := ⟨"ModuleBytesModel", "takeBody", "()V"⟩) (n := 44) (by decide +kernel)
theorem sel_Md_openPart : (Cond.selects "ModuleBytesModel" ⟨"ModuleBytesModel", "openPart", "()V"⟩ ⟨"ModuleBytesModel", "openPart", "()V"⟩) ∈ wAll := wa_s (y := ⟨"ModuleBytesModel", "openPart", "()V"⟩) (n := 44) (by decide +kernel)
theorem sel_Md_takeData : (Cond.selects "ModuleBytesModel" ⟨"ModuleBytesModel", "takeData", "()V"⟩ ⟨"ModuleBytesModel", "takeData", "()V"⟩) ∈ wAll := wa_s (y := ⟨"ModuleBytesModel", "takeData", "()V"⟩) (n := 44) (by decide +kernel)
theorem sel_Md_nextOther : (Cond.selects "ModuleBytesModel" ⟨"ModuleBytesModel", "nextOther", "(I)V"⟩ ⟨"ModuleBytesModel", "nextOther", "(I)V"⟩) ∈ wAll := wa_s (y := ⟨"ModuleBytesModel", "nextOther", "(I)V"⟩) (n := 44) (by decide +kernel)
theorem sel_Md_takeExpression : (Cond.selects "ModuleBytesModel" ⟨"ModuleBytesModel", "takeExpression", "()V"⟩ ⟨"ModuleBytesModel", "takeExpression", "()V"⟩) ∈ wAll := wa_s (y := ⟨"ModuleBytesModel", "takeExpression", "()V"⟩) (n := 44) (by decide +kernel)
theorem sel_Md_takeLocals : (Cond.selects "ModuleBytesModel" ⟨"ModuleBytesModel", "takeLocals", "()V"⟩ ⟨"ModuleBytesModel", "takeLocals", "()V"⟩) ∈ wAll := wa_s (y := ⟨"ModuleBytesModel", "takeLocals", "()V"⟩) (n := 44) (by decide +kernel)
theorem sel_Md_takeInstruction : (Cond.selects "ModuleBytesModel" ⟨"ModuleBytesModel", "takeInstruction", "()V"⟩ ⟨"ModuleBytesModel", "takeInstruction", "()V"⟩) ∈ wAll := wa_s (y := ⟨"ModuleBytesModel", "takeInstruction", "()V"⟩) (n := 44) (by decide +kernel)
theorem sel_Md_takeBlock : (Cond.selects "ModuleBytesModel" ⟨"ModuleBytesModel", "takeBlock", "(I)V"⟩ ⟨"ModuleBytesModel", "takeBlock", "(I)V"⟩) ∈ wAll := wa_s (y := ⟨"ModuleBytesModel", "takeBlock", "(I)V"⟩) (n := 44) (by decide +kernel)
theorem sel_Md_takeSigned : (Cond.selects "ModuleBytesModel" ⟨"ModuleBytesModel", "takeSigned", "(I)J"⟩ ⟨"ModuleBytesModel", "takeSigned", "(I)J"⟩) ∈ wAll := wa_s (y := ⟨"ModuleBytesModel", "takeSigned", "(I)J"⟩) (n := 44) (by decide +kernel)
theorem sel_Md_takeRare : (Cond.selects "ModuleBytesModel" ⟨"ModuleBytesModel", "takeRare", "(II)V"⟩ ⟨"ModuleBytesModel", "takeRare", "(II)V"⟩) ∈ wAll := wa_s (y := ⟨"ModuleBytesModel", "takeRare", "(II)V"⟩) (n := 44) (by decide +kernel)
theorem sel_Md_takeOther : (Cond.selects "ModuleBytesModel" ⟨"ModuleBytesModel", "takeOther", "(I)V"⟩ ⟨"ModuleBytesModel", "takeOther", "(I)V"⟩) ∈ wAll := wa_s (y := ⟨"ModuleBytesModel", "takeOther", "(I)V"⟩) (n := 44) (by decide +kernel)
theorem sel_Md_takeSection : (Cond.selects "ModuleBytesModel" ⟨"ModuleBytesModel", "takeSection", "()V"⟩ ⟨"ModuleBytesModel", "takeSection", "()V"⟩) ∈ wAll := wa_s (y := ⟨"ModuleBytesModel", "takeSection", "()V"⟩) (n := 44) (by decide +kernel)
theorem sel_Md_closePart : (Cond.selects "ModuleBytesModel" ⟨"ModuleBytesModel", "closePart", "()V"⟩ ⟨"ModuleBytesModel", "closePart", "()V"⟩) ∈ wAll := wa_s (y := ⟨"ModuleBytesModel", "closePart", "()V"⟩) (n := 44) (by decide +kernel)
theorem sel_Md_count : (Cond.selects "ModuleBytesModel" ⟨"ModuleBytesModel", "count", "(I)I"⟩ ⟨"ModuleBytesModel", "count", "(I)I"⟩) ∈ wAll := wa_s (y := ⟨"ModuleBytesModel", "count", "(I)I"⟩) (n := 44) (by decide +kernel)
theorem sel_Md_countOf : (Cond.selects "ModuleBytesModel" ⟨"ModuleBytesModel", "countOf", "(I)I"⟩ ⟨"ModuleBytesModel", "countOf", "(I)I"⟩) ∈ wAll := wa_s (y := ⟨"ModuleBytesModel", "countOf", "(I)I"⟩) (n := 44) (by decide +kernel)
theorem sel_Md_thingOf : (Cond.selects "ModuleBytesModel" ⟨"ModuleBytesModel", "thingOf", "(II)I"⟩ ⟨"ModuleBytesModel", "thingOf", "(II)I"⟩) ∈ wAll := wa_s (y := ⟨"ModuleBytesModel", "thingOf", "(II)I"⟩) (n := 44) (by decide +kernel)
theorem sel_Md_number : (Cond.selects "ModuleBytesModel" ⟨"ModuleBytesModel", "number", "()J"⟩ ⟨"ModuleBytesModel", "number", "()J"⟩) ∈ wAll := wa_s (y := ⟨"ModuleBytesModel", "number", "()J"⟩) (n := 44) (by decide +kernel)
theorem sel_Md_lookImport : (Cond.selects "ModuleBytesModel" ⟨"ModuleBytesModel", "lookImport", "(II)J"⟩ ⟨"ModuleBytesModel", "lookImport", "(II)J"⟩) ∈ wAll := wa_s (y := ⟨"ModuleBytesModel", "lookImport", "(II)J"⟩) (n := 44) (by decide +kernel)
theorem sel_Md_passName : (Cond.selects "ModuleBytesModel" ⟨"ModuleBytesModel", "passName", "()V"⟩ ⟨"ModuleBytesModel", "passName", "()V"⟩) ∈ wAll := wa_s (y := ⟨"ModuleBytesModel", "passName", "()V"⟩) (n := 44) (by decide +kernel)
theorem sel_Md_limit : (Cond.selects "ModuleBytesModel" ⟨"ModuleBytesModel", "limit", "(Z)J"⟩ ⟨"ModuleBytesModel", "limit", "(Z)J"⟩) ∈ wAll := wa_s (y := ⟨"ModuleBytesModel", "limit", "(Z)J"⟩) (n := 44) (by decide +kernel)
theorem sel_Md_placeOf : (Cond.selects "ModuleBytesModel" ⟨"ModuleBytesModel", "placeOf", "(II)I"⟩ ⟨"ModuleBytesModel", "placeOf", "(II)I"⟩) ∈ wAll := wa_s (y := ⟨"ModuleBytesModel", "placeOf", "(II)I"⟩) (n := 44) (by decide +kernel)
theorem sel_Md_expressionOf : (Cond.selects "ModuleBytesModel" ⟨"ModuleBytesModel", "expressionOf", "(II)I"⟩ ⟨"ModuleBytesModel", "expressionOf", "(II)I"⟩) ∈ wAll := wa_s (y := ⟨"ModuleBytesModel", "expressionOf", "(II)I"⟩) (n := 44) (by decide +kernel)
theorem sel_Md_exportNumber : (Cond.selects "ModuleBytesModel" ⟨"ModuleBytesModel", "exportNumber", "()J"⟩ ⟨"ModuleBytesModel", "exportNumber", "()J"⟩) ∈ wAll := wa_s (y := ⟨"ModuleBytesModel", "exportNumber", "()J"⟩) (n := 44) (by decide +kernel)
theorem sel_Md_lookElement : (Cond.selects "ModuleBytesModel" ⟨"ModuleBytesModel", "lookElement", "(II)J"⟩ ⟨"ModuleBytesModel", "lookElement", "(II)J"⟩) ∈ wAll := wa_s (y := ⟨"ModuleBytesModel", "lookElement", "(II)J"⟩) (n := 44) (by decide +kernel)
theorem sel_Md_lookBody : (Cond.selects "ModuleBytesModel" ⟨"ModuleBytesModel", "lookBody", "(II)J"⟩ ⟨"ModuleBytesModel", "lookBody", "(II)J"⟩) ∈ wAll := wa_s (y := ⟨"ModuleBytesModel", "lookBody", "(II)J"⟩) (n := 44) (by decide +kernel)
theorem sel_Md_lookData : (Cond.selects "ModuleBytesModel" ⟨"ModuleBytesModel", "lookData", "(II)J"⟩ ⟨"ModuleBytesModel", "lookData", "(II)J"⟩) ∈ wAll := wa_s (y := ⟨"ModuleBytesModel", "lookData", "(II)J"⟩) (n := 44) (by decide +kernel)
theorem sel_Md_lookRest : (Cond.selects "ModuleBytesModel" ⟨"ModuleBytesModel", "lookRest", "(II)J"⟩ ⟨"ModuleBytesModel", "lookRest", "(II)J"⟩) ∈ wAll := wa_s (y := ⟨"ModuleBytesModel", "lookRest", "(II)J"⟩) (n := 44) (by decide +kernel)
