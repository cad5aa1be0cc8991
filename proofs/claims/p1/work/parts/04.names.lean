/-! Names, field tables, words: printed by wip/whole/gen/names.py -/
def fh_T : List Cond := lw_tbl.filter goodWord
theorem fh_mem {w : Cond} (i : Nat) (h : tables_1[i]? = some w) (hg : goodWord w = true) : w ∈ fh_T := List.mem_filter.mpr ⟨List.mem_append_right _ (List.mem_of_getElem? h), hg⟩
theorem fh_m1 {w : Cond} (i : Nat) (h : tables_1_1[i]? = some w) (hg : goodWord w = true) : w ∈ fh_T := List.mem_filter.mpr ⟨List.mem_append_right _ (show w ∈ tables_1 from List.mem_append_left _ (List.mem_of_getElem? h)), hg⟩
theorem fh_m2 {w : Cond} (i : Nat) (h : tables_1_2[i]? = some w) (hg : goodWord w = true) : w ∈ fh_T := List.mem_filter.mpr ⟨List.mem_append_right _ (show w ∈ tables_1 from List.mem_append_right _ (List.mem_append_left _ (List.mem_of_getElem? h))), hg⟩
theorem fh_m3 {w : Cond} (i : Nat) (h : tables_1_3[i]? = some w) (hg : goodWord w = true) : w ∈ fh_T := List.mem_filter.mpr ⟨List.mem_append_right _ (show w ∈ tables_1 from List.mem_append_right _ (List.mem_append_right _ (List.mem_append_left _ (List.mem_of_getElem? h)))), hg⟩
theorem fh_m4 {w : Cond} (i : Nat) (h : tables_1_4[i]? = some w) (hg : goodWord w = true) : w ∈ fh_T := List.mem_filter.mpr ⟨List.mem_append_right _ (show w ∈ tables_1 from List.mem_append_right _ (List.mem_append_right _ (List.mem_append_right _ (List.mem_append_left _ (List.mem_of_getElem? h))))), hg⟩
theorem fh_m5 {w : Cond} (i : Nat) (h : tables_1_5[i]? = some w) (hg : goodWord w = true) : w ∈ fh_T := List.mem_filter.mpr ⟨List.mem_append_right _ (show w ∈ tables_1 from List.mem_append_right _ (List.mem_append_right _ (List.mem_append_right _ (List.mem_append_right _ (List.mem_append_left _ (List.mem_of_getElem? h)))))), hg⟩
theorem fh_m6 {w : Cond} (i : Nat) (h : tables_1_6[i]? = some w) (hg : goodWord w = true) : w ∈ fh_T := List.mem_filter.mpr ⟨List.mem_append_right _ (show w ∈ tables_1 from List.mem_append_right _ (List.mem_append_right _ (List.mem_append_right _ (List.mem_append_right _ (List.mem_append_right _ (List.mem_of_getElem? h)))))), hg⟩
theorem fh_memS {w : Cond} (i : Nat) (h : (k2_sels lw_privs)[i]? = some w) (hg : goodWord w = true) : w ∈ fh_T := List.mem_filter.mpr ⟨List.mem_append_left _ (List.mem_of_getElem? h), hg⟩
theorem fh_Tgood : ∀ w ∈ fh_T, (w.onTables && w.keeps) = true ∨ ∃ ty, w = .arrayClass ty := fun w h => good_of_word (List.mem_filter.mp h).2
theorem fh_good {w0 w1 : Cond} (h1 : w1 ∈ fh_T) : GoodIn (w0 :: fh_T) (w1 :: fh_T) := fun w h => (List.mem_cons.mp h).elim (fun e => e ▸ ⟨List.mem_cons_of_mem _ h1, fh_Tgood _ h1⟩) (fun h => ⟨List.mem_cons_of_mem _ h, fh_Tgood _ h⟩)
theorem fh_memAll {C : String} {T : u_T} {N : Nat} (is : List Nat) (h : (List.range N).all (fun k => decide (tables_1[is.getD k 0]? = some (u_lay C T k)) && goodWord (u_lay C T k)) = true) : ∀ w ∈ u_ws C T N, w ∈ fh_T := by
  intro w hw
  obtain ⟨k, hk, rfl⟩ := List.mem_map.mp hw
  have h1 := List.all_eq_true.mp h k hk
  simp only [Bool.and_eq_true, decide_eq_true_eq] at h1
  exact fh_mem _ h1.1 h1.2
/-- the instructions of a method, decoded: one by its place in the list -/
theorem fh_d {L : List (Nat × Instr × Nat)} {c : ByteArray} (h : ∀ q ∈ L, decode c q.1 = .ok (q.2.1, q.2.2)) (k : Nat) {pc : Nat} {i : Instr} {n : Nat} (e : L[k]? = some (pc, i, n)) : decode c pc = .ok (i, n) := h (pc, i, n) (List.mem_of_getElem? e)
def T_FS : u_T := fun k => match k with
  | 0 => ("FormulaSetter", "text", "[C", true)
  | 1 => ("FormulaSetter", "reader", "LFormulaSetter$Reader;", true)
  | 2 => ("FormulaSetter", "typesetter", "LFormulaSetter$Typesetter;", true)
  | 3 => ("FormulaSetter", "length", "I", false)
  | 4 => ("FormulaSetter", "wholeWidth", "I", false)
  | 5 => ("FormulaSetter", "wholeHeight", "I", false)
  | _ => ("FormulaSetter", "wholeDepth", "I", false)
def t_FS : Nat → FieldType := fun k => match k with
  | 0 => (.array .char)
  | 1 => (.object "FormulaSetter$Reader")
  | 2 => (.object "FormulaSetter$Typesetter")
  | 3 => .int
  | 4 => .int
  | 5 => .int
  | _ => .int
theorem n_FS : ∀ a, a < 7 → ∀ b, b < 7 → a ≠ b → (T_FS a).2.1 ≠ (T_FS b).2.1 := by decide +kernel
theorem k_FS : ∀ k, k < 7 → parseFieldDescriptor (T_FS k).2.2.1 = some (t_FS k) := by decide +kernel
theorem i_FS : ∀ w ∈ u_ws "FormulaSetter" T_FS 7, w ∈ fh_T := fh_memAll [262, 264, 266, 268, 270, 272, 274] (by decide +kernel)
def T_Rd : u_T := fun k => match k with
  | 0 => ("FormulaSetter$Reader", "nuclei", "[LFormulaSetter$Nucleus;", true)
  | 1 => ("FormulaSetter$Reader", "lines", "[LFormulaSetter$Line;", true)
  | 2 => ("FormulaSetter$Reader", "nucleusCount", "I", false)
  | 3 => ("FormulaSetter$Reader", "lineCount", "I", false)
  | 4 => ("FormulaSetter$Reader", "text", "[C", false)
  | 5 => ("FormulaSetter$Reader", "length", "I", false)
  | _ => ("FormulaSetter$Reader", "at", "I", false)
def t_Rd : Nat → FieldType := fun k => match k with
  | 0 => (.array (.object "FormulaSetter$Nucleus"))
  | 1 => (.array (.object "FormulaSetter$Line"))
  | 2 => .int
  | 3 => .int
  | 4 => (.array .char)
  | 5 => .int
  | _ => .int
theorem n_Rd : ∀ a, a < 7 → ∀ b, b < 7 → a ≠ b → (T_Rd a).2.1 ≠ (T_Rd b).2.1 := by decide +kernel
theorem k_Rd : ∀ k, k < 7 → parseFieldDescriptor (T_Rd k).2.2.1 = some (t_Rd k) := by decide +kernel
theorem i_Rd : ∀ w ∈ u_ws "FormulaSetter$Reader" T_Rd 7, w ∈ fh_T := fh_memAll [187, 189, 191, 193, 195, 197, 199] (by decide +kernel)
def T_Nu : u_T := fun k => match k with
  | 0 => ("FormulaSetter$Box", "w", "I", false)
  | 1 => ("FormulaSetter$Box", "h", "I", false)
  | 2 => ("FormulaSetter$Box", "d", "I", false)
  | 3 => ("FormulaSetter$Box", "from", "I", false)
  | 4 => ("FormulaSetter$Box", "end", "I", false)
  | 5 => ("FormulaSetter$Nucleus", "kind", "LFormulaSetter$Kind;", false)
  | 6 => ("FormulaSetter$Nucleus", "atom", "LFormulaSetter$Atom;", false)
  | 7 => ("FormulaSetter$Nucleus", "code", "I", false)
  | 8 => ("FormulaSetter$Nucleus", "rightCode", "I", false)
  | 9 => ("FormulaSetter$Nucleus", "first", "LFormulaSetter$Nucleus;", false)
  | 10 => ("FormulaSetter$Nucleus", "second", "LFormulaSetter$Nucleus;", false)
  | 11 => ("FormulaSetter$Nucleus", "inside", "LFormulaSetter$Line;", false)
  | 12 => ("FormulaSetter$Nucleus", "upper", "LFormulaSetter$Nucleus;", false)
  | 13 => ("FormulaSetter$Nucleus", "lower", "LFormulaSetter$Nucleus;", false)
  | _ => ("FormulaSetter$Nucleus", "next", "LFormulaSetter$Nucleus;", false)
def t_Nu : Nat → FieldType := fun k => match k with
  | 0 => .int
  | 1 => .int
  | 2 => .int
  | 3 => .int
  | 4 => .int
  | 5 => (.object "FormulaSetter$Kind")
  | 6 => (.object "FormulaSetter$Atom")
  | 7 => .int
  | 8 => .int
  | 9 => (.object "FormulaSetter$Nucleus")
  | 10 => (.object "FormulaSetter$Nucleus")
  | 11 => (.object "FormulaSetter$Line")
  | 12 => (.object "FormulaSetter$Nucleus")
  | 13 => (.object "FormulaSetter$Nucleus")
  | _ => (.object "FormulaSetter$Nucleus")
theorem n_Nu : ∀ a, a < 15 → ∀ b, b < 15 → a ≠ b → (T_Nu a).2.1 ≠ (T_Nu b).2.1 := by decide +kernel
theorem k_Nu : ∀ k, k < 15 → parseFieldDescriptor (T_Nu k).2.2.1 = some (t_Nu k) := by decide +kernel
theorem i_Nu : ∀ w ∈ u_ws "FormulaSetter$Nucleus" T_Nu 15, w ∈ fh_T := fh_memAll [134, 136, 138, 140, 142, 114, 116, 118, 120, 122, 124, 126, 128, 130, 132] (by decide +kernel)
def T_Li : u_T := fun k => match k with
  | 0 => ("FormulaSetter$Box", "w", "I", false)
  | 1 => ("FormulaSetter$Box", "h", "I", false)
  | 2 => ("FormulaSetter$Box", "d", "I", false)
  | 3 => ("FormulaSetter$Box", "from", "I", false)
  | 4 => ("FormulaSetter$Box", "end", "I", false)
  | 5 => ("FormulaSetter$Line", "first", "LFormulaSetter$Nucleus;", false)
  | 6 => ("FormulaSetter$Line", "row", "I", false)
  | 7 => ("FormulaSetter$Line", "column", "I", false)
  | _ => ("FormulaSetter$Line", "next", "LFormulaSetter$Line;", false)
def t_Li : Nat → FieldType := fun k => match k with
  | 0 => .int
  | 1 => .int
  | 2 => .int
  | 3 => .int
  | 4 => .int
  | 5 => (.object "FormulaSetter$Nucleus")
  | 6 => .int
  | 7 => .int
  | _ => (.object "FormulaSetter$Line")
theorem n_Li : ∀ a, a < 9 → ∀ b, b < 9 → a ≠ b → (T_Li a).2.1 ≠ (T_Li b).2.1 := by decide +kernel
theorem k_Li : ∀ k, k < 9 → parseFieldDescriptor (T_Li k).2.2.1 = some (t_Li k) := by decide +kernel
theorem i_Li : ∀ w ∈ u_ws "FormulaSetter$Line" T_Li 9, w ∈ fh_T := fh_memAll [174, 175, 176, 177, 178, 166, 168, 170, 172] (by decide +kernel)
def T_Ty : u_T := fun k => match k with
  | 0 => ("FormulaSetter$Typesetter", "sheet", "LFormulaSetter$Sheet;", true)
  | _ => ("FormulaSetter$Typesetter", "grid", "LFormulaSetter$Grid;", true)
def t_Ty : Nat → FieldType := fun k => match k with
  | 0 => (.object "FormulaSetter$Sheet")
  | _ => (.object "FormulaSetter$Grid")
theorem n_Ty : ∀ a, a < 2 → ∀ b, b < 2 → a ≠ b → (T_Ty a).2.1 ≠ (T_Ty b).2.1 := by decide +kernel
theorem k_Ty : ∀ k, k < 2 → parseFieldDescriptor (T_Ty k).2.2.1 = some (t_Ty k) := by decide +kernel
theorem i_Ty : ∀ w ∈ u_ws "FormulaSetter$Typesetter" T_Ty 2, w ∈ fh_T := fh_memAll [250, 252] (by decide +kernel)
def T_Sh : u_T := fun k => match k with
  | 0 => ("FormulaSetter$Sheet", "facts", "[I", true)
  | _ => ("FormulaSetter$Sheet", "count", "I", false)
def t_Sh : Nat → FieldType := fun k => match k with
  | 0 => (.array .int)
  | _ => .int
theorem n_Sh : ∀ a, a < 2 → ∀ b, b < 2 → a ≠ b → (T_Sh a).2.1 ≠ (T_Sh b).2.1 := by decide +kernel
theorem k_Sh : ∀ k, k < 2 → parseFieldDescriptor (T_Sh k).2.2.1 = some (t_Sh k) := by decide +kernel
theorem i_Sh : ∀ w ∈ u_ws "FormulaSetter$Sheet" T_Sh 2, w ∈ fh_T := fh_memAll [219, 221] (by decide +kernel)
def T_Gr : u_T := fun k => match k with
  | 0 => ("FormulaSetter$Grid", "columnWidths", "[I", true)
  | 1 => ("FormulaSetter$Grid", "rowHeights", "[I", true)
  | 2 => ("FormulaSetter$Grid", "rowDepths", "[I", true)
  | 3 => ("FormulaSetter$Grid", "rows", "I", false)
  | _ => ("FormulaSetter$Grid", "columns", "I", false)
def t_Gr : Nat → FieldType := fun k => match k with
  | 0 => (.array .int)
  | 1 => (.array .int)
  | 2 => (.array .int)
  | 3 => .int
  | _ => .int
theorem n_Gr : ∀ a, a < 5 → ∀ b, b < 5 → a ≠ b → (T_Gr a).2.1 ≠ (T_Gr b).2.1 := by decide +kernel
theorem k_Gr : ∀ k, k < 5 → parseFieldDescriptor (T_Gr k).2.2.1 = some (t_Gr k) := by decide +kernel
theorem i_Gr : ∀ w ∈ u_ws "FormulaSetter$Grid" T_Gr 5, w ∈ fh_T := fh_memAll [236, 238, 240, 242, 244] (by decide +kernel)
def T_Mo : u_T := fun k => match k with
  | 0 => ("FormulaSetterModel", "thrown", "I", false)
  | 1 => ("FormulaSetterModel", "count", "I", false)
  | 2 => ("FormulaSetterModel", "text", "[I", true)
  | 3 => ("FormulaSetterModel", "at", "I", false)
  | 4 => ("FormulaSetterModel", "wrong", "Z", false)
  | 5 => ("FormulaSetterModel", "nodes", "I", false)
  | 6 => ("FormulaSetterModel", "nuclei", "I", false)
  | 7 => ("FormulaSetterModel", "kind", "[I", true)
  | 8 => ("FormulaSetterModel", "code", "[I", true)
  | 9 => ("FormulaSetterModel", "code2", "[I", true)
  | 10 => ("FormulaSetterModel", "sort", "[I", true)
  | 11 => ("FormulaSetterModel", "deep", "[I", true)
  | 12 => ("FormulaSetterModel", "first", "[I", true)
  | 13 => ("FormulaSetterModel", "next", "[I", true)
  | 14 => ("FormulaSetterModel", "row", "[I", true)
  | 15 => ("FormulaSetterModel", "column", "[I", true)
  | 16 => ("FormulaSetterModel", "one", "[I", true)
  | 17 => ("FormulaSetterModel", "two", "[I", true)
  | 18 => ("FormulaSetterModel", "upper", "[I", true)
  | 19 => ("FormulaSetterModel", "lower", "[I", true)
  | 20 => ("FormulaSetterModel", "owner", "[I", true)
  | 21 => ("FormulaSetterModel", "script", "[Z", true)
  | 22 => ("FormulaSetterModel", "open", "I", false)
  | 23 => ("FormulaSetterModel", "how", "[I", true)
  | 24 => ("FormulaSetterModel", "whose", "[I", true)
  | 25 => ("FormulaSetterModel", "list", "[I", true)
  | 26 => ("FormulaSetterModel", "last", "[I", true)
  | 27 => ("FormulaSetterModel", "style", "[I", true)
  | 28 => ("FormulaSetterModel", "cramped", "[Z", true)
  | 29 => ("FormulaSetterModel", "w", "[I", true)
  | 30 => ("FormulaSetterModel", "h", "[I", true)
  | 31 => ("FormulaSetterModel", "d", "[I", true)
  | 32 => ("FormulaSetterModel", "allW", "[I", true)
  | 33 => ("FormulaSetterModel", "allH", "[I", true)
  | 34 => ("FormulaSetterModel", "allD", "[I", true)
  | 35 => ("FormulaSetterModel", "byX", "[I", true)
  | 36 => ("FormulaSetterModel", "lx", "[I", true)
  | 37 => ("FormulaSetterModel", "ly", "[I", true)
  | 38 => ("FormulaSetterModel", "x", "[I", true)
  | 39 => ("FormulaSetterModel", "y", "[I", true)
  | 40 => ("FormulaSetterModel", "become", "[I", true)
  | 41 => ("FormulaSetterModel", "tall", "[I", true)
  | 42 => ("FormulaSetterModel", "bottom", "[I", true)
  | 43 => ("FormulaSetterModel", "columns", "[I", true)
  | 44 => ("FormulaSetterModel", "rowH", "[I", true)
  | 45 => ("FormulaSetterModel", "rowD", "[I", true)
  | 46 => ("FormulaSetterModel", "step", "[I", true)
  | 47 => ("FormulaSetterModel", "cursor", "[I", true)
  | 48 => ("FormulaSetterModel", "pieces", "I", false)
  | 49 => ("FormulaSetterModel", "piece", "[I", true)
  | 50 => ("FormulaSetterModel", "width", "I", false)
  | 51 => ("FormulaSetterModel", "height", "I", false)
  | _ => ("FormulaSetterModel", "depth", "I", false)
def t_Mo : Nat → FieldType := fun k => match k with
  | 0 => .int
  | 1 => .int
  | 2 => (.array .int)
  | 3 => .int
  | 4 => .boolean
  | 5 => .int
  | 6 => .int
  | 7 => (.array .int)
  | 8 => (.array .int)
  | 9 => (.array .int)
  | 10 => (.array .int)
  | 11 => (.array .int)
  | 12 => (.array .int)
  | 13 => (.array .int)
  | 14 => (.array .int)
  | 15 => (.array .int)
  | 16 => (.array .int)
  | 17 => (.array .int)
  | 18 => (.array .int)
  | 19 => (.array .int)
  | 20 => (.array .int)
  | 21 => (.array .boolean)
  | 22 => .int
  | 23 => (.array .int)
  | 24 => (.array .int)
  | 25 => (.array .int)
  | 26 => (.array .int)
  | 27 => (.array .int)
  | 28 => (.array .boolean)
  | 29 => (.array .int)
  | 30 => (.array .int)
  | 31 => (.array .int)
  | 32 => (.array .int)
  | 33 => (.array .int)
  | 34 => (.array .int)
  | 35 => (.array .int)
  | 36 => (.array .int)
  | 37 => (.array .int)
  | 38 => (.array .int)
  | 39 => (.array .int)
  | 40 => (.array .int)
  | 41 => (.array .int)
  | 42 => (.array .int)
  | 43 => (.array .int)
  | 44 => (.array .int)
  | 45 => (.array .int)
  | 46 => (.array .int)
  | 47 => (.array .int)
  | 48 => .int
  | 49 => (.array .int)
  | 50 => .int
  | 51 => .int
  | _ => .int
theorem n_Mo : ∀ a, a < 53 → ∀ b, b < 53 → a ≠ b → (T_Mo a).2.1 ≠ (T_Mo b).2.1 := by decide +kernel
theorem k_Mo : ∀ k, k < 53 → parseFieldDescriptor (T_Mo k).2.2.1 = some (t_Mo k) := by decide +kernel
theorem i_Mo : ∀ w ∈ u_ws "FormulaSetterModel" T_Mo 53, w ∈ fh_T := fh_memAll [913, 915, 917, 919, 921, 923, 925, 927, 929, 931, 933, 935, 937, 939, 941, 943, 945, 947, 949, 951, 953, 955, 957, 959, 961, 963, 965, 967, 969, 971, 973, 975, 977, 979, 981, 983, 985, 987, 989, 991, 993, 995, 997, 999, 1001, 1003, 1005, 1007, 1009, 1011, 1013, 1015, 1017] (by decide +kernel)
/-- the classes whose objects the heap holds: an object names its class by its place here -/
def fh_cl : List vw_C := [("FormulaSetter", T_FS, 7), ("FormulaSetter$Reader", T_Rd, 7), ("FormulaSetter$Nucleus", T_Nu, 15), ("FormulaSetter$Line", T_Li, 9), ("FormulaSetter$Typesetter", T_Ty, 2), ("FormulaSetter$Sheet", T_Sh, 2), ("FormulaSetter$Grid", T_Gr, 5), ("FormulaSetterModel", T_Mo, 53)]
