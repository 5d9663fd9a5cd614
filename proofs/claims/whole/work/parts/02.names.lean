def zd (cc : ByteArray) (pc pc' : Nat) (i : Instr) (n : Nat) : Prop := decode cc pc = .ok (i, n) ∧ pc + n = pc'
def zTb : List Cond := lw_tbl.filter goodWord
theorem zTb_lw {w : Cond} (h : w ∈ zTb) : w ∈ lw_tbl := (List.mem_filter.mp h).1
def R_S : String := "GateRoads$State"
def F_S : u_T := fun k => match k with
  | 0 => ("GateRoads$State", "rooms", "[I", true)
  | 1 => ("GateRoads$State", "roads", "[I", true)
  | 2 => ("GateRoads$State", "entered", "[I", true)
  | 3 => ("GateRoads$State", "closures", "[I", true)
  | 4 => ("GateRoads$State", "travellers", "[I", true)
  | 5 => ("GateRoads$State", "roadCount", "I", false)
  | 6 => ("GateRoads$State", "closureCount", "I", false)
  | _ => ("GateRoads$State", "travellerCount", "I", false)
def t_S : Nat → FieldType := fun k => match k with
  | 0 => .array .int
  | 1 => .array .int
  | 2 => .array .int
  | 3 => .array .int
  | 4 => .array .int
  | 5 => .int
  | 6 => .int
  | _ => .int
theorem n_S : ∀ a, a < 8 → ∀ b, b < 8 → a ≠ b → (F_S a).2.1 ≠ (F_S b).2.1 := by decide +kernel
theorem t_S_ok : ∀ k, k < 8 → parseFieldDescriptor (F_S k).2.2.1 = some (t_S k) := by decide +kernel
theorem i_S : ∀ w ∈ u_ws R_S F_S 8, w ∈ zTb := by decide +kernel
def R_X : String := "GateRoads"
def F_X : u_T := fun k => match k with
  | 0 => ("GateRoads", "now", "LGateRoads$State;", true)
  | 1 => ("GateRoads", "history", "[LGateRoads$State;", true)
  | 2 => ("GateRoads", "changes", "I", false)
  | 3 => ("GateRoads", "slots", "[LGateRoads$State;", true)
  | 4 => ("GateRoads", "saved", "[Z", true)
  | 5 => ("GateRoads", "reason", "I", false)
  | 6 => ("GateRoads", "pad", "LGateRoads$Pad;", true)
  | 7 => ("GateRoads", "carrying", "Z", false)
  | 8 => ("GateRoads", "gates", "LGateRoads$Gates;", true)
  | 9 => ("GateRoads", "onward", "LGateRoads$Onward;", true)
  | 10 => ("GateRoads", "otherOnward", "LGateRoads$Onward;", true)
  | 11 => ("GateRoads", "backward", "LGateRoads$Backward;", true)
  | _ => ("GateRoads", "fewest", "LGateRoads$Fewest;", true)
def t_X : Nat → FieldType := fun k => match k with
  | 0 => .object "GateRoads$State"
  | 1 => .array (.object "GateRoads$State")
  | 2 => .int
  | 3 => .array (.object "GateRoads$State")
  | 4 => .array .boolean
  | 5 => .int
  | 6 => .object "GateRoads$Pad"
  | 7 => .boolean
  | 8 => .object "GateRoads$Gates"
  | 9 => .object "GateRoads$Onward"
  | 10 => .object "GateRoads$Onward"
  | 11 => .object "GateRoads$Backward"
  | _ => .object "GateRoads$Fewest"
theorem n_X : ∀ a, a < 13 → ∀ b, b < 13 → a ≠ b → (F_X a).2.1 ≠ (F_X b).2.1 := by decide +kernel
theorem t_X_ok : ∀ k, k < 13 → parseFieldDescriptor (F_X k).2.2.1 = some (t_X k) := by decide +kernel
theorem i_X : ∀ w ∈ u_ws R_X F_X 13, w ∈ zTb := by decide +kernel
def R_P : String := "GateRoads$Pad"
def F_P : u_T := fun k => match k with
  | 0 => ("GateRoads$Pad", "text", "[C", true)
  | 1 => ("GateRoads$Pad", "length", "I", false)
  | 2 => ("GateRoads$Pad", "at", "I", false)
  | 3 => ("GateRoads$Pad", "wrong", "Z", false)
  | 4 => ("GateRoads$Pad", "kind", "I", false)
  | 5 => ("GateRoads$Pad", "numbers", "[I", true)
  | 6 => ("GateRoads$Pad", "clocks", "[I", true)
  | 7 => ("GateRoads$Pad", "spans", "I", false)
  | _ => ("GateRoads$Pad", "strict", "I", false)
def t_P : Nat → FieldType := fun k => match k with
  | 0 => .array .char
  | 1 => .int
  | 2 => .int
  | 3 => .boolean
  | 4 => .int
  | 5 => .array .int
  | 6 => .array .int
  | 7 => .int
  | _ => .int
theorem n_P : ∀ a, a < 9 → ∀ b, b < 9 → a ≠ b → (F_P a).2.1 ≠ (F_P b).2.1 := by decide +kernel
theorem t_P_ok : ∀ k, k < 9 → parseFieldDescriptor (F_P k).2.2.1 = some (t_P k) := by decide +kernel
theorem i_P : ∀ w ∈ u_ws R_P F_P 9, w ∈ zTb := by decide +kernel
def R_G : String := "GateRoads$Gates"
def F_G : u_T := fun k => match k with
  | 0 => ("GateRoads$Gates", "roadsAt", "[I", true)
  | _ => ("GateRoads$Gates", "ready", "Z", false)
def t_G : Nat → FieldType := fun k => match k with
  | 0 => .array .int
  | _ => .boolean
theorem n_G : ∀ a, a < 2 → ∀ b, b < 2 → a ≠ b → (F_G a).2.1 ≠ (F_G b).2.1 := by decide +kernel
theorem t_G_ok : ∀ k, k < 2 → parseFieldDescriptor (F_G k).2.2.1 = some (t_G k) := by decide +kernel
theorem i_G : ∀ w ∈ u_ws R_G F_G 2, w ∈ zTb := by decide +kernel
def R_O : String := "GateRoads$Onward"
def F_O : u_T := fun k => match k with
  | 0 => ("GateRoads$Onward", "comers", "[I", true)
  | _ => ("GateRoads$Onward", "until", "[I", true)
def t_O : Nat → FieldType := fun k => match k with
  | 0 => .array .int
  | _ => .array .int
theorem n_O : ∀ a, a < 2 → ∀ b, b < 2 → a ≠ b → (F_O a).2.1 ≠ (F_O b).2.1 := by decide +kernel
theorem t_O_ok : ∀ k, k < 2 → parseFieldDescriptor (F_O k).2.2.1 = some (t_O k) := by decide +kernel
theorem i_O : ∀ w ∈ u_ws R_O F_O 2, w ∈ zTb := by decide +kernel
def R_B : String := "GateRoads$Backward"
def F_B : u_T := fun k => match k with
  | 0 => ("GateRoads$Backward", "leading", "[I", true)
  | 1 => ("GateRoads$Backward", "nextEntry", "[I", true)
  | 2 => ("GateRoads$Backward", "goal", "I", false)
  | _ => ("GateRoads$Backward", "by", "I", false)
def t_B : Nat → FieldType := fun k => match k with
  | 0 => .array .int
  | 1 => .array .int
  | 2 => .int
  | _ => .int
theorem n_B : ∀ a, a < 4 → ∀ b, b < 4 → a ≠ b → (F_B a).2.1 ≠ (F_B b).2.1 := by decide +kernel
theorem t_B_ok : ∀ k, k < 4 → parseFieldDescriptor (F_B k).2.2.1 = some (t_B k) := by decide +kernel
theorem i_B : ∀ w ∈ u_ws R_B F_B 4, w ∈ zTb := by decide +kernel
def R_F : String := "GateRoads$Fewest"
def F_F : u_T := fun k => match k with
  | 0 => ("GateRoads$Fewest", "coming", "[I", true)
  | 1 => ("GateRoads$Fewest", "queue", "[I", true)
  | 2 => ("GateRoads$Fewest", "head", "[I", true)
  | 3 => ("GateRoads$Fewest", "tail", "[I", true)
  | _ => ("GateRoads$Fewest", "best", "[I", true)
def t_F : Nat → FieldType := fun k => match k with
  | 0 => .array .int
  | 1 => .array .int
  | 2 => .array .int
  | 3 => .array .int
  | _ => .array .int
theorem n_F : ∀ a, a < 5 → ∀ b, b < 5 → a ≠ b → (F_F a).2.1 ≠ (F_F b).2.1 := by decide +kernel
theorem t_F_ok : ∀ k, k < 5 → parseFieldDescriptor (F_F k).2.2.1 = some (t_F k) := by decide +kernel
theorem i_F : ∀ w ∈ u_ws R_F F_F 5, w ∈ zTb := by decide +kernel
def R_M : String := "GateRoadsModel"
def F_M : u_T := fun k => match k with
  | 0 => ("GateRoadsModel", "now", "[I", true)
  | 1 => ("GateRoadsModel", "past", "[I", true)
  | 2 => ("GateRoadsModel", "slots", "[I", true)
  | 3 => ("GateRoadsModel", "isSaved", "[I", true)
  | 4 => ("GateRoadsModel", "states", "I", false)
  | 5 => ("GateRoadsModel", "reason", "I", false)
  | 6 => ("GateRoadsModel", "pad", "[I", true)
  | 7 => ("GateRoadsModel", "padLength", "I", false)
  | 8 => ("GateRoadsModel", "comes", "[I", true)
  | 9 => ("GateRoadsModel", "there", "[I", true)
  | 10 => ("GateRoadsModel", "otherThere", "[I", true)
  | 11 => ("GateRoadsModel", "good", "[I", true)
  | 12 => ("GateRoadsModel", "last", "[I", true)
  | 13 => ("GateRoadsModel", "fewest", "[I", true)
  | 14 => ("GateRoadsModel", "at", "I", false)
  | 15 => ("GateRoadsModel", "kind", "I", false)
  | 16 => ("GateRoadsModel", "first", "I", false)
  | 17 => ("GateRoadsModel", "second", "I", false)
  | 18 => ("GateRoadsModel", "third", "I", false)
  | 19 => ("GateRoadsModel", "hours", "I", false)
  | 20 => ("GateRoadsModel", "isStrict", "I", false)
  | 21 => ("GateRoadsModel", "value", "I", false)
  | _ => ("GateRoadsModel", "clocks", "[I", true)
def t_M : Nat → FieldType := fun k => match k with
  | 0 => .array .int
  | 1 => .array .int
  | 2 => .array .int
  | 3 => .array .int
  | 4 => .int
  | 5 => .int
  | 6 => .array .int
  | 7 => .int
  | 8 => .array .int
  | 9 => .array .int
  | 10 => .array .int
  | 11 => .array .int
  | 12 => .array .int
  | 13 => .array .int
  | 14 => .int
  | 15 => .int
  | 16 => .int
  | 17 => .int
  | 18 => .int
  | 19 => .int
  | 20 => .int
  | 21 => .int
  | _ => .array .int
theorem n_M : ∀ a, a < 23 → ∀ b, b < 23 → a ≠ b → (F_M a).2.1 ≠ (F_M b).2.1 := by decide +kernel
theorem t_M_ok : ∀ k, k < 23 → parseFieldDescriptor (F_M k).2.2.1 = some (t_M k) := by decide +kernel
theorem i_M : ∀ w ∈ u_ws R_M F_M 23, w ∈ zTb := by decide +kernel
abbrev zCl : List vw_C := [(R_S, F_S, 8), (R_X, F_X, 13), (R_P, F_P, 9), (R_G, F_G, 2), (R_O, F_O, 2), (R_B, F_B, 4), (R_F, F_F, 5), (R_M, F_M, 23)]
abbrev zSh : Type := (Nat × Nat) ⊕ (Nat × List Int)
def zShp : List zSh := [.inr (0, [1, 2, 3, 4, 5, -1, -1, -1]), .inl (0, 24), .inl (0, 264), .inl (0, 24), .inl (0, 60), .inl (0, 80), .inr (0, [7, 8, 9, 10, 11, -1, -1, -1]), .inl (0, 24), .inl (0, 264), .inl (0, 24), .inl (0, 60), .inl (0, 80), .inr (0, [13, 14, 15, 16, 17, -1, -1, -1]), .inl (0, 24), .inl (0, 264), .inl (0, 24), .inl (0, 60), .inl (0, 80), .inr (0, [19, 20, 21, 22, 23, -1, -1, -1]), .inl (0, 24), .inl (0, 264), .inl (0, 24), .inl (0, 60), .inl (0, 80), .inr (0, [25, 26, 27, 28, 29, -1, -1, -1]), .inl (0, 24), .inl (0, 264), .inl (0, 24), .inl (0, 60), .inl (0, 80), .inr (0, [31, 32, 33, 34, 35, -1, -1, -1]), .inl (0, 24), .inl (0, 264), .inl (0, 24), .inl (0, 60), .inl (0, 80), .inr (0, [37, 38, 39, 40, 41, -1, -1, -1]), .inl (0, 24), .inl (0, 264), .inl (0, 24), .inl (0, 60), .inl (0, 80), .inr (0, [43, 44, 45, 46, 47, -1, -1, -1]), .inl (0, 24), .inl (0, 264), .inl (0, 24), .inl (0, 60), .inl (0, 80), .inr (0, [49, 50, 51, 52, 53, -1, -1, -1]), .inl (0, 24), .inl (0, 264), .inl (0, 24), .inl (0, 60), .inl (0, 80), .inr (1, [0, 55, -1, 56, 57, -1, 58, -1, 62, 64, 67, 70, 73]), .inl (3, 6), .inl (3, 2), .inl (1, 2), .inr (2, [59, -1, -1, -1, -1, 60, 61, -1, -1]), .inl (2, 80), .inl (0, 3), .inl (0, 6), .inr (3, [63, -1]), .inl (0, 2881), .inr (4, [65, 66]), .inl (0, 1024), .inl (0, 8), .inr (4, [68, 69]), .inl (0, 1024), .inl (0, 8), .inr (5, [71, 72, -1, -1]), .inl (0, 2881), .inl (0, 8), .inr (6, [74, 75, 76, 77, 78]), .inl (0, 8192), .inl (0, 8192), .inl (0, 8), .inl (0, 8), .inl (0, 8), .inr (7, [80, 81, 82, 83, -1, -1, 84, -1, 85, 86, 87, 88, 89, 90, -1, -1, -1, -1, -1, -1, -1, -1, 91]), .inl (0, 455), .inl (0, 2730), .inl (0, 910), .inl (0, 2), .inl (0, 80), .inl (0, 2881), .inl (0, 2881), .inl (0, 2881), .inl (0, 2881), .inl (0, 8), .inl (0, 23048), .inl (0, 6)]
def zNw : List (String × Nat × MethodName × String) := [("GateRoads$Onward", 24, ⟨"GateRoads", "has", "(II)Z"⟩, "GateRoads"), ("GateRoads$Backward", 31, ⟨"GateRoads", "has", "(II)Z"⟩, "GateRoads"), ("GateRoads$Fewest", 53, ⟨"GateRoads", "has", "(II)Z"⟩, "GateRoads")]
theorem tw_r (i : Nat) {w : Cond} (h : tables_1[i]? = some w) (hg : goodWord w = true) : w ∈ zTb := List.mem_filter.mpr ⟨List.mem_append_right _ (List.mem_of_getElem? h), hg⟩
theorem tw_1 (i : Nat) {w : Cond} (h : tables_1_1[i]? = some w) (hg : goodWord w = true) : w ∈ zTb := List.mem_filter.mpr ⟨List.mem_append_right _ (show w ∈ tables_1 from (List.mem_append_left _ (List.mem_of_getElem? h))), hg⟩
theorem tw_2 (i : Nat) {w : Cond} (h : tables_1_2[i]? = some w) (hg : goodWord w = true) : w ∈ zTb := List.mem_filter.mpr ⟨List.mem_append_right _ (show w ∈ tables_1 from (List.mem_append_right _ (List.mem_append_left _ (List.mem_of_getElem? h)))), hg⟩
theorem tw_3 (i : Nat) {w : Cond} (h : tables_1_3[i]? = some w) (hg : goodWord w = true) : w ∈ zTb := List.mem_filter.mpr ⟨List.mem_append_right _ (show w ∈ tables_1 from (List.mem_append_right _ (List.mem_append_right _ (List.mem_append_left _ (List.mem_of_getElem? h))))), hg⟩
theorem tw_4 (i : Nat) {w : Cond} (h : tables_1_4[i]? = some w) (hg : goodWord w = true) : w ∈ zTb := List.mem_filter.mpr ⟨List.mem_append_right _ (show w ∈ tables_1 from (List.mem_append_right _ (List.mem_append_right _ (List.mem_append_right _ (List.mem_append_left _ (List.mem_of_getElem? h)))))), hg⟩
theorem tw_5 (i : Nat) {w : Cond} (h : tables_1_5[i]? = some w) (hg : goodWord w = true) : w ∈ zTb := List.mem_filter.mpr ⟨List.mem_append_right _ (show w ∈ tables_1 from (List.mem_append_right _ (List.mem_append_right _ (List.mem_append_right _ (List.mem_append_right _ (List.mem_of_getElem? h)))))), hg⟩
theorem tw_l (i : Nat) {w : Cond} (h : (k2_sels lw_privs)[i]? = some w) (hg : goodWord w = true) : w ∈ zTb := List.mem_filter.mpr ⟨List.mem_append_left _ (List.mem_of_getElem? h), hg⟩
abbrev b_X_init : ByteArray := prog_1_method_1_code
def y_X_init : MethodName := ⟨"GateRoads", "<init>", "()V"⟩
abbrev b_S_init : ByteArray := prog_7_method_1_code
def y_S_init : MethodName := ⟨"GateRoads$State", "<init>", "()V"⟩
abbrev b_P_init : ByteArray := prog_6_method_1_code
def y_P_init : MethodName := ⟨"GateRoads$Pad", "<init>", "()V"⟩
abbrev b_G_init : ByteArray := prog_4_method_1_code
def y_G_init : MethodName := ⟨"GateRoads$Gates", "<init>", "()V"⟩
abbrev b_O_init : ByteArray := prog_5_method_1_code
def y_O_init : MethodName := ⟨"GateRoads$Onward", "<init>", "()V"⟩
abbrev b_B_init : ByteArray := prog_2_method_1_code
def y_B_init : MethodName := ⟨"GateRoads$Backward", "<init>", "()V"⟩
abbrev b_F_init : ByteArray := prog_3_method_1_code
def y_F_init : MethodName := ⟨"GateRoads$Fewest", "<init>", "()V"⟩
abbrev b_X_room : ByteArray := prog_1_method_2_code
def y_X_room : MethodName := ⟨"GateRoads", "room", "(IIII)I"⟩
abbrev b_X_isPlace : ByteArray := prog_1_method_33_code
def y_X_isPlace : MethodName := ⟨"GateRoads", "isPlace", "(I)Z"⟩
abbrev b_X_within : ByteArray := prog_1_method_32_code
def y_X_within : MethodName := ⟨"GateRoads", "within", "(III)Z"⟩
abbrev b_X_remember : ByteArray := prog_1_method_37_code
def y_X_remember : MethodName := ⟨"GateRoads", "remember", "()V"⟩
abbrev b_S_copyFrom : ByteArray := prog_7_method_2_code
def y_S_copyFrom : MethodName := ⟨"GateRoads$State", "copyFrom", "(LGateRoads$State;)V"⟩
abbrev b_X_road : ByteArray := prog_1_method_3_code
def y_X_road : MethodName := ⟨"GateRoads", "road", "(III)I"⟩
abbrev b_S_addRoad : ByteArray := prog_7_method_10_code
def y_S_addRoad : MethodName := ⟨"GateRoads$State", "addRoad", "(III)I"⟩
abbrev b_S_dropSpans : ByteArray := prog_7_method_11_code
def y_S_dropSpans : MethodName := ⟨"GateRoads$State", "dropSpans", "(II)V"⟩
abbrev b_Ar_fill_1 : ByteArray := prog_13_method_104_code
def y_Ar_fill_1 : MethodName := ⟨"java/util/Arrays", "fill", "([IIII)V"⟩
abbrev b_Ar_rangeCheck : ByteArray := prog_13_method_30_code
def y_Ar_rangeCheck : MethodName := ⟨"java/util/Arrays", "rangeCheck", "(III)V"⟩
abbrev b_S_addSpan : ByteArray := prog_7_method_15_code
def y_S_addSpan : MethodName := ⟨"GateRoads$State", "addSpan", "(III)V"⟩
abbrev b_S_ofRoads : ByteArray := prog_7_method_7_code
def y_S_ofRoads : MethodName := ⟨"GateRoads$State", "ofRoads", "(II)I"⟩
abbrev b_S_spanFrom : ByteArray := prog_7_method_12_code
def y_S_spanFrom : MethodName := ⟨"GateRoads$State", "spanFrom", "(II)I"⟩
abbrev b_S_spanTo : ByteArray := prog_7_method_13_code
def y_S_spanTo : MethodName := ⟨"GateRoads$State", "spanTo", "(II)I"⟩
abbrev b_X_open : ByteArray := prog_1_method_4_code
def y_X_open : MethodName := ⟨"GateRoads", "open", "(IIII)I"⟩
abbrev b_S_hasRoad : ByteArray := prog_7_method_3_code
def y_S_hasRoad : MethodName := ⟨"GateRoads$State", "hasRoad", "(I)Z"⟩
abbrev b_X_isSpan : ByteArray := prog_1_method_34_code
def y_X_isSpan : MethodName := ⟨"GateRoads", "isSpan", "(III)Z"⟩
abbrev b_X_more : ByteArray := prog_1_method_5_code
def y_X_more : MethodName := ⟨"GateRoads", "more", "(III)I"⟩
abbrev b_S_meetsSpan : ByteArray := prog_7_method_14_code
def y_S_meetsSpan : MethodName := ⟨"GateRoads$State", "meetsSpan", "(III)Z"⟩
abbrev b_X_close : ByteArray := prog_1_method_6_code
def y_X_close : MethodName := ⟨"GateRoads", "close", "(III)I"⟩
abbrev b_S_addClosure : ByteArray := prog_7_method_16_code
def y_S_addClosure : MethodName := ⟨"GateRoads$State", "addClosure", "(III)I"⟩
abbrev b_X_lift : ByteArray := prog_1_method_7_code
def y_X_lift : MethodName := ⟨"GateRoads", "lift", "(I)I"⟩
abbrev b_S_hasClosure : ByteArray := prog_7_method_4_code
def y_S_hasClosure : MethodName := ⟨"GateRoads$State", "hasClosure", "(I)Z"⟩
abbrev b_S_dropClosure : ByteArray := prog_7_method_17_code
def y_S_dropClosure : MethodName := ⟨"GateRoads$State", "dropClosure", "(I)V"⟩
abbrev b_X_traveller : ByteArray := prog_1_method_8_code
def y_X_traveller : MethodName := ⟨"GateRoads", "traveller", "(II)I"⟩
abbrev b_S_addTraveller : ByteArray := prog_7_method_18_code
def y_S_addTraveller : MethodName := ⟨"GateRoads$State", "addTraveller", "(II)I"⟩
abbrev b_X_go : ByteArray := prog_1_method_9_code
def y_X_go : MethodName := ⟨"GateRoads", "go", "(II)I"⟩
abbrev b_S_hasTraveller : ByteArray := prog_7_method_5_code
def y_S_hasTraveller : MethodName := ⟨"GateRoads$State", "hasTraveller", "(I)Z"⟩
abbrev b_S_whyNoGoing : ByteArray := prog_7_method_27_code
def y_S_whyNoGoing : MethodName := ⟨"GateRoads$State", "whyNoGoing", "(II)I"⟩
abbrev b_S_ofTravellers : ByteArray := prog_7_method_9_code
def y_S_ofTravellers : MethodName := ⟨"GateRoads$State", "ofTravellers", "(II)I"⟩
abbrev b_S_whyNoEntry : ByteArray := prog_7_method_29_code
def y_S_whyNoEntry : MethodName := ⟨"GateRoads$State", "whyNoEntry", "(II)I"⟩
abbrev b_S_spanEnd : ByteArray := prog_7_method_30_code
def y_S_spanEnd : MethodName := ⟨"GateRoads$State", "spanEnd", "(II)I"⟩
abbrev b_S_closedAt : ByteArray := prog_7_method_31_code
def y_S_closedAt : MethodName := ⟨"GateRoads$State", "closedAt", "(II)Z"⟩
abbrev b_S_ofClosures : ByteArray := prog_7_method_8_code
def y_S_ofClosures : MethodName := ⟨"GateRoads$State", "ofClosures", "(II)I"⟩
abbrev b_X_refuse : ByteArray := prog_1_method_38_code
def y_X_refuse : MethodName := ⟨"GateRoads", "refuse", "(I)I"⟩
abbrev b_S_enter : ByteArray := prog_7_method_19_code
def y_S_enter : MethodName := ⟨"GateRoads$State", "enter", "(II)I"⟩
abbrev b_X_stay : ByteArray := prog_1_method_10_code
def y_X_stay : MethodName := ⟨"GateRoads", "stay", "(II)I"⟩
abbrev b_S_whyNoStaying : ByteArray := prog_7_method_28_code
def y_S_whyNoStaying : MethodName := ⟨"GateRoads$State", "whyNoStaying", "(II)I"⟩
abbrev b_S_openUntil : ByteArray := prog_7_method_24_code
def y_S_openUntil : MethodName := ⟨"GateRoads$State", "openUntil", "(II)I"⟩
abbrev b_S_ofRooms : ByteArray := prog_7_method_6_code
def y_S_ofRooms : MethodName := ⟨"GateRoads$State", "ofRooms", "(II)I"⟩
abbrev b_S_waitThere : ByteArray := prog_7_method_20_code
def y_S_waitThere : MethodName := ⟨"GateRoads$State", "waitThere", "(II)I"⟩
abbrev b_X_ofPlace : ByteArray := prog_1_method_11_code
def y_X_ofPlace : MethodName := ⟨"GateRoads", "ofPlace", "(II)I"⟩
abbrev b_S_roadsWith : ByteArray := prog_7_method_21_code
def y_S_roadsWith : MethodName := ⟨"GateRoads$State", "roadsWith", "(II)I"⟩
abbrev b_S_travellersAt : ByteArray := prog_7_method_22_code
def y_S_travellersAt : MethodName := ⟨"GateRoads$State", "travellersAt", "(I)I"⟩
abbrev b_X_ofRoad : ByteArray := prog_1_method_12_code
def y_X_ofRoad : MethodName := ⟨"GateRoads", "ofRoad", "(II)I"⟩
abbrev b_S_closuresOf : ByteArray := prog_7_method_23_code
def y_S_closuresOf : MethodName := ⟨"GateRoads$State", "closuresOf", "(I)I"⟩
abbrev b_X_ofClosure : ByteArray := prog_1_method_13_code
def y_X_ofClosure : MethodName := ⟨"GateRoads", "ofClosure", "(II)I"⟩
abbrev b_X_ofTraveller : ByteArray := prog_1_method_14_code
def y_X_ofTraveller : MethodName := ⟨"GateRoads", "ofTraveller", "(II)I"⟩
abbrev b_X_count : ByteArray := prog_1_method_15_code
def y_X_count : MethodName := ⟨"GateRoads", "count", "(I)I"⟩
abbrev b_X_whyShut : ByteArray := prog_1_method_16_code
def y_X_whyShut : MethodName := ⟨"GateRoads", "whyShut", "(II)I"⟩
abbrev b_X_earliest : ByteArray := prog_1_method_17_code
def y_X_earliest : MethodName := ⟨"GateRoads", "earliest", "(III)I"⟩
abbrev b_X_earliestTime : ByteArray := prog_1_method_39_code
def y_X_earliestTime : MethodName := ⟨"GateRoads", "earliestTime", "(III)I"⟩
abbrev b_S_waitEnd : ByteArray := prog_7_method_25_code
def y_S_waitEnd : MethodName := ⟨"GateRoads$State", "waitEnd", "(II)I"⟩
abbrev b_Ma_min : ByteArray := prog_11_method_69_code
def y_Ma_min : MethodName := ⟨"java/lang/Math", "min", "(II)I"⟩
abbrev b_X_firstComing : ByteArray := prog_1_method_40_code
def y_X_firstComing : MethodName := ⟨"GateRoads", "firstComing", "(IIIIII)I"⟩
abbrev b_G_prepare : ByteArray := prog_4_method_3_code
def y_G_prepare : MethodName := ⟨"GateRoads$Gates", "prepare", "(LGateRoads$State;)V"⟩
abbrev b_Ar_fill_0 : ByteArray := prog_13_method_103_code
def y_Ar_fill_0 : MethodName := ⟨"java/util/Arrays", "fill", "([II)V"⟩
abbrev b_G_letIn : ByteArray := prog_4_method_4_code
def y_G_letIn : MethodName := ⟨"GateRoads$Gates", "letIn", "(LGateRoads$State;II)V"⟩
abbrev b_G_shut : ByteArray := prog_4_method_5_code
def y_G_shut : MethodName := ⟨"GateRoads$Gates", "shut", "(LGateRoads$State;I)V"⟩
abbrev b_O_start : ByteArray := prog_5_method_2_code
def y_O_start : MethodName := ⟨"GateRoads$Onward", "start", "(II)V"⟩
abbrev b_O_comersAt : ByteArray := prog_5_method_3_code
def y_O_comersAt : MethodName := ⟨"GateRoads$Onward", "comersAt", "(I)I"⟩
abbrev b_X_has : ByteArray := prog_1_method_35_code
def y_X_has : MethodName := ⟨"GateRoads", "has", "(II)Z"⟩
abbrev b_G_at : ByteArray := prog_4_method_2_code
def y_G_at : MethodName := ⟨"GateRoads$Gates", "at", "(I)I"⟩
abbrev b_O_minute : ByteArray := prog_5_method_4_code
def y_O_minute : MethodName := ⟨"GateRoads$Onward", "minute", "(LGateRoads$State;II)I"⟩
abbrev b_Ma_max : ByteArray := prog_11_method_65_code
def y_Ma_max : MethodName := ⟨"java/lang/Math", "max", "(II)I"⟩
abbrev b_O_leave : ByteArray := prog_5_method_5_code
def y_O_leave : MethodName := ⟨"GateRoads$Onward", "leave", "(LGateRoads$State;III)V"⟩
abbrev b_X_latest : ByteArray := prog_1_method_18_code
def y_X_latest : MethodName := ⟨"GateRoads", "latest", "(III)I"⟩
abbrev b_B_start : ByteArray := prog_2_method_2_code
def y_B_start : MethodName := ⟨"GateRoads$Backward", "start", "(II)V"⟩
abbrev b_B_minute : ByteArray := prog_2_method_4_code
def y_B_minute : MethodName := ⟨"GateRoads$Backward", "minute", "(LGateRoads$State;II)V"⟩
abbrev b_B_leads : ByteArray := prog_2_method_3_code
def y_B_leads : MethodName := ⟨"GateRoads$Backward", "leads", "(II)Z"⟩
abbrev b_X_way : ByteArray := prog_1_method_19_code
def y_X_way : MethodName := ⟨"GateRoads", "way", "(IIII)I"⟩
abbrev b_X_fewestRoads : ByteArray := prog_1_method_41_code
def y_X_fewestRoads : MethodName := ⟨"GateRoads", "fewestRoads", "(IIII)I"⟩
abbrev b_F_start : ByteArray := prog_3_method_2_code
def y_F_start : MethodName := ⟨"GateRoads$Fewest", "start", "(II)V"⟩
abbrev b_F_push : ByteArray := prog_3_method_5_code
def y_F_push : MethodName := ⟨"GateRoads$Fewest", "push", "(III)V"⟩
abbrev b_F_cell : ByteArray := prog_3_method_3_code
def y_F_cell : MethodName := ⟨"GateRoads$Fewest", "cell", "(II)I"⟩
abbrev b_F_minute : ByteArray := prog_3_method_6_code
def y_F_minute : MethodName := ⟨"GateRoads$Fewest", "minute", "(LGateRoads$State;II)V"⟩
abbrev b_F_bestAt : ByteArray := prog_3_method_7_code
def y_F_bestAt : MethodName := ⟨"GateRoads$Fewest", "bestAt", "(II)I"⟩
abbrev b_F_leave : ByteArray := prog_3_method_8_code
def y_F_leave : MethodName := ⟨"GateRoads$Fewest", "leave", "(LGateRoads$State;II)V"⟩
abbrev b_F_comingTo : ByteArray := prog_3_method_4_code
def y_F_comingTo : MethodName := ⟨"GateRoads$Fewest", "comingTo", "(II)I"⟩
abbrev b_X_lookBack : ByteArray := prog_1_method_42_code
def y_X_lookBack : MethodName := ⟨"GateRoads", "lookBack", "(III)V"⟩
abbrev b_X_firstRoad : ByteArray := prog_1_method_44_code
def y_X_firstRoad : MethodName := ⟨"GateRoads", "firstRoad", "(II)I"⟩
abbrev b_X_firstEntry : ByteArray := prog_1_method_45_code
def y_X_firstEntry : MethodName := ⟨"GateRoads", "firstEntry", "(II)I"⟩
abbrev b_X_leadsOn : ByteArray := prog_1_method_43_code
def y_X_leadsOn : MethodName := ⟨"GateRoads", "leadsOn", "(II)Z"⟩
abbrev b_X_lastEntry : ByteArray := prog_1_method_46_code
def y_X_lastEntry : MethodName := ⟨"GateRoads", "lastEntry", "(II)I"⟩
abbrev b_X_reach : ByteArray := prog_1_method_20_code
def y_X_reach : MethodName := ⟨"GateRoads", "reach", "(III)I"⟩
abbrev b_X_needed : ByteArray := prog_1_method_21_code
def y_X_needed : MethodName := ⟨"GateRoads", "needed", "(III)I"⟩
abbrev b_X_roadsOfOneWay : ByteArray := prog_1_method_47_code
def y_X_roadsOfOneWay : MethodName := ⟨"GateRoads", "roadsOfOneWay", "(III)I"⟩
abbrev b_X_roadLeadingOn : ByteArray := prog_1_method_48_code
def y_X_roadLeadingOn : MethodName := ⟨"GateRoads", "roadLeadingOn", "(II)I"⟩
abbrev b_X_meet : ByteArray := prog_1_method_22_code
def y_X_meet : MethodName := ⟨"GateRoads", "meet", "(III)I"⟩
abbrev b_S_stayLeft : ByteArray := prog_7_method_26_code
def y_S_stayLeft : MethodName := ⟨"GateRoads$State", "stayLeft", "(I)I"⟩
abbrev b_X_lowest : ByteArray := prog_1_method_36_code
def y_X_lowest : MethodName := ⟨"GateRoads", "lowest", "(I)I"⟩
abbrev b_In_bitCount : ByteArray := prog_10_method_49_code
def y_In_bitCount : MethodName := ⟨"java/lang/Integer", "bitCount", "(I)I"⟩
abbrev b_X_arrives : ByteArray := prog_1_method_23_code
def y_X_arrives : MethodName := ⟨"GateRoads", "arrives", "(II)I"⟩
abbrev b_X_canStay : ByteArray := prog_1_method_24_code
def y_X_canStay : MethodName := ⟨"GateRoads", "canStay", "(I)I"⟩
abbrev b_X_put : ByteArray := prog_1_method_25_code
def y_X_put : MethodName := ⟨"GateRoads", "put", "(J)I"⟩
abbrev b_X_charactersIn : ByteArray := prog_1_method_49_code
def y_X_charactersIn : MethodName := ⟨"GateRoads", "charactersIn", "(J)I"⟩
abbrev b_P_append : ByteArray := prog_6_method_2_code
def y_P_append : MethodName := ⟨"GateRoads$Pad", "append", "(C)V"⟩
abbrev b_X_wipe : ByteArray := prog_1_method_26_code
def y_X_wipe : MethodName := ⟨"GateRoads", "wipe", "()I"⟩
abbrev b_X_fault : ByteArray := prog_1_method_27_code
def y_X_fault : MethodName := ⟨"GateRoads", "fault", "()I"⟩
abbrev b_P_firstWrong : ByteArray := prog_6_method_4_code
def y_P_firstWrong : MethodName := ⟨"GateRoads$Pad", "firstWrong", "()I"⟩
abbrev b_P_rewind : ByteArray := prog_6_method_3_code
def y_P_rewind : MethodName := ⟨"GateRoads$Pad", "rewind", "()V"⟩
abbrev b_P_readOrder : ByteArray := prog_6_method_12_code
def y_P_readOrder : MethodName := ⟨"GateRoads$Pad", "readOrder", "()V"⟩
abbrev b_P_readSpans : ByteArray := prog_6_method_13_code
def y_P_readSpans : MethodName := ⟨"GateRoads$Pad", "readSpans", "()V"⟩
abbrev b_P_readNumber : ByteArray := prog_6_method_10_code
def y_P_readNumber : MethodName := ⟨"GateRoads$Pad", "readNumber", "()I"⟩
abbrev b_P_readDigit : ByteArray := prog_6_method_9_code
def y_P_readDigit : MethodName := ⟨"GateRoads$Pad", "readDigit", "(I)I"⟩
abbrev b_P_digitStands : ByteArray := prog_6_method_8_code
def y_P_digitStands : MethodName := ⟨"GateRoads$Pad", "digitStands", "(I)Z"⟩
abbrev b_P_expect : ByteArray := prog_6_method_7_code
def y_P_expect : MethodName := ⟨"GateRoads$Pad", "expect", "(C)V"⟩
abbrev b_P_take : ByteArray := prog_6_method_6_code
def y_P_take : MethodName := ⟨"GateRoads$Pad", "take", "(C)Z"⟩
abbrev b_P_stands : ByteArray := prog_6_method_5_code
def y_P_stands : MethodName := ⟨"GateRoads$Pad", "stands", "(C)Z"⟩
abbrev b_P_readClock : ByteArray := prog_6_method_11_code
def y_P_readClock : MethodName := ⟨"GateRoads$Pad", "readClock", "()I"⟩
abbrev b_P_readClosure : ByteArray := prog_6_method_14_code
def y_P_readClosure : MethodName := ⟨"GateRoads$Pad", "readClosure", "()V"⟩
abbrev b_P_readDigitAndNumber : ByteArray := prog_6_method_15_code
def y_P_readDigitAndNumber : MethodName := ⟨"GateRoads$Pad", "readDigitAndNumber", "(C)V"⟩
abbrev b_X_carryOut : ByteArray := prog_1_method_28_code
def y_X_carryOut : MethodName := ⟨"GateRoads", "carryOut", "()I"⟩
abbrev b_X_carryOrder : ByteArray := prog_1_method_50_code
def y_X_carryOrder : MethodName := ⟨"GateRoads", "carryOrder", "()I"⟩
abbrev b_X_tellSpans : ByteArray := prog_1_method_51_code
def y_X_tellSpans : MethodName := ⟨"GateRoads", "tellSpans", "(I)I"⟩
abbrev b_P_spansStandApart : ByteArray := prog_6_method_18_code
def y_P_spansStandApart : MethodName := ⟨"GateRoads$Pad", "spansStandApart", "()Z"⟩
abbrev b_P_spanFrom : ByteArray := prog_6_method_16_code
def y_P_spanFrom : MethodName := ⟨"GateRoads$Pad", "spanFrom", "(I)I"⟩
abbrev b_P_spanTo : ByteArray := prog_6_method_17_code
def y_P_spanTo : MethodName := ⟨"GateRoads$Pad", "spanTo", "(I)I"⟩
abbrev b_X_undo : ByteArray := prog_1_method_29_code
def y_X_undo : MethodName := ⟨"GateRoads", "undo", "()I"⟩
abbrev b_X_save : ByteArray := prog_1_method_30_code
def y_X_save : MethodName := ⟨"GateRoads", "save", "(I)I"⟩
abbrev b_X_restore : ByteArray := prog_1_method_31_code
def y_X_restore : MethodName := ⟨"GateRoads", "restore", "(I)I"⟩
abbrev b_M_init : ByteArray := prog_9_method_1_code
def y_M_init : MethodName := ⟨"GateRoadsModel", "<init>", "()V"⟩
abbrev b_M_undo : ByteArray := prog_9_method_11_code
def y_M_undo : MethodName := ⟨"GateRoadsModel", "undo", "()I"⟩
abbrev b_M_save : ByteArray := prog_9_method_12_code
def y_M_save : MethodName := ⟨"GateRoadsModel", "save", "(I)I"⟩
abbrev b_M_isIn : ByteArray := prog_9_method_2_code
def y_M_isIn : MethodName := ⟨"GateRoadsModel", "isIn", "(III)Z"⟩
abbrev b_M_restore : ByteArray := prog_9_method_13_code
def y_M_restore : MethodName := ⟨"GateRoadsModel", "restore", "(I)I"⟩
abbrev b_M_records : ByteArray := prog_9_method_10_code
def y_M_records : MethodName := ⟨"GateRoadsModel", "records", "()V"⟩
abbrev b_M_room : ByteArray := prog_9_method_14_code
def y_M_room : MethodName := ⟨"GateRoadsModel", "room", "(IIII)I"⟩
abbrev b_M_isPlace : ByteArray := prog_9_method_4_code
def y_M_isPlace : MethodName := ⟨"GateRoadsModel", "isPlace", "(I)Z"⟩
abbrev b_M_road : ByteArray := prog_9_method_15_code
def y_M_road : MethodName := ⟨"GateRoadsModel", "road", "(III)I"⟩
abbrev b_M_open : ByteArray := prog_9_method_17_code
def y_M_open : MethodName := ⟨"GateRoadsModel", "open", "(IIII)I"⟩
abbrev b_M_isRoad : ByteArray := prog_9_method_5_code
def y_M_isRoad : MethodName := ⟨"GateRoadsModel", "isRoad", "(I)Z"⟩
abbrev b_M_isSpan : ByteArray := prog_9_method_16_code
def y_M_isSpan : MethodName := ⟨"GateRoadsModel", "isSpan", "(III)Z"⟩
abbrev b_M_more : ByteArray := prog_9_method_20_code
def y_M_more : MethodName := ⟨"GateRoadsModel", "more", "(III)I"⟩
abbrev b_M_isTaken : ByteArray := prog_9_method_18_code
def y_M_isTaken : MethodName := ⟨"GateRoadsModel", "isTaken", "(III)Z"⟩
abbrev b_M_ofR : ByteArray := prog_9_method_8_code
def y_M_ofR : MethodName := ⟨"GateRoadsModel", "ofR", "(II)I"⟩
abbrev b_M_adds : ByteArray := prog_9_method_19_code
def y_M_adds : MethodName := ⟨"GateRoadsModel", "adds", "(III)V"⟩
abbrev b_M_close : ByteArray := prog_9_method_23_code
def y_M_close : MethodName := ⟨"GateRoadsModel", "close", "(III)I"⟩
abbrev b_M_checksClosing : ByteArray := prog_9_method_21_code
def y_M_checksClosing : MethodName := ⟨"GateRoadsModel", "checksClosing", "(III)I"⟩
abbrev b_M_closes : ByteArray := prog_9_method_22_code
def y_M_closes : MethodName := ⟨"GateRoadsModel", "closes", "(III)I"⟩
abbrev b_M_lift : ByteArray := prog_9_method_24_code
def y_M_lift : MethodName := ⟨"GateRoadsModel", "lift", "(I)I"⟩
abbrev b_M_whyShut : ByteArray := prog_9_method_30_code
def y_M_whyShut : MethodName := ⟨"GateRoadsModel", "whyShut", "(II)I"⟩
abbrev b_M_isTime : ByteArray := prog_9_method_7_code
def y_M_isTime : MethodName := ⟨"GateRoadsModel", "isTime", "(I)Z"⟩
abbrev b_M_whyNot : ByteArray := prog_9_method_29_code
def y_M_whyNot : MethodName := ⟨"GateRoadsModel", "whyNot", "(II)I"⟩
abbrev b_M_spanEnd : ByteArray := prog_9_method_27_code
def y_M_spanEnd : MethodName := ⟨"GateRoadsModel", "spanEnd", "(II)I"⟩
abbrev b_M_isClosed : ByteArray := prog_9_method_28_code
def y_M_isClosed : MethodName := ⟨"GateRoadsModel", "isClosed", "(II)Z"⟩
abbrev b_M_traveller : ByteArray := prog_9_method_31_code
def y_M_traveller : MethodName := ⟨"GateRoadsModel", "traveller", "(II)I"⟩
abbrev b_M_go : ByteArray := prog_9_method_35_code
def y_M_go : MethodName := ⟨"GateRoadsModel", "go", "(II)I"⟩
abbrev b_M_checksGoing : ByteArray := prog_9_method_33_code
def y_M_checksGoing : MethodName := ⟨"GateRoadsModel", "checksGoing", "(II)I"⟩
abbrev b_M_isTraveller : ByteArray := prog_9_method_6_code
def y_M_isTraveller : MethodName := ⟨"GateRoadsModel", "isTraveller", "(I)Z"⟩
abbrev b_M_ofT : ByteArray := prog_9_method_9_code
def y_M_ofT : MethodName := ⟨"GateRoadsModel", "ofT", "(II)I"⟩
abbrev b_M_refuses : ByteArray := prog_9_method_32_code
def y_M_refuses : MethodName := ⟨"GateRoadsModel", "refuses", "(I)I"⟩
abbrev b_M_goes : ByteArray := prog_9_method_34_code
def y_M_goes : MethodName := ⟨"GateRoadsModel", "goes", "(II)I"⟩
abbrev b_M_stay : ByteArray := prog_9_method_38_code
def y_M_stay : MethodName := ⟨"GateRoadsModel", "stay", "(II)I"⟩
abbrev b_M_checksStaying : ByteArray := prog_9_method_36_code
def y_M_checksStaying : MethodName := ⟨"GateRoadsModel", "checksStaying", "(II)I"⟩
abbrev b_M_isRoomOpen : ByteArray := prog_9_method_26_code
def y_M_isRoomOpen : MethodName := ⟨"GateRoadsModel", "isRoomOpen", "(II)Z"⟩
abbrev b_M_limitOf : ByteArray := prog_9_method_25_code
def y_M_limitOf : MethodName := ⟨"GateRoadsModel", "limitOf", "(I)I"⟩
abbrev b_M_stays : ByteArray := prog_9_method_37_code
def y_M_stays : MethodName := ⟨"GateRoadsModel", "stays", "(II)I"⟩
abbrev b_M_ofPlace : ByteArray := prog_9_method_40_code
def y_M_ofPlace : MethodName := ⟨"GateRoadsModel", "ofPlace", "(II)I"⟩
abbrev b_M_roadsBy : ByteArray := prog_9_method_39_code
def y_M_roadsBy : MethodName := ⟨"GateRoadsModel", "roadsBy", "(II)I"⟩
abbrev b_M_ofRoad : ByteArray := prog_9_method_41_code
def y_M_ofRoad : MethodName := ⟨"GateRoadsModel", "ofRoad", "(II)I"⟩
abbrev b_M_ofClosure : ByteArray := prog_9_method_42_code
def y_M_ofClosure : MethodName := ⟨"GateRoadsModel", "ofClosure", "(II)I"⟩
abbrev b_M_ofTraveller : ByteArray := prog_9_method_43_code
def y_M_ofTraveller : MethodName := ⟨"GateRoadsModel", "ofTraveller", "(II)I"⟩
abbrev b_M_count : ByteArray := prog_9_method_44_code
def y_M_count : MethodName := ⟨"GateRoadsModel", "count", "(I)I"⟩
abbrev b_M_earliest : ByteArray := prog_9_method_48_code
def y_M_earliest : MethodName := ⟨"GateRoadsModel", "earliest", "(III)I"⟩
abbrev b_M_earliestOf : ByteArray := prog_9_method_47_code
def y_M_earliestOf : MethodName := ⟨"GateRoadsModel", "earliestOf", "(III)I"⟩
abbrev b_M_spreads : ByteArray := prog_9_method_45_code
def y_M_spreads : MethodName := ⟨"GateRoadsModel", "spreads", "(IIII)V"⟩
abbrev b_M_has : ByteArray := prog_9_method_3_code
def y_M_has : MethodName := ⟨"GateRoadsModel", "has", "(II)Z"⟩
abbrev b_M_firstAt : ByteArray := prog_9_method_46_code
def y_M_firstAt : MethodName := ⟨"GateRoadsModel", "firstAt", "(I)I"⟩
abbrev b_M_latest : ByteArray := prog_9_method_51_code
def y_M_latest : MethodName := ⟨"GateRoadsModel", "latest", "(III)I"⟩
abbrev b_M_goesBack : ByteArray := prog_9_method_50_code
def y_M_goesBack : MethodName := ⟨"GateRoadsModel", "goesBack", "(II)V"⟩
abbrev b_M_leadsOn : ByteArray := prog_9_method_49_code
def y_M_leadsOn : MethodName := ⟨"GateRoadsModel", "leadsOn", "(III)Z"⟩
abbrev b_M_way : ByteArray := prog_9_method_55_code
def y_M_way : MethodName := ⟨"GateRoadsModel", "way", "(IIII)I"⟩
abbrev b_M_fewestRoads : ByteArray := prog_9_method_53_code
def y_M_fewestRoads : MethodName := ⟨"GateRoadsModel", "fewestRoads", "(IIII)I"⟩
abbrev b_M_fewestAt : ByteArray := prog_9_method_52_code
def y_M_fewestAt : MethodName := ⟨"GateRoadsModel", "fewestAt", "(III)I"⟩
abbrev b_M_beginsAt : ByteArray := prog_9_method_54_code
def y_M_beginsAt : MethodName := ⟨"GateRoadsModel", "beginsAt", "(IIIZ)I"⟩
abbrev b_M_reach : ByteArray := prog_9_method_56_code
def y_M_reach : MethodName := ⟨"GateRoadsModel", "reach", "(III)I"⟩
abbrev b_M_needed : ByteArray := prog_9_method_57_code
def y_M_needed : MethodName := ⟨"GateRoadsModel", "needed", "(III)I"⟩
abbrev b_M_meet : ByteArray := prog_9_method_59_code
def y_M_meet : MethodName := ⟨"GateRoadsModel", "meet", "(III)I"⟩
abbrev b_M_spreadsFrom : ByteArray := prog_9_method_58_code
def y_M_spreadsFrom : MethodName := ⟨"GateRoadsModel", "spreadsFrom", "(I)V"⟩
abbrev b_M_arrives : ByteArray := prog_9_method_60_code
def y_M_arrives : MethodName := ⟨"GateRoadsModel", "arrives", "(II)I"⟩
abbrev b_M_canStay : ByteArray := prog_9_method_61_code
def y_M_canStay : MethodName := ⟨"GateRoadsModel", "canStay", "(I)I"⟩
abbrev b_M_put : ByteArray := prog_9_method_62_code
def y_M_put : MethodName := ⟨"GateRoadsModel", "put", "(J)I"⟩
abbrev b_M_wipe : ByteArray := prog_9_method_63_code
def y_M_wipe : MethodName := ⟨"GateRoadsModel", "wipe", "()I"⟩
abbrev b_M_fault : ByteArray := prog_9_method_73_code
def y_M_fault : MethodName := ⟨"GateRoadsModel", "fault", "()I"⟩
abbrev b_M_passesOrder : ByteArray := prog_9_method_72_code
def y_M_passesOrder : MethodName := ⟨"GateRoadsModel", "passesOrder", "()Z"⟩
abbrev b_M_passesSpans : ByteArray := prog_9_method_69_code
def y_M_passesSpans : MethodName := ⟨"GateRoadsModel", "passesSpans", "()Z"⟩
abbrev b_M_passesNumber : ByteArray := prog_9_method_66_code
def y_M_passesNumber : MethodName := ⟨"GateRoadsModel", "passesNumber", "()Z"⟩
abbrev b_M_passes : ByteArray := prog_9_method_64_code
def y_M_passes : MethodName := ⟨"GateRoadsModel", "passes", "(II)Z"⟩
abbrev b_M_isDigitHere : ByteArray := prog_9_method_65_code
def y_M_isDigitHere : MethodName := ⟨"GateRoadsModel", "isDigitHere", "()Z"⟩
abbrev b_M_passesHours : ByteArray := prog_9_method_68_code
def y_M_passesHours : MethodName := ⟨"GateRoadsModel", "passesHours", "()Z"⟩
abbrev b_M_passesClock : ByteArray := prog_9_method_67_code
def y_M_passesClock : MethodName := ⟨"GateRoadsModel", "passesClock", "()Z"⟩
abbrev b_M_passesClosing : ByteArray := prog_9_method_70_code
def y_M_passesClosing : MethodName := ⟨"GateRoadsModel", "passesClosing", "()Z"⟩
abbrev b_M_passesTravel : ByteArray := prog_9_method_71_code
def y_M_passesTravel : MethodName := ⟨"GateRoadsModel", "passesTravel", "(I)Z"⟩
abbrev b_M_carryOut : ByteArray := prog_9_method_76_code
def y_M_carryOut : MethodName := ⟨"GateRoadsModel", "carryOut", "()I"⟩
abbrev b_M_does : ByteArray := prog_9_method_75_code
def y_M_does : MethodName := ⟨"GateRoadsModel", "does", "()I"⟩
abbrev b_M_doesSpans : ByteArray := prog_9_method_74_code
def y_M_doesSpans : MethodName := ⟨"GateRoadsModel", "doesSpans", "()I"⟩
theorem sh_0 : zShp[0]? = some (.inr (0, [1, 2, 3, 4, 5, -1, -1, -1])) := rfl
theorem sh_1 : zShp[1]? = some (.inl (0, 24)) := rfl
theorem sh_2 : zShp[2]? = some (.inl (0, 264)) := rfl
theorem sh_3 : zShp[3]? = some (.inl (0, 24)) := rfl
theorem sh_4 : zShp[4]? = some (.inl (0, 60)) := rfl
theorem sh_5 : zShp[5]? = some (.inl (0, 80)) := rfl
theorem sh_6 : zShp[6]? = some (.inr (0, [7, 8, 9, 10, 11, -1, -1, -1])) := rfl
theorem sh_7 : zShp[7]? = some (.inl (0, 24)) := rfl
theorem sh_8 : zShp[8]? = some (.inl (0, 264)) := rfl
theorem sh_9 : zShp[9]? = some (.inl (0, 24)) := rfl
theorem sh_10 : zShp[10]? = some (.inl (0, 60)) := rfl
theorem sh_11 : zShp[11]? = some (.inl (0, 80)) := rfl
theorem sh_12 : zShp[12]? = some (.inr (0, [13, 14, 15, 16, 17, -1, -1, -1])) := rfl
theorem sh_13 : zShp[13]? = some (.inl (0, 24)) := rfl
theorem sh_14 : zShp[14]? = some (.inl (0, 264)) := rfl
theorem sh_15 : zShp[15]? = some (.inl (0, 24)) := rfl
theorem sh_16 : zShp[16]? = some (.inl (0, 60)) := rfl
theorem sh_17 : zShp[17]? = some (.inl (0, 80)) := rfl
theorem sh_18 : zShp[18]? = some (.inr (0, [19, 20, 21, 22, 23, -1, -1, -1])) := rfl
theorem sh_19 : zShp[19]? = some (.inl (0, 24)) := rfl
theorem sh_20 : zShp[20]? = some (.inl (0, 264)) := rfl
theorem sh_21 : zShp[21]? = some (.inl (0, 24)) := rfl
theorem sh_22 : zShp[22]? = some (.inl (0, 60)) := rfl
theorem sh_23 : zShp[23]? = some (.inl (0, 80)) := rfl
theorem sh_24 : zShp[24]? = some (.inr (0, [25, 26, 27, 28, 29, -1, -1, -1])) := rfl
theorem sh_25 : zShp[25]? = some (.inl (0, 24)) := rfl
theorem sh_26 : zShp[26]? = some (.inl (0, 264)) := rfl
theorem sh_27 : zShp[27]? = some (.inl (0, 24)) := rfl
theorem sh_28 : zShp[28]? = some (.inl (0, 60)) := rfl
theorem sh_29 : zShp[29]? = some (.inl (0, 80)) := rfl
theorem sh_30 : zShp[30]? = some (.inr (0, [31, 32, 33, 34, 35, -1, -1, -1])) := rfl
theorem sh_31 : zShp[31]? = some (.inl (0, 24)) := rfl
theorem sh_32 : zShp[32]? = some (.inl (0, 264)) := rfl
theorem sh_33 : zShp[33]? = some (.inl (0, 24)) := rfl
theorem sh_34 : zShp[34]? = some (.inl (0, 60)) := rfl
theorem sh_35 : zShp[35]? = some (.inl (0, 80)) := rfl
theorem sh_36 : zShp[36]? = some (.inr (0, [37, 38, 39, 40, 41, -1, -1, -1])) := rfl
theorem sh_37 : zShp[37]? = some (.inl (0, 24)) := rfl
theorem sh_38 : zShp[38]? = some (.inl (0, 264)) := rfl
theorem sh_39 : zShp[39]? = some (.inl (0, 24)) := rfl
theorem sh_40 : zShp[40]? = some (.inl (0, 60)) := rfl
theorem sh_41 : zShp[41]? = some (.inl (0, 80)) := rfl
theorem sh_42 : zShp[42]? = some (.inr (0, [43, 44, 45, 46, 47, -1, -1, -1])) := rfl
theorem sh_43 : zShp[43]? = some (.inl (0, 24)) := rfl
theorem sh_44 : zShp[44]? = some (.inl (0, 264)) := rfl
theorem sh_45 : zShp[45]? = some (.inl (0, 24)) := rfl
theorem sh_46 : zShp[46]? = some (.inl (0, 60)) := rfl
theorem sh_47 : zShp[47]? = some (.inl (0, 80)) := rfl
theorem sh_48 : zShp[48]? = some (.inr (0, [49, 50, 51, 52, 53, -1, -1, -1])) := rfl
theorem sh_49 : zShp[49]? = some (.inl (0, 24)) := rfl
theorem sh_50 : zShp[50]? = some (.inl (0, 264)) := rfl
theorem sh_51 : zShp[51]? = some (.inl (0, 24)) := rfl
theorem sh_52 : zShp[52]? = some (.inl (0, 60)) := rfl
theorem sh_53 : zShp[53]? = some (.inl (0, 80)) := rfl
theorem sh_54 : zShp[54]? = some (.inr (1, [0, 55, -1, 56, 57, -1, 58, -1, 62, 64, 67, 70, 73])) := rfl
theorem sh_55 : zShp[55]? = some (.inl (3, 6)) := rfl
theorem sh_56 : zShp[56]? = some (.inl (3, 2)) := rfl
theorem sh_57 : zShp[57]? = some (.inl (1, 2)) := rfl
theorem sh_58 : zShp[58]? = some (.inr (2, [59, -1, -1, -1, -1, 60, 61, -1, -1])) := rfl
theorem sh_59 : zShp[59]? = some (.inl (2, 80)) := rfl
theorem sh_60 : zShp[60]? = some (.inl (0, 3)) := rfl
theorem sh_61 : zShp[61]? = some (.inl (0, 6)) := rfl
theorem sh_62 : zShp[62]? = some (.inr (3, [63, -1])) := rfl
theorem sh_63 : zShp[63]? = some (.inl (0, 2881)) := rfl
theorem sh_64 : zShp[64]? = some (.inr (4, [65, 66])) := rfl
theorem sh_65 : zShp[65]? = some (.inl (0, 1024)) := rfl
theorem sh_66 : zShp[66]? = some (.inl (0, 8)) := rfl
theorem sh_67 : zShp[67]? = some (.inr (4, [68, 69])) := rfl
theorem sh_68 : zShp[68]? = some (.inl (0, 1024)) := rfl
theorem sh_69 : zShp[69]? = some (.inl (0, 8)) := rfl
theorem sh_70 : zShp[70]? = some (.inr (5, [71, 72, -1, -1])) := rfl
theorem sh_71 : zShp[71]? = some (.inl (0, 2881)) := rfl
theorem sh_72 : zShp[72]? = some (.inl (0, 8)) := rfl
theorem sh_73 : zShp[73]? = some (.inr (6, [74, 75, 76, 77, 78])) := rfl
theorem sh_74 : zShp[74]? = some (.inl (0, 8192)) := rfl
theorem sh_75 : zShp[75]? = some (.inl (0, 8192)) := rfl
theorem sh_76 : zShp[76]? = some (.inl (0, 8)) := rfl
theorem sh_77 : zShp[77]? = some (.inl (0, 8)) := rfl
theorem sh_78 : zShp[78]? = some (.inl (0, 8)) := rfl
theorem sh_79 : zShp[79]? = some (.inr (7, [80, 81, 82, 83, -1, -1, 84, -1, 85, 86, 87, 88, 89, 90, -1, -1, -1, -1, -1, -1, -1, -1, 91])) := rfl
theorem sh_80 : zShp[80]? = some (.inl (0, 455)) := rfl
theorem sh_81 : zShp[81]? = some (.inl (0, 2730)) := rfl
theorem sh_82 : zShp[82]? = some (.inl (0, 910)) := rfl
theorem sh_83 : zShp[83]? = some (.inl (0, 2)) := rfl
theorem sh_84 : zShp[84]? = some (.inl (0, 80)) := rfl
theorem sh_85 : zShp[85]? = some (.inl (0, 2881)) := rfl
theorem sh_86 : zShp[86]? = some (.inl (0, 2881)) := rfl
theorem sh_87 : zShp[87]? = some (.inl (0, 2881)) := rfl
theorem sh_88 : zShp[88]? = some (.inl (0, 2881)) := rfl
theorem sh_89 : zShp[89]? = some (.inl (0, 8)) := rfl
theorem sh_90 : zShp[90]? = some (.inl (0, 23048)) := rfl
theorem sh_91 : zShp[91]? = some (.inl (0, 6)) := rfl
set_option maxRecDepth 100000 in
theorem zs_max : Cond.static Lib.Math.max.name ∈ zTb := tw_3 0 rfl rfl
set_option maxRecDepth 100000 in
theorem zc_max : Cond.code Lib.Math.max.name Lib.Math.max.code 2 (some .int) ∈ zTb := tw_3 1 rfl rfl
set_option maxRecDepth 100000 in
theorem zs_min : Cond.static Lib.Math.min.name ∈ zTb := tw_2 191 rfl rfl
set_option maxRecDepth 100000 in
theorem zc_min : Cond.code Lib.Math.min.name Lib.Math.min.code 2 (some .int) ∈ zTb := tw_2 192 rfl rfl
set_option maxRecDepth 100000 in
theorem zi_Math : Cond.initialized "java/lang/Math" ∈ zTb := tw_1 11 rfl rfl
set_option maxRecDepth 100000 in
theorem zi_Sys : Cond.initialized "java/lang/System" ∈ zTb := tw_1 9 rfl rfl
set_option maxRecDepth 100000 in
theorem zn_copy : Cond.native arraycopyName ∈ zTb := tw_1 233 rfl rfl
set_option maxRecDepth 100000 in
theorem zs_copy : Cond.static arraycopyName ∈ zTb := tw_1 232 rfl rfl
set_option maxRecDepth 100000 in
theorem ml_L_9 : Cond.methodLink "GateRoadsLaw" 9 ⟨"GateRoads", "<init>", "()V"⟩ ∈ zTb := tw_1 15 rfl rfl
set_option maxRecDepth 100000 in
theorem ml_X_11 : Cond.methodLink "GateRoads" 11 ⟨"GateRoads$State", "<init>", "()V"⟩ ∈ zTb := tw_1 23 rfl rfl
set_option maxRecDepth 100000 in
theorem fl_S_9 : Cond.fieldLink "GateRoads$State" 9 "GateRoads$State" "rooms" "[I" ∈ zTb := tw_1 27 rfl rfl
set_option maxRecDepth 100000 in
theorem fl_X_76 : Cond.fieldLink "GateRoads" 76 "GateRoads$State" "rooms" "[I" ∈ zTb := tw_1 28 rfl rfl
set_option maxRecDepth 100000 in
theorem fl_S_15 : Cond.fieldLink "GateRoads$State" 15 "GateRoads$State" "roads" "[I" ∈ zTb := tw_1 29 rfl rfl
set_option maxRecDepth 100000 in
theorem fl_S_18 : Cond.fieldLink "GateRoads$State" 18 "GateRoads$State" "entered" "[I" ∈ zTb := tw_1 30 rfl rfl
set_option maxRecDepth 100000 in
theorem fl_X_159 : Cond.fieldLink "GateRoads" 159 "GateRoads$State" "entered" "[I" ∈ zTb := tw_1 31 rfl rfl
set_option maxRecDepth 100000 in
theorem fl_S_21 : Cond.fieldLink "GateRoads$State" 21 "GateRoads$State" "closures" "[I" ∈ zTb := tw_1 32 rfl rfl
set_option maxRecDepth 100000 in
theorem fl_S_24 : Cond.fieldLink "GateRoads$State" 24 "GateRoads$State" "travellers" "[I" ∈ zTb := tw_1 33 rfl rfl
set_option maxRecDepth 100000 in
theorem fl_S_33 : Cond.fieldLink "GateRoads$State" 33 "GateRoads$State" "roadCount" "I" ∈ zTb := tw_1 34 rfl rfl
set_option maxRecDepth 100000 in
theorem fl_G_25 : Cond.fieldLink "GateRoads$Gates" 25 "GateRoads$State" "roadCount" "I" ∈ zTb := tw_1 35 rfl rfl
set_option maxRecDepth 100000 in
theorem fl_X_80 : Cond.fieldLink "GateRoads" 80 "GateRoads$State" "roadCount" "I" ∈ zTb := tw_1 36 rfl rfl
set_option maxRecDepth 100000 in
theorem fl_B_35 : Cond.fieldLink "GateRoads$Backward" 35 "GateRoads$State" "roadCount" "I" ∈ zTb := tw_1 37 rfl rfl
set_option maxRecDepth 100000 in
theorem fl_O_43 : Cond.fieldLink "GateRoads$Onward" 43 "GateRoads$State" "roadCount" "I" ∈ zTb := tw_1 38 rfl rfl
set_option maxRecDepth 100000 in
theorem fl_F_49 : Cond.fieldLink "GateRoads$Fewest" 49 "GateRoads$State" "roadCount" "I" ∈ zTb := tw_1 39 rfl rfl
set_option maxRecDepth 100000 in
theorem fl_S_37 : Cond.fieldLink "GateRoads$State" 37 "GateRoads$State" "closureCount" "I" ∈ zTb := tw_1 40 rfl rfl
set_option maxRecDepth 100000 in
theorem fl_G_39 : Cond.fieldLink "GateRoads$Gates" 39 "GateRoads$State" "closureCount" "I" ∈ zTb := tw_1 41 rfl rfl
set_option maxRecDepth 100000 in
theorem fl_X_109 : Cond.fieldLink "GateRoads" 109 "GateRoads$State" "closureCount" "I" ∈ zTb := tw_1 42 rfl rfl
set_option maxRecDepth 100000 in
theorem fl_S_40 : Cond.fieldLink "GateRoads$State" 40 "GateRoads$State" "travellerCount" "I" ∈ zTb := tw_1 43 rfl rfl
set_option maxRecDepth 100000 in
theorem fl_X_122 : Cond.fieldLink "GateRoads" 122 "GateRoads$State" "travellerCount" "I" ∈ zTb := tw_1 44 rfl rfl
set_option maxRecDepth 100000 in
theorem fl_P_9 : Cond.fieldLink "GateRoads$Pad" 9 "GateRoads$Pad" "text" "[C" ∈ zTb := tw_1 70 rfl rfl
set_option maxRecDepth 100000 in
theorem fl_P_22 : Cond.fieldLink "GateRoads$Pad" 22 "GateRoads$Pad" "length" "I" ∈ zTb := tw_1 71 rfl rfl
set_option maxRecDepth 100000 in
theorem fl_X_171 : Cond.fieldLink "GateRoads" 171 "GateRoads$Pad" "length" "I" ∈ zTb := tw_1 72 rfl rfl
set_option maxRecDepth 100000 in
theorem fl_P_26 : Cond.fieldLink "GateRoads$Pad" 26 "GateRoads$Pad" "at" "I" ∈ zTb := tw_1 73 rfl rfl
set_option maxRecDepth 100000 in
theorem fl_P_29 : Cond.fieldLink "GateRoads$Pad" 29 "GateRoads$Pad" "wrong" "Z" ∈ zTb := tw_1 74 rfl rfl
set_option maxRecDepth 100000 in
theorem fl_P_58 : Cond.fieldLink "GateRoads$Pad" 58 "GateRoads$Pad" "kind" "I" ∈ zTb := tw_1 75 rfl rfl
set_option maxRecDepth 100000 in
theorem fl_X_308 : Cond.fieldLink "GateRoads" 308 "GateRoads$Pad" "kind" "I" ∈ zTb := tw_1 76 rfl rfl
set_option maxRecDepth 100000 in
theorem fl_P_15 : Cond.fieldLink "GateRoads$Pad" 15 "GateRoads$Pad" "numbers" "[I" ∈ zTb := tw_1 77 rfl rfl
set_option maxRecDepth 100000 in
theorem fl_X_305 : Cond.fieldLink "GateRoads" 305 "GateRoads$Pad" "numbers" "[I" ∈ zTb := tw_1 78 rfl rfl
set_option maxRecDepth 100000 in
theorem fl_P_19 : Cond.fieldLink "GateRoads$Pad" 19 "GateRoads$Pad" "clocks" "[I" ∈ zTb := tw_1 79 rfl rfl
set_option maxRecDepth 100000 in
theorem fl_P_74 : Cond.fieldLink "GateRoads$Pad" 74 "GateRoads$Pad" "spans" "I" ∈ zTb := tw_1 80 rfl rfl
set_option maxRecDepth 100000 in
theorem fl_X_330 : Cond.fieldLink "GateRoads" 330 "GateRoads$Pad" "spans" "I" ∈ zTb := tw_1 81 rfl rfl
set_option maxRecDepth 100000 in
theorem fl_P_80 : Cond.fieldLink "GateRoads$Pad" 80 "GateRoads$Pad" "strict" "I" ∈ zTb := tw_1 82 rfl rfl
set_option maxRecDepth 100000 in
theorem fl_X_327 : Cond.fieldLink "GateRoads" 327 "GateRoads$Pad" "strict" "I" ∈ zTb := tw_1 83 rfl rfl
set_option maxRecDepth 100000 in
theorem fl_G_9 : Cond.fieldLink "GateRoads$Gates" 9 "GateRoads$Gates" "roadsAt" "[I" ∈ zTb := tw_1 111 rfl rfl
set_option maxRecDepth 100000 in
theorem fl_G_15 : Cond.fieldLink "GateRoads$Gates" 15 "GateRoads$Gates" "ready" "Z" ∈ zTb := tw_1 112 rfl rfl
set_option maxRecDepth 100000 in
theorem fl_X_282 : Cond.fieldLink "GateRoads" 282 "GateRoads$Gates" "ready" "Z" ∈ zTb := tw_1 113 rfl rfl
set_option maxRecDepth 100000 in
theorem fl_O_9 : Cond.fieldLink "GateRoads$Onward" 9 "GateRoads$Onward" "comers" "[I" ∈ zTb := tw_1 125 rfl rfl
set_option maxRecDepth 100000 in
theorem fl_O_15 : Cond.fieldLink "GateRoads$Onward" 15 "GateRoads$Onward" "until" "[I" ∈ zTb := tw_1 126 rfl rfl
set_option maxRecDepth 100000 in
theorem fl_B_9 : Cond.fieldLink "GateRoads$Backward" 9 "GateRoads$Backward" "leading" "[I" ∈ zTb := tw_1 138 rfl rfl
set_option maxRecDepth 100000 in
theorem fl_B_15 : Cond.fieldLink "GateRoads$Backward" 15 "GateRoads$Backward" "nextEntry" "[I" ∈ zTb := tw_1 139 rfl rfl
set_option maxRecDepth 100000 in
theorem fl_B_24 : Cond.fieldLink "GateRoads$Backward" 24 "GateRoads$Backward" "goal" "I" ∈ zTb := tw_1 140 rfl rfl
set_option maxRecDepth 100000 in
theorem fl_B_28 : Cond.fieldLink "GateRoads$Backward" 28 "GateRoads$Backward" "by" "I" ∈ zTb := tw_1 141 rfl rfl
set_option maxRecDepth 100000 in
theorem fl_F_9 : Cond.fieldLink "GateRoads$Fewest" 9 "GateRoads$Fewest" "coming" "[I" ∈ zTb := tw_1 157 rfl rfl
set_option maxRecDepth 100000 in
theorem fl_F_15 : Cond.fieldLink "GateRoads$Fewest" 15 "GateRoads$Fewest" "queue" "[I" ∈ zTb := tw_1 158 rfl rfl
set_option maxRecDepth 100000 in
theorem fl_F_18 : Cond.fieldLink "GateRoads$Fewest" 18 "GateRoads$Fewest" "head" "[I" ∈ zTb := tw_1 159 rfl rfl
set_option maxRecDepth 100000 in
theorem fl_F_21 : Cond.fieldLink "GateRoads$Fewest" 21 "GateRoads$Fewest" "tail" "[I" ∈ zTb := tw_1 160 rfl rfl
set_option maxRecDepth 100000 in
theorem fl_F_24 : Cond.fieldLink "GateRoads$Fewest" 24 "GateRoads$Fewest" "best" "[I" ∈ zTb := tw_1 161 rfl rfl
set_option maxRecDepth 100000 in
theorem fl_X_12 : Cond.fieldLink "GateRoads" 12 "GateRoads" "now" "LGateRoads$State;" ∈ zTb := tw_1 173 rfl rfl
set_option maxRecDepth 100000 in
theorem fl_X_16 : Cond.fieldLink "GateRoads" 16 "GateRoads" "history" "[LGateRoads$State;" ∈ zTb := tw_1 174 rfl rfl
set_option maxRecDepth 100000 in
theorem fl_X_174 : Cond.fieldLink "GateRoads" 174 "GateRoads" "changes" "I" ∈ zTb := tw_1 175 rfl rfl
set_option maxRecDepth 100000 in
theorem fl_X_20 : Cond.fieldLink "GateRoads" 20 "GateRoads" "slots" "[LGateRoads$State;" ∈ zTb := tw_1 176 rfl rfl
set_option maxRecDepth 100000 in
theorem fl_X_23 : Cond.fieldLink "GateRoads" 23 "GateRoads" "saved" "[Z" ∈ zTb := tw_1 177 rfl rfl
set_option maxRecDepth 100000 in
theorem fl_X_168 : Cond.fieldLink "GateRoads" 168 "GateRoads" "reason" "I" ∈ zTb := tw_1 178 rfl rfl
set_option maxRecDepth 100000 in
theorem fl_X_30 : Cond.fieldLink "GateRoads" 30 "GateRoads" "pad" "LGateRoads$Pad;" ∈ zTb := tw_1 179 rfl rfl
set_option maxRecDepth 100000 in
theorem fl_X_262 : Cond.fieldLink "GateRoads" 262 "GateRoads" "carrying" "Z" ∈ zTb := tw_1 180 rfl rfl
set_option maxRecDepth 100000 in
theorem fl_X_37 : Cond.fieldLink "GateRoads" 37 "GateRoads" "gates" "LGateRoads$Gates;" ∈ zTb := tw_1 181 rfl rfl
set_option maxRecDepth 100000 in
theorem fl_X_44 : Cond.fieldLink "GateRoads" 44 "GateRoads" "onward" "LGateRoads$Onward;" ∈ zTb := tw_1 182 rfl rfl
set_option maxRecDepth 100000 in
theorem fl_X_48 : Cond.fieldLink "GateRoads" 48 "GateRoads" "otherOnward" "LGateRoads$Onward;" ∈ zTb := tw_1 183 rfl rfl
set_option maxRecDepth 100000 in
theorem fl_X_54 : Cond.fieldLink "GateRoads" 54 "GateRoads" "backward" "LGateRoads$Backward;" ∈ zTb := tw_1 184 rfl rfl
set_option maxRecDepth 100000 in
theorem fl_X_61 : Cond.fieldLink "GateRoads" 61 "GateRoads" "fewest" "LGateRoads$Fewest;" ∈ zTb := tw_1 185 rfl rfl
set_option maxRecDepth 100000 in
theorem ml_L_13 : Cond.methodLink "GateRoadsLaw" 13 ⟨"GateRoads", "room", "(IIII)I"⟩ ∈ zTb := tw_1 213 rfl rfl
set_option maxRecDepth 100000 in
theorem ml_X_65 : Cond.methodLink "GateRoads" 65 ⟨"GateRoads", "isPlace", "(I)Z"⟩ ∈ zTb := tw_1 217 rfl rfl
set_option maxRecDepth 100000 in
theorem ml_X_69 : Cond.methodLink "GateRoads" 69 ⟨"GateRoads", "within", "(III)Z"⟩ ∈ zTb := tw_1 220 rfl rfl
set_option maxRecDepth 100000 in
theorem ml_X_73 : Cond.methodLink "GateRoads" 73 ⟨"GateRoads", "remember", "()V"⟩ ∈ zTb := tw_1 223 rfl rfl
set_option maxRecDepth 100000 in
theorem ml_X_279 : Cond.methodLink "GateRoads" 279 ⟨"GateRoads$State", "copyFrom", "(LGateRoads$State;)V"⟩ ∈ zTb := tw_1 227 rfl rfl
set_option maxRecDepth 100000 in
theorem ml_S_27 : Cond.methodLink "GateRoads$State" 27 ⟨"java/lang/System", "arraycopy", "(Ljava/lang/Object;ILjava/lang/Object;II)V"⟩ ∈ zTb := tw_1 231 rfl rfl
set_option maxRecDepth 100000 in
theorem ml_L_18 : Cond.methodLink "GateRoadsLaw" 18 ⟨"GateRoads", "road", "(III)I"⟩ ∈ zTb := tw_1 234 rfl rfl
set_option maxRecDepth 100000 in
theorem ml_X_84 : Cond.methodLink "GateRoads" 84 ⟨"GateRoads$State", "addRoad", "(III)I"⟩ ∈ zTb := tw_1 238 rfl rfl
set_option maxRecDepth 100000 in
theorem ml_S_43 : Cond.methodLink "GateRoads$State" 43 ⟨"GateRoads$State", "dropSpans", "(II)V"⟩ ∈ zTb := tw_2 2 rfl rfl
set_option maxRecDepth 100000 in
theorem ml_S_51 : Cond.methodLink "GateRoads$State" 51 ⟨"java/util/Arrays", "fill", "([IIII)V"⟩ ∈ zTb := tw_2 6 rfl rfl
set_option maxRecDepth 100000 in
theorem ml_Ar_13 : Cond.methodLink "java/util/Arrays" 13 ⟨"java/util/Arrays", "rangeCheck", "(III)V"⟩ ∈ zTb := tw_2 9 rfl rfl
set_option maxRecDepth 100000 in
theorem ml_S_47 : Cond.methodLink "GateRoads$State" 47 ⟨"GateRoads$State", "addSpan", "(III)V"⟩ ∈ zTb := tw_2 12 rfl rfl
set_option maxRecDepth 100000 in
theorem ml_S_57 : Cond.methodLink "GateRoads$State" 57 ⟨"GateRoads$State", "ofRoads", "(II)I"⟩ ∈ zTb := tw_2 16 rfl rfl
set_option maxRecDepth 100000 in
theorem ml_S_64 : Cond.methodLink "GateRoads$State" 64 ⟨"GateRoads$State", "spanFrom", "(II)I"⟩ ∈ zTb := tw_2 20 rfl rfl
set_option maxRecDepth 100000 in
theorem ml_S_61 : Cond.methodLink "GateRoads$State" 61 ⟨"GateRoads$State", "spanTo", "(II)I"⟩ ∈ zTb := tw_2 24 rfl rfl
set_option maxRecDepth 100000 in
theorem ml_L_23 : Cond.methodLink "GateRoadsLaw" 23 ⟨"GateRoads", "open", "(IIII)I"⟩ ∈ zTb := tw_2 28 rfl rfl
set_option maxRecDepth 100000 in
theorem ml_X_88 : Cond.methodLink "GateRoads" 88 ⟨"GateRoads$State", "hasRoad", "(I)Z"⟩ ∈ zTb := tw_2 32 rfl rfl
set_option maxRecDepth 100000 in
theorem ml_X_91 : Cond.methodLink "GateRoads" 91 ⟨"GateRoads", "isSpan", "(III)Z"⟩ ∈ zTb := tw_2 36 rfl rfl
set_option maxRecDepth 100000 in
theorem ml_X_94 : Cond.methodLink "GateRoads" 94 ⟨"GateRoads$State", "ofRoads", "(II)I"⟩ ∈ zTb := tw_2 39 rfl rfl
set_option maxRecDepth 100000 in
theorem ml_X_98 : Cond.methodLink "GateRoads" 98 ⟨"GateRoads$State", "dropSpans", "(II)V"⟩ ∈ zTb := tw_2 40 rfl rfl
set_option maxRecDepth 100000 in
theorem ml_X_102 : Cond.methodLink "GateRoads" 102 ⟨"GateRoads$State", "addSpan", "(III)V"⟩ ∈ zTb := tw_2 41 rfl rfl
set_option maxRecDepth 100000 in
theorem ml_L_27 : Cond.methodLink "GateRoadsLaw" 27 ⟨"GateRoads", "more", "(III)I"⟩ ∈ zTb := tw_2 42 rfl rfl
set_option maxRecDepth 100000 in
theorem ml_X_106 : Cond.methodLink "GateRoads" 106 ⟨"GateRoads$State", "meetsSpan", "(III)Z"⟩ ∈ zTb := tw_2 46 rfl rfl
set_option maxRecDepth 100000 in
theorem ml_L_31 : Cond.methodLink "GateRoadsLaw" 31 ⟨"GateRoads", "close", "(III)I"⟩ ∈ zTb := tw_2 50 rfl rfl
set_option maxRecDepth 100000 in
theorem ml_X_112 : Cond.methodLink "GateRoads" 112 ⟨"GateRoads$State", "addClosure", "(III)I"⟩ ∈ zTb := tw_2 54 rfl rfl
set_option maxRecDepth 100000 in
theorem ml_L_35 : Cond.methodLink "GateRoadsLaw" 35 ⟨"GateRoads", "lift", "(I)I"⟩ ∈ zTb := tw_2 58 rfl rfl
set_option maxRecDepth 100000 in
theorem ml_X_115 : Cond.methodLink "GateRoads" 115 ⟨"GateRoads$State", "hasClosure", "(I)Z"⟩ ∈ zTb := tw_2 62 rfl rfl
set_option maxRecDepth 100000 in
theorem ml_X_118 : Cond.methodLink "GateRoads" 118 ⟨"GateRoads$State", "dropClosure", "(I)V"⟩ ∈ zTb := tw_2 66 rfl rfl
set_option maxRecDepth 100000 in
theorem ml_L_40 : Cond.methodLink "GateRoadsLaw" 40 ⟨"GateRoads", "traveller", "(II)I"⟩ ∈ zTb := tw_2 70 rfl rfl
set_option maxRecDepth 100000 in
theorem ml_X_125 : Cond.methodLink "GateRoads" 125 ⟨"GateRoads$State", "addTraveller", "(II)I"⟩ ∈ zTb := tw_2 74 rfl rfl
set_option maxRecDepth 100000 in
theorem ml_L_45 : Cond.methodLink "GateRoadsLaw" 45 ⟨"GateRoads", "go", "(II)I"⟩ ∈ zTb := tw_2 78 rfl rfl
set_option maxRecDepth 100000 in
theorem ml_X_128 : Cond.methodLink "GateRoads" 128 ⟨"GateRoads$State", "hasTraveller", "(I)Z"⟩ ∈ zTb := tw_2 82 rfl rfl
set_option maxRecDepth 100000 in
theorem ml_X_131 : Cond.methodLink "GateRoads" 131 ⟨"GateRoads$State", "whyNoGoing", "(II)I"⟩ ∈ zTb := tw_2 86 rfl rfl
set_option maxRecDepth 100000 in
theorem ml_S_67 : Cond.methodLink "GateRoads$State" 67 ⟨"GateRoads$State", "ofTravellers", "(II)I"⟩ ∈ zTb := tw_2 90 rfl rfl
set_option maxRecDepth 100000 in
theorem ml_S_87 : Cond.methodLink "GateRoads$State" 87 ⟨"GateRoads$State", "whyNoEntry", "(II)I"⟩ ∈ zTb := tw_2 94 rfl rfl
set_option maxRecDepth 100000 in
theorem ml_S_90 : Cond.methodLink "GateRoads$State" 90 ⟨"GateRoads$State", "spanEnd", "(II)I"⟩ ∈ zTb := tw_2 98 rfl rfl
set_option maxRecDepth 100000 in
theorem ml_S_93 : Cond.methodLink "GateRoads$State" 93 ⟨"GateRoads$State", "closedAt", "(II)Z"⟩ ∈ zTb := tw_2 102 rfl rfl
set_option maxRecDepth 100000 in
theorem ml_S_70 : Cond.methodLink "GateRoads$State" 70 ⟨"GateRoads$State", "ofClosures", "(II)I"⟩ ∈ zTb := tw_2 106 rfl rfl
set_option maxRecDepth 100000 in
theorem ml_X_134 : Cond.methodLink "GateRoads" 134 ⟨"GateRoads", "refuse", "(I)I"⟩ ∈ zTb := tw_2 110 rfl rfl
set_option maxRecDepth 100000 in
theorem ml_X_138 : Cond.methodLink "GateRoads" 138 ⟨"GateRoads$State", "enter", "(II)I"⟩ ∈ zTb := tw_2 114 rfl rfl
set_option maxRecDepth 100000 in
theorem ml_L_49 : Cond.methodLink "GateRoadsLaw" 49 ⟨"GateRoads", "stay", "(II)I"⟩ ∈ zTb := tw_2 118 rfl rfl
set_option maxRecDepth 100000 in
theorem ml_X_141 : Cond.methodLink "GateRoads" 141 ⟨"GateRoads$State", "whyNoStaying", "(II)I"⟩ ∈ zTb := tw_2 122 rfl rfl
set_option maxRecDepth 100000 in
theorem ml_S_76 : Cond.methodLink "GateRoads$State" 76 ⟨"GateRoads$State", "openUntil", "(II)I"⟩ ∈ zTb := tw_2 126 rfl rfl
set_option maxRecDepth 100000 in
theorem ml_S_73 : Cond.methodLink "GateRoads$State" 73 ⟨"GateRoads$State", "ofRooms", "(II)I"⟩ ∈ zTb := tw_2 130 rfl rfl
set_option maxRecDepth 100000 in
theorem ml_X_144 : Cond.methodLink "GateRoads" 144 ⟨"GateRoads$State", "waitThere", "(II)I"⟩ ∈ zTb := tw_2 134 rfl rfl
set_option maxRecDepth 100000 in
theorem ml_L_53 : Cond.methodLink "GateRoadsLaw" 53 ⟨"GateRoads", "ofPlace", "(II)I"⟩ ∈ zTb := tw_2 138 rfl rfl
set_option maxRecDepth 100000 in
theorem ml_X_147 : Cond.methodLink "GateRoads" 147 ⟨"GateRoads$State", "roadsWith", "(II)I"⟩ ∈ zTb := tw_2 142 rfl rfl
set_option maxRecDepth 100000 in
theorem ml_X_150 : Cond.methodLink "GateRoads" 150 ⟨"GateRoads$State", "travellersAt", "(I)I"⟩ ∈ zTb := tw_2 146 rfl rfl
set_option maxRecDepth 100000 in
theorem ml_X_153 : Cond.methodLink "GateRoads" 153 ⟨"GateRoads$State", "ofRooms", "(II)I"⟩ ∈ zTb := tw_2 150 rfl rfl
set_option maxRecDepth 100000 in
theorem ml_L_57 : Cond.methodLink "GateRoadsLaw" 57 ⟨"GateRoads", "ofRoad", "(II)I"⟩ ∈ zTb := tw_2 151 rfl rfl
set_option maxRecDepth 100000 in
theorem ml_X_156 : Cond.methodLink "GateRoads" 156 ⟨"GateRoads$State", "closuresOf", "(I)I"⟩ ∈ zTb := tw_2 155 rfl rfl
set_option maxRecDepth 100000 in
theorem ml_L_61 : Cond.methodLink "GateRoadsLaw" 61 ⟨"GateRoads", "ofClosure", "(II)I"⟩ ∈ zTb := tw_2 159 rfl rfl
set_option maxRecDepth 100000 in
theorem ml_X_162 : Cond.methodLink "GateRoads" 162 ⟨"GateRoads$State", "ofClosures", "(II)I"⟩ ∈ zTb := tw_2 163 rfl rfl
set_option maxRecDepth 100000 in
theorem ml_L_65 : Cond.methodLink "GateRoadsLaw" 65 ⟨"GateRoads", "ofTraveller", "(II)I"⟩ ∈ zTb := tw_2 164 rfl rfl
set_option maxRecDepth 100000 in
theorem ml_X_165 : Cond.methodLink "GateRoads" 165 ⟨"GateRoads$State", "ofTravellers", "(II)I"⟩ ∈ zTb := tw_2 168 rfl rfl
set_option maxRecDepth 100000 in
theorem ml_L_69 : Cond.methodLink "GateRoadsLaw" 69 ⟨"GateRoads", "count", "(I)I"⟩ ∈ zTb := tw_2 169 rfl rfl
set_option maxRecDepth 100000 in
theorem ml_L_73 : Cond.methodLink "GateRoadsLaw" 73 ⟨"GateRoads", "whyShut", "(II)I"⟩ ∈ zTb := tw_2 173 rfl rfl
set_option maxRecDepth 100000 in
theorem ml_X_177 : Cond.methodLink "GateRoads" 177 ⟨"GateRoads$State", "whyNoEntry", "(II)I"⟩ ∈ zTb := tw_2 177 rfl rfl
set_option maxRecDepth 100000 in
theorem ml_L_77 : Cond.methodLink "GateRoadsLaw" 77 ⟨"GateRoads", "earliest", "(III)I"⟩ ∈ zTb := tw_2 178 rfl rfl
set_option maxRecDepth 100000 in
theorem ml_X_180 : Cond.methodLink "GateRoads" 180 ⟨"GateRoads", "earliestTime", "(III)I"⟩ ∈ zTb := tw_2 182 rfl rfl
set_option maxRecDepth 100000 in
theorem ml_X_217 : Cond.methodLink "GateRoads" 217 ⟨"GateRoads$State", "waitEnd", "(II)I"⟩ ∈ zTb := tw_2 186 rfl rfl
set_option maxRecDepth 100000 in
theorem ml_S_79 : Cond.methodLink "GateRoads$State" 79 ⟨"java/lang/Math", "min", "(II)I"⟩ ∈ zTb := tw_2 190 rfl rfl
set_option maxRecDepth 100000 in
theorem ml_X_233 : Cond.methodLink "GateRoads" 233 ⟨"GateRoads", "firstComing", "(IIIIII)I"⟩ ∈ zTb := tw_2 193 rfl rfl
set_option maxRecDepth 100000 in
theorem ml_X_183 : Cond.methodLink "GateRoads" 183 ⟨"GateRoads$Gates", "prepare", "(LGateRoads$State;)V"⟩ ∈ zTb := tw_2 197 rfl rfl
set_option maxRecDepth 100000 in
theorem ml_G_19 : Cond.methodLink "GateRoads$Gates" 19 ⟨"java/util/Arrays", "fill", "([II)V"⟩ ∈ zTb := tw_2 201 rfl rfl
set_option maxRecDepth 100000 in
theorem ml_G_31 : Cond.methodLink "GateRoads$Gates" 31 ⟨"GateRoads$State", "ofRoads", "(II)I"⟩ ∈ zTb := tw_2 204 rfl rfl
set_option maxRecDepth 100000 in
theorem ml_G_35 : Cond.methodLink "GateRoads$Gates" 35 ⟨"GateRoads$Gates", "letIn", "(LGateRoads$State;II)V"⟩ ∈ zTb := tw_2 205 rfl rfl
set_option maxRecDepth 100000 in
theorem ml_G_46 : Cond.methodLink "GateRoads$Gates" 46 ⟨"GateRoads$State", "spanTo", "(II)I"⟩ ∈ zTb := tw_2 209 rfl rfl
set_option maxRecDepth 100000 in
theorem ml_G_49 : Cond.methodLink "GateRoads$Gates" 49 ⟨"java/lang/Math", "min", "(II)I"⟩ ∈ zTb := tw_2 210 rfl rfl
set_option maxRecDepth 100000 in
theorem ml_G_54 : Cond.methodLink "GateRoads$Gates" 54 ⟨"GateRoads$State", "spanFrom", "(II)I"⟩ ∈ zTb := tw_2 211 rfl rfl
set_option maxRecDepth 100000 in
theorem ml_G_42 : Cond.methodLink "GateRoads$Gates" 42 ⟨"GateRoads$Gates", "shut", "(LGateRoads$State;I)V"⟩ ∈ zTb := tw_2 212 rfl rfl
set_option maxRecDepth 100000 in
theorem ml_G_57 : Cond.methodLink "GateRoads$Gates" 57 ⟨"GateRoads$State", "ofClosures", "(II)I"⟩ ∈ zTb := tw_2 216 rfl rfl
set_option maxRecDepth 100000 in
theorem ml_X_220 : Cond.methodLink "GateRoads" 220 ⟨"GateRoads$Onward", "start", "(II)V"⟩ ∈ zTb := tw_2 217 rfl rfl
set_option maxRecDepth 100000 in
theorem ml_O_18 : Cond.methodLink "GateRoads$Onward" 18 ⟨"java/util/Arrays", "fill", "([II)V"⟩ ∈ zTb := tw_2 221 rfl rfl
set_option maxRecDepth 100000 in
theorem ml_X_221 : Cond.methodLink "GateRoads" 221 ⟨"GateRoads$Onward", "comersAt", "(I)I"⟩ ∈ zTb := tw_2 222 rfl rfl
set_option maxRecDepth 100000 in
theorem ml_X_230 : Cond.methodLink "GateRoads" 230 ⟨"GateRoads", "has", "(II)Z"⟩ ∈ zTb := tw_2 226 rfl rfl
set_option maxRecDepth 100000 in
theorem ml_X_190 : Cond.methodLink "GateRoads" 190 ⟨"GateRoads$Gates", "at", "(I)I"⟩ ∈ zTb := tw_2 229 rfl rfl
set_option maxRecDepth 100000 in
theorem ml_X_224 : Cond.methodLink "GateRoads" 224 ⟨"GateRoads$Onward", "minute", "(LGateRoads$State;II)I"⟩ ∈ zTb := tw_2 233 rfl rfl
set_option maxRecDepth 100000 in
theorem ml_O_28 : Cond.methodLink "GateRoads$Onward" 28 ⟨"GateRoads$State", "waitEnd", "(II)I"⟩ ∈ zTb := tw_2 238 rfl rfl
set_option maxRecDepth 100000 in
theorem ml_O_34 : Cond.methodLink "GateRoads$Onward" 34 ⟨"java/lang/Math", "max", "(II)I"⟩ ∈ zTb := tw_2 239 rfl rfl
set_option maxRecDepth 100000 in
theorem ml_O_39 : Cond.methodLink "GateRoads$Onward" 39 ⟨"GateRoads$Onward", "leave", "(LGateRoads$State;III)V"⟩ ∈ zTb := tw_3 2 rfl rfl
set_option maxRecDepth 100000 in
theorem ml_O_47 : Cond.methodLink "GateRoads$Onward" 47 ⟨"GateRoads$State", "ofRoads", "(II)I"⟩ ∈ zTb := tw_3 6 rfl rfl
set_option maxRecDepth 100000 in
theorem ml_L_81 : Cond.methodLink "GateRoadsLaw" 81 ⟨"GateRoads", "latest", "(III)I"⟩ ∈ zTb := tw_3 7 rfl rfl
set_option maxRecDepth 100000 in
theorem ml_X_187 : Cond.methodLink "GateRoads" 187 ⟨"GateRoads$Backward", "start", "(II)V"⟩ ∈ zTb := tw_3 11 rfl rfl
set_option maxRecDepth 100000 in
theorem ml_B_18 : Cond.methodLink "GateRoads$Backward" 18 ⟨"java/util/Arrays", "fill", "([II)V"⟩ ∈ zTb := tw_3 15 rfl rfl
set_option maxRecDepth 100000 in
theorem ml_X_193 : Cond.methodLink "GateRoads" 193 ⟨"GateRoads$Backward", "minute", "(LGateRoads$State;II)V"⟩ ∈ zTb := tw_3 16 rfl rfl
set_option maxRecDepth 100000 in
theorem ml_B_40 : Cond.methodLink "GateRoads$Backward" 40 ⟨"GateRoads$State", "ofRoads", "(II)I"⟩ ∈ zTb := tw_3 21 rfl rfl
set_option maxRecDepth 100000 in
theorem ml_B_44 : Cond.methodLink "GateRoads$Backward" 44 ⟨"GateRoads$Backward", "leads", "(II)Z"⟩ ∈ zTb := tw_3 22 rfl rfl
set_option maxRecDepth 100000 in
theorem ml_B_47 : Cond.methodLink "GateRoads$Backward" 47 ⟨"GateRoads$State", "waitEnd", "(II)I"⟩ ∈ zTb := tw_3 26 rfl rfl
set_option maxRecDepth 100000 in
theorem ml_X_197 : Cond.methodLink "GateRoads" 197 ⟨"GateRoads$Backward", "leads", "(II)Z"⟩ ∈ zTb := tw_3 27 rfl rfl
set_option maxRecDepth 100000 in
theorem ml_L_85 : Cond.methodLink "GateRoadsLaw" 85 ⟨"GateRoads", "way", "(IIII)I"⟩ ∈ zTb := tw_3 28 rfl rfl
set_option maxRecDepth 100000 in
theorem ml_X_201 : Cond.methodLink "GateRoads" 201 ⟨"GateRoads", "fewestRoads", "(IIII)I"⟩ ∈ zTb := tw_3 32 rfl rfl
set_option maxRecDepth 100000 in
theorem ml_X_290 : Cond.methodLink "GateRoads" 290 ⟨"GateRoads$Fewest", "start", "(II)V"⟩ ∈ zTb := tw_3 36 rfl rfl
set_option maxRecDepth 100000 in
theorem ml_F_27 : Cond.methodLink "GateRoads$Fewest" 27 ⟨"java/util/Arrays", "fill", "([II)V"⟩ ∈ zTb := tw_3 40 rfl rfl
set_option maxRecDepth 100000 in
theorem ml_F_33 : Cond.methodLink "GateRoads$Fewest" 33 ⟨"GateRoads$Fewest", "push", "(III)V"⟩ ∈ zTb := tw_3 41 rfl rfl
set_option maxRecDepth 100000 in
theorem ml_F_37 : Cond.methodLink "GateRoads$Fewest" 37 ⟨"GateRoads$Fewest", "cell", "(II)I"⟩ ∈ zTb := tw_3 45 rfl rfl
set_option maxRecDepth 100000 in
theorem ml_X_291 : Cond.methodLink "GateRoads" 291 ⟨"GateRoads$Fewest", "minute", "(LGateRoads$State;II)V"⟩ ∈ zTb := tw_3 48 rfl rfl
set_option maxRecDepth 100000 in
theorem ml_F_41 : Cond.methodLink "GateRoads$Fewest" 41 ⟨"GateRoads$State", "waitEnd", "(II)I"⟩ ∈ zTb := tw_3 52 rfl rfl
set_option maxRecDepth 100000 in
theorem ml_F_46 : Cond.methodLink "GateRoads$Fewest" 46 ⟨"GateRoads$Fewest", "bestAt", "(II)I"⟩ ∈ zTb := tw_3 53 rfl rfl
set_option maxRecDepth 100000 in
theorem ml_F_57 : Cond.methodLink "GateRoads$Fewest" 57 ⟨"GateRoads$Fewest", "leave", "(LGateRoads$State;II)V"⟩ ∈ zTb := tw_3 58 rfl rfl
set_option maxRecDepth 100000 in
theorem ml_F_61 : Cond.methodLink "GateRoads$Fewest" 61 ⟨"GateRoads$State", "ofRoads", "(II)I"⟩ ∈ zTb := tw_3 62 rfl rfl
set_option maxRecDepth 100000 in
theorem ml_X_292 : Cond.methodLink "GateRoads" 292 ⟨"GateRoads$Fewest", "comingTo", "(II)I"⟩ ∈ zTb := tw_3 63 rfl rfl
set_option maxRecDepth 100000 in
theorem ml_X_205 : Cond.methodLink "GateRoads" 205 ⟨"GateRoads", "lookBack", "(III)V"⟩ ∈ zTb := tw_3 67 rfl rfl
set_option maxRecDepth 100000 in
theorem ml_X_208 : Cond.methodLink "GateRoads" 208 ⟨"GateRoads", "firstRoad", "(II)I"⟩ ∈ zTb := tw_3 71 rfl rfl
set_option maxRecDepth 100000 in
theorem ml_X_211 : Cond.methodLink "GateRoads" 211 ⟨"GateRoads", "firstEntry", "(II)I"⟩ ∈ zTb := tw_3 75 rfl rfl
set_option maxRecDepth 100000 in
theorem ml_X_295 : Cond.methodLink "GateRoads" 295 ⟨"GateRoads", "leadsOn", "(II)Z"⟩ ∈ zTb := tw_3 79 rfl rfl
set_option maxRecDepth 100000 in
theorem ml_X_214 : Cond.methodLink "GateRoads" 214 ⟨"GateRoads", "lastEntry", "(II)I"⟩ ∈ zTb := tw_3 83 rfl rfl
set_option maxRecDepth 100000 in
theorem ml_L_89 : Cond.methodLink "GateRoadsLaw" 89 ⟨"GateRoads", "reach", "(III)I"⟩ ∈ zTb := tw_3 87 rfl rfl
set_option maxRecDepth 100000 in
theorem ml_L_93 : Cond.methodLink "GateRoadsLaw" 93 ⟨"GateRoads", "needed", "(III)I"⟩ ∈ zTb := tw_3 91 rfl rfl
set_option maxRecDepth 100000 in
theorem ml_X_227 : Cond.methodLink "GateRoads" 227 ⟨"GateRoads", "roadsOfOneWay", "(III)I"⟩ ∈ zTb := tw_3 95 rfl rfl
set_option maxRecDepth 100000 in
theorem ml_X_298 : Cond.methodLink "GateRoads" 298 ⟨"GateRoads", "roadLeadingOn", "(II)I"⟩ ∈ zTb := tw_3 99 rfl rfl
set_option maxRecDepth 100000 in
theorem ml_L_97 : Cond.methodLink "GateRoadsLaw" 97 ⟨"GateRoads", "meet", "(III)I"⟩ ∈ zTb := tw_3 103 rfl rfl
set_option maxRecDepth 100000 in
theorem ml_X_237 : Cond.methodLink "GateRoads" 237 ⟨"GateRoads$State", "stayLeft", "(I)I"⟩ ∈ zTb := tw_3 107 rfl rfl
set_option maxRecDepth 100000 in
theorem ml_S_84 : Cond.methodLink "GateRoads$State" 84 ⟨"java/lang/Math", "max", "(II)I"⟩ ∈ zTb := tw_3 111 rfl rfl
set_option maxRecDepth 100000 in
theorem ml_X_240 : Cond.methodLink "GateRoads" 240 ⟨"java/lang/Math", "min", "(II)I"⟩ ∈ zTb := tw_3 112 rfl rfl
set_option maxRecDepth 100000 in
theorem ml_X_245 : Cond.methodLink "GateRoads" 245 ⟨"GateRoads", "lowest", "(I)I"⟩ ∈ zTb := tw_3 113 rfl rfl
set_option maxRecDepth 100000 in
theorem ml_X_285 : Cond.methodLink "GateRoads" 285 ⟨"java/lang/Integer", "bitCount", "(I)I"⟩ ∈ zTb := tw_3 116 rfl rfl
set_option maxRecDepth 100000 in
theorem ck_In_265 : Cond.constant "java/lang/Integer" 265 (1431655765 : Int32) ∈ zTb := tw_3 119 rfl rfl
set_option maxRecDepth 100000 in
theorem ck_In_266 : Cond.constant "java/lang/Integer" 266 (858993459 : Int32) ∈ zTb := tw_3 120 rfl rfl
set_option maxRecDepth 100000 in
theorem ck_In_267 : Cond.constant "java/lang/Integer" 267 (252645135 : Int32) ∈ zTb := tw_3 121 rfl rfl
set_option maxRecDepth 100000 in
theorem ml_L_101 : Cond.methodLink "GateRoadsLaw" 101 ⟨"GateRoads", "arrives", "(II)I"⟩ ∈ zTb := tw_3 122 rfl rfl
set_option maxRecDepth 100000 in
theorem ml_L_105 : Cond.methodLink "GateRoadsLaw" 105 ⟨"GateRoads", "canStay", "(I)I"⟩ ∈ zTb := tw_3 126 rfl rfl
set_option maxRecDepth 100000 in
theorem ml_L_111 : Cond.methodLink "GateRoadsLaw" 111 ⟨"GateRoads", "put", "(J)I"⟩ ∈ zTb := tw_3 130 rfl rfl
set_option maxRecDepth 100000 in
theorem ml_X_248 : Cond.methodLink "GateRoads" 248 ⟨"GateRoads", "charactersIn", "(J)I"⟩ ∈ zTb := tw_3 134 rfl rfl
set_option maxRecDepth 100000 in
theorem cl_X_252 : Cond.constantLong "GateRoads" 252 (255 : Int64) ∈ zTb := tw_3 137 rfl rfl
set_option maxRecDepth 100000 in
theorem cl_X_301 : Cond.constantLong "GateRoads" 301 (33 : Int64) ∈ zTb := tw_3 138 rfl rfl
set_option maxRecDepth 100000 in
theorem cl_X_303 : Cond.constantLong "GateRoads" 303 (126 : Int64) ∈ zTb := tw_3 139 rfl rfl
set_option maxRecDepth 100000 in
theorem ml_X_254 : Cond.methodLink "GateRoads" 254 ⟨"GateRoads$Pad", "append", "(C)V"⟩ ∈ zTb := tw_3 140 rfl rfl
set_option maxRecDepth 100000 in
theorem ml_L_116 : Cond.methodLink "GateRoadsLaw" 116 ⟨"GateRoads", "wipe", "()I"⟩ ∈ zTb := tw_3 144 rfl rfl
set_option maxRecDepth 100000 in
theorem ml_L_121 : Cond.methodLink "GateRoadsLaw" 121 ⟨"GateRoads", "fault", "()I"⟩ ∈ zTb := tw_3 148 rfl rfl
set_option maxRecDepth 100000 in
theorem ml_X_258 : Cond.methodLink "GateRoads" 258 ⟨"GateRoads$Pad", "firstWrong", "()I"⟩ ∈ zTb := tw_3 152 rfl rfl
set_option maxRecDepth 100000 in
theorem ml_P_33 : Cond.methodLink "GateRoads$Pad" 33 ⟨"GateRoads$Pad", "rewind", "()V"⟩ ∈ zTb := tw_3 156 rfl rfl
set_option maxRecDepth 100000 in
theorem ml_P_36 : Cond.methodLink "GateRoads$Pad" 36 ⟨"GateRoads$Pad", "readOrder", "()V"⟩ ∈ zTb := tw_3 160 rfl rfl
set_option maxRecDepth 100000 in
theorem ml_P_61 : Cond.methodLink "GateRoads$Pad" 61 ⟨"GateRoads$Pad", "readSpans", "()V"⟩ ∈ zTb := tw_3 164 rfl rfl
set_option maxRecDepth 100000 in
theorem ml_P_70 : Cond.methodLink "GateRoads$Pad" 70 ⟨"GateRoads$Pad", "readNumber", "()I"⟩ ∈ zTb := tw_3 168 rfl rfl
set_option maxRecDepth 100000 in
theorem ml_P_54 : Cond.methodLink "GateRoads$Pad" 54 ⟨"GateRoads$Pad", "readDigit", "(I)I"⟩ ∈ zTb := tw_3 172 rfl rfl
set_option maxRecDepth 100000 in
theorem ml_P_50 : Cond.methodLink "GateRoads$Pad" 50 ⟨"GateRoads$Pad", "digitStands", "(I)Z"⟩ ∈ zTb := tw_3 176 rfl rfl
set_option maxRecDepth 100000 in
theorem ml_P_39 : Cond.methodLink "GateRoads$Pad" 39 ⟨"GateRoads$Pad", "expect", "(C)V"⟩ ∈ zTb := tw_3 180 rfl rfl
set_option maxRecDepth 100000 in
theorem ml_P_47 : Cond.methodLink "GateRoads$Pad" 47 ⟨"GateRoads$Pad", "take", "(C)Z"⟩ ∈ zTb := tw_3 184 rfl rfl
set_option maxRecDepth 100000 in
theorem ml_P_43 : Cond.methodLink "GateRoads$Pad" 43 ⟨"GateRoads$Pad", "stands", "(C)Z"⟩ ∈ zTb := tw_3 188 rfl rfl
set_option maxRecDepth 100000 in
theorem ml_P_77 : Cond.methodLink "GateRoads$Pad" 77 ⟨"GateRoads$Pad", "readClock", "()I"⟩ ∈ zTb := tw_3 192 rfl rfl
set_option maxRecDepth 100000 in
theorem ml_P_64 : Cond.methodLink "GateRoads$Pad" 64 ⟨"GateRoads$Pad", "readClosure", "()V"⟩ ∈ zTb := tw_3 196 rfl rfl
set_option maxRecDepth 100000 in
theorem ml_P_67 : Cond.methodLink "GateRoads$Pad" 67 ⟨"GateRoads$Pad", "readDigitAndNumber", "(C)V"⟩ ∈ zTb := tw_3 200 rfl rfl
set_option maxRecDepth 100000 in
theorem ml_L_125 : Cond.methodLink "GateRoadsLaw" 125 ⟨"GateRoads", "carryOut", "()I"⟩ ∈ zTb := tw_3 204 rfl rfl
set_option maxRecDepth 100000 in
theorem ml_X_266 : Cond.methodLink "GateRoads" 266 ⟨"GateRoads$Pad", "rewind", "()V"⟩ ∈ zTb := tw_3 208 rfl rfl
set_option maxRecDepth 100000 in
theorem ml_X_269 : Cond.methodLink "GateRoads" 269 ⟨"GateRoads$Pad", "readOrder", "()V"⟩ ∈ zTb := tw_3 209 rfl rfl
set_option maxRecDepth 100000 in
theorem ml_X_272 : Cond.methodLink "GateRoads" 272 ⟨"GateRoads", "carryOrder", "()I"⟩ ∈ zTb := tw_3 210 rfl rfl
set_option maxRecDepth 100000 in
theorem ml_X_311 : Cond.methodLink "GateRoads" 311 ⟨"GateRoads", "tellSpans", "(I)I"⟩ ∈ zTb := tw_3 214 rfl rfl
set_option maxRecDepth 100000 in
theorem ml_X_323 : Cond.methodLink "GateRoads" 323 ⟨"GateRoads$Pad", "spansStandApart", "()Z"⟩ ∈ zTb := tw_3 218 rfl rfl
set_option maxRecDepth 100000 in
theorem ml_P_83 : Cond.methodLink "GateRoads$Pad" 83 ⟨"GateRoads$Pad", "spanFrom", "(I)I"⟩ ∈ zTb := tw_3 222 rfl rfl
set_option maxRecDepth 100000 in
theorem ml_P_86 : Cond.methodLink "GateRoads$Pad" 86 ⟨"GateRoads$Pad", "spanTo", "(I)I"⟩ ∈ zTb := tw_3 226 rfl rfl
set_option maxRecDepth 100000 in
theorem ml_X_333 : Cond.methodLink "GateRoads" 333 ⟨"GateRoads$Pad", "spanFrom", "(I)I"⟩ ∈ zTb := tw_3 230 rfl rfl
set_option maxRecDepth 100000 in
theorem ml_X_336 : Cond.methodLink "GateRoads" 336 ⟨"GateRoads$Pad", "spanTo", "(I)I"⟩ ∈ zTb := tw_3 231 rfl rfl
set_option maxRecDepth 100000 in
theorem ml_X_314 : Cond.methodLink "GateRoads" 314 ⟨"GateRoads", "close", "(III)I"⟩ ∈ zTb := tw_3 232 rfl rfl
set_option maxRecDepth 100000 in
theorem ml_X_317 : Cond.methodLink "GateRoads" 317 ⟨"GateRoads", "go", "(II)I"⟩ ∈ zTb := tw_3 233 rfl rfl
set_option maxRecDepth 100000 in
theorem ml_X_320 : Cond.methodLink "GateRoads" 320 ⟨"GateRoads", "stay", "(II)I"⟩ ∈ zTb := tw_3 234 rfl rfl
set_option maxRecDepth 100000 in
theorem ml_X_275 : Cond.methodLink "GateRoads" 275 ⟨"GateRoads$Pad", "take", "(C)Z"⟩ ∈ zTb := tw_3 235 rfl rfl
set_option maxRecDepth 100000 in
theorem ml_L_129 : Cond.methodLink "GateRoadsLaw" 129 ⟨"GateRoads", "undo", "()I"⟩ ∈ zTb := tw_3 236 rfl rfl
set_option maxRecDepth 100000 in
theorem ml_L_133 : Cond.methodLink "GateRoadsLaw" 133 ⟨"GateRoads", "save", "(I)I"⟩ ∈ zTb := tw_4 0 rfl rfl
set_option maxRecDepth 100000 in
theorem ml_L_137 : Cond.methodLink "GateRoadsLaw" 137 ⟨"GateRoads", "restore", "(I)I"⟩ ∈ zTb := tw_4 4 rfl rfl
set_option maxRecDepth 100000 in
theorem ml_L_12 : Cond.methodLink "GateRoadsLaw" 12 ⟨"GateRoadsModel", "<init>", "()V"⟩ ∈ zTb := tw_4 10 rfl rfl
set_option maxRecDepth 100000 in
theorem fl_M_7 : Cond.fieldLink "GateRoadsModel" 7 "GateRoadsModel" "now" "[I" ∈ zTb := tw_4 14 rfl rfl
set_option maxRecDepth 100000 in
theorem fl_M_13 : Cond.fieldLink "GateRoadsModel" 13 "GateRoadsModel" "past" "[I" ∈ zTb := tw_4 15 rfl rfl
set_option maxRecDepth 100000 in
theorem fl_M_16 : Cond.fieldLink "GateRoadsModel" 16 "GateRoadsModel" "slots" "[I" ∈ zTb := tw_4 16 rfl rfl
set_option maxRecDepth 100000 in
theorem fl_M_19 : Cond.fieldLink "GateRoadsModel" 19 "GateRoadsModel" "isSaved" "[I" ∈ zTb := tw_4 17 rfl rfl
set_option maxRecDepth 100000 in
theorem fl_M_50 : Cond.fieldLink "GateRoadsModel" 50 "GateRoadsModel" "states" "I" ∈ zTb := tw_4 18 rfl rfl
set_option maxRecDepth 100000 in
theorem fl_M_98 : Cond.fieldLink "GateRoadsModel" 98 "GateRoadsModel" "reason" "I" ∈ zTb := tw_4 19 rfl rfl
set_option maxRecDepth 100000 in
theorem fl_M_22 : Cond.fieldLink "GateRoadsModel" 22 "GateRoadsModel" "pad" "[I" ∈ zTb := tw_4 20 rfl rfl
set_option maxRecDepth 100000 in
theorem fl_M_132 : Cond.fieldLink "GateRoadsModel" 132 "GateRoadsModel" "padLength" "I" ∈ zTb := tw_4 21 rfl rfl
set_option maxRecDepth 100000 in
theorem fl_M_25 : Cond.fieldLink "GateRoadsModel" 25 "GateRoadsModel" "comes" "[I" ∈ zTb := tw_4 22 rfl rfl
set_option maxRecDepth 100000 in
theorem fl_M_28 : Cond.fieldLink "GateRoadsModel" 28 "GateRoadsModel" "there" "[I" ∈ zTb := tw_4 23 rfl rfl
set_option maxRecDepth 100000 in
theorem fl_M_31 : Cond.fieldLink "GateRoadsModel" 31 "GateRoadsModel" "otherThere" "[I" ∈ zTb := tw_4 24 rfl rfl
set_option maxRecDepth 100000 in
theorem fl_M_34 : Cond.fieldLink "GateRoadsModel" 34 "GateRoadsModel" "good" "[I" ∈ zTb := tw_4 25 rfl rfl
set_option maxRecDepth 100000 in
theorem fl_M_37 : Cond.fieldLink "GateRoadsModel" 37 "GateRoadsModel" "last" "[I" ∈ zTb := tw_4 26 rfl rfl
set_option maxRecDepth 100000 in
theorem fl_M_40 : Cond.fieldLink "GateRoadsModel" 40 "GateRoadsModel" "fewest" "[I" ∈ zTb := tw_4 27 rfl rfl
set_option maxRecDepth 100000 in
theorem fl_M_173 : Cond.fieldLink "GateRoadsModel" 173 "GateRoadsModel" "at" "I" ∈ zTb := tw_4 28 rfl rfl
set_option maxRecDepth 100000 in
theorem fl_M_210 : Cond.fieldLink "GateRoadsModel" 210 "GateRoadsModel" "kind" "I" ∈ zTb := tw_4 29 rfl rfl
set_option maxRecDepth 100000 in
theorem fl_M_198 : Cond.fieldLink "GateRoadsModel" 198 "GateRoadsModel" "first" "I" ∈ zTb := tw_4 30 rfl rfl
set_option maxRecDepth 100000 in
theorem fl_M_204 : Cond.fieldLink "GateRoadsModel" 204 "GateRoadsModel" "second" "I" ∈ zTb := tw_4 31 rfl rfl
set_option maxRecDepth 100000 in
theorem fl_M_207 : Cond.fieldLink "GateRoadsModel" 207 "GateRoadsModel" "third" "I" ∈ zTb := tw_4 32 rfl rfl
set_option maxRecDepth 100000 in
theorem fl_M_189 : Cond.fieldLink "GateRoadsModel" 189 "GateRoadsModel" "hours" "I" ∈ zTb := tw_4 33 rfl rfl
set_option maxRecDepth 100000 in
theorem fl_M_192 : Cond.fieldLink "GateRoadsModel" 192 "GateRoadsModel" "isStrict" "I" ∈ zTb := tw_4 34 rfl rfl
set_option maxRecDepth 100000 in
theorem fl_M_176 : Cond.fieldLink "GateRoadsModel" 176 "GateRoadsModel" "value" "I" ∈ zTb := tw_4 35 rfl rfl
set_option maxRecDepth 100000 in
theorem fl_M_43 : Cond.fieldLink "GateRoadsModel" 43 "GateRoadsModel" "clocks" "[I" ∈ zTb := tw_4 36 rfl rfl
set_option maxRecDepth 100000 in
theorem ml_L_132 : Cond.methodLink "GateRoadsLaw" 132 ⟨"GateRoadsModel", "undo", "()I"⟩ ∈ zTb := tw_4 84 rfl rfl
set_option maxRecDepth 100000 in
theorem ml_L_136 : Cond.methodLink "GateRoadsLaw" 136 ⟨"GateRoadsModel", "save", "(I)I"⟩ ∈ zTb := tw_4 88 rfl rfl
set_option maxRecDepth 100000 in
theorem ml_M_46 : Cond.methodLink "GateRoadsModel" 46 ⟨"GateRoadsModel", "isIn", "(III)Z"⟩ ∈ zTb := tw_4 92 rfl rfl
set_option maxRecDepth 100000 in
theorem ml_L_140 : Cond.methodLink "GateRoadsLaw" 140 ⟨"GateRoadsModel", "restore", "(I)I"⟩ ∈ zTb := tw_4 95 rfl rfl
set_option maxRecDepth 100000 in
theorem ml_M_54 : Cond.methodLink "GateRoadsModel" 54 ⟨"GateRoadsModel", "records", "()V"⟩ ∈ zTb := tw_4 99 rfl rfl
set_option maxRecDepth 100000 in
theorem ml_L_17 : Cond.methodLink "GateRoadsLaw" 17 ⟨"GateRoadsModel", "room", "(IIII)I"⟩ ∈ zTb := tw_4 103 rfl rfl
set_option maxRecDepth 100000 in
theorem ml_M_57 : Cond.methodLink "GateRoadsModel" 57 ⟨"GateRoadsModel", "isPlace", "(I)Z"⟩ ∈ zTb := tw_4 107 rfl rfl
set_option maxRecDepth 100000 in
theorem ml_L_22 : Cond.methodLink "GateRoadsLaw" 22 ⟨"GateRoadsModel", "road", "(III)I"⟩ ∈ zTb := tw_4 110 rfl rfl
set_option maxRecDepth 100000 in
theorem ml_L_26 : Cond.methodLink "GateRoadsLaw" 26 ⟨"GateRoadsModel", "open", "(IIII)I"⟩ ∈ zTb := tw_4 114 rfl rfl
set_option maxRecDepth 100000 in
theorem ml_M_61 : Cond.methodLink "GateRoadsModel" 61 ⟨"GateRoadsModel", "isRoad", "(I)Z"⟩ ∈ zTb := tw_4 118 rfl rfl
set_option maxRecDepth 100000 in
theorem ml_M_64 : Cond.methodLink "GateRoadsModel" 64 ⟨"GateRoadsModel", "isSpan", "(III)Z"⟩ ∈ zTb := tw_4 122 rfl rfl
set_option maxRecDepth 100000 in
theorem ml_L_30 : Cond.methodLink "GateRoadsLaw" 30 ⟨"GateRoadsModel", "more", "(III)I"⟩ ∈ zTb := tw_4 125 rfl rfl
set_option maxRecDepth 100000 in
theorem ml_M_71 : Cond.methodLink "GateRoadsModel" 71 ⟨"GateRoadsModel", "isTaken", "(III)Z"⟩ ∈ zTb := tw_4 129 rfl rfl
set_option maxRecDepth 100000 in
theorem ml_M_67 : Cond.methodLink "GateRoadsModel" 67 ⟨"GateRoadsModel", "ofR", "(II)I"⟩ ∈ zTb := tw_4 133 rfl rfl
set_option maxRecDepth 100000 in
theorem ml_M_74 : Cond.methodLink "GateRoadsModel" 74 ⟨"GateRoadsModel", "adds", "(III)V"⟩ ∈ zTb := tw_4 137 rfl rfl
set_option maxRecDepth 100000 in
theorem ml_L_34 : Cond.methodLink "GateRoadsLaw" 34 ⟨"GateRoadsModel", "close", "(III)I"⟩ ∈ zTb := tw_4 141 rfl rfl
set_option maxRecDepth 100000 in
theorem ml_M_78 : Cond.methodLink "GateRoadsModel" 78 ⟨"GateRoadsModel", "checksClosing", "(III)I"⟩ ∈ zTb := tw_4 145 rfl rfl
set_option maxRecDepth 100000 in
theorem ml_M_82 : Cond.methodLink "GateRoadsModel" 82 ⟨"GateRoadsModel", "closes", "(III)I"⟩ ∈ zTb := tw_4 149 rfl rfl
set_option maxRecDepth 100000 in
theorem ml_L_39 : Cond.methodLink "GateRoadsLaw" 39 ⟨"GateRoadsModel", "lift", "(I)I"⟩ ∈ zTb := tw_4 153 rfl rfl
set_option maxRecDepth 100000 in
theorem ml_L_76 : Cond.methodLink "GateRoadsLaw" 76 ⟨"GateRoadsModel", "whyShut", "(II)I"⟩ ∈ zTb := tw_4 157 rfl rfl
set_option maxRecDepth 100000 in
theorem ml_M_92 : Cond.methodLink "GateRoadsModel" 92 ⟨"GateRoadsModel", "isTime", "(I)Z"⟩ ∈ zTb := tw_4 161 rfl rfl
set_option maxRecDepth 100000 in
theorem ml_M_95 : Cond.methodLink "GateRoadsModel" 95 ⟨"GateRoadsModel", "whyNot", "(II)I"⟩ ∈ zTb := tw_4 164 rfl rfl
set_option maxRecDepth 100000 in
theorem ml_M_85 : Cond.methodLink "GateRoadsModel" 85 ⟨"GateRoadsModel", "spanEnd", "(II)I"⟩ ∈ zTb := tw_4 168 rfl rfl
set_option maxRecDepth 100000 in
theorem ml_M_88 : Cond.methodLink "GateRoadsModel" 88 ⟨"GateRoadsModel", "isClosed", "(II)Z"⟩ ∈ zTb := tw_4 172 rfl rfl
set_option maxRecDepth 100000 in
theorem ml_L_44 : Cond.methodLink "GateRoadsLaw" 44 ⟨"GateRoadsModel", "traveller", "(II)I"⟩ ∈ zTb := tw_4 176 rfl rfl
set_option maxRecDepth 100000 in
theorem ml_L_48 : Cond.methodLink "GateRoadsLaw" 48 ⟨"GateRoadsModel", "go", "(II)I"⟩ ∈ zTb := tw_4 180 rfl rfl
set_option maxRecDepth 100000 in
theorem ml_M_111 : Cond.methodLink "GateRoadsModel" 111 ⟨"GateRoadsModel", "checksGoing", "(II)I"⟩ ∈ zTb := tw_4 184 rfl rfl
set_option maxRecDepth 100000 in
theorem ml_M_101 : Cond.methodLink "GateRoadsModel" 101 ⟨"GateRoadsModel", "isTraveller", "(I)Z"⟩ ∈ zTb := tw_4 188 rfl rfl
set_option maxRecDepth 100000 in
theorem ml_M_104 : Cond.methodLink "GateRoadsModel" 104 ⟨"GateRoadsModel", "ofT", "(II)I"⟩ ∈ zTb := tw_4 192 rfl rfl
set_option maxRecDepth 100000 in
theorem ml_M_107 : Cond.methodLink "GateRoadsModel" 107 ⟨"GateRoadsModel", "refuses", "(I)I"⟩ ∈ zTb := tw_4 196 rfl rfl
set_option maxRecDepth 100000 in
theorem ml_M_114 : Cond.methodLink "GateRoadsModel" 114 ⟨"GateRoadsModel", "goes", "(II)I"⟩ ∈ zTb := tw_4 200 rfl rfl
set_option maxRecDepth 100000 in
theorem ml_L_52 : Cond.methodLink "GateRoadsLaw" 52 ⟨"GateRoadsModel", "stay", "(II)I"⟩ ∈ zTb := tw_4 204 rfl rfl
set_option maxRecDepth 100000 in
theorem ml_M_123 : Cond.methodLink "GateRoadsModel" 123 ⟨"GateRoadsModel", "checksStaying", "(II)I"⟩ ∈ zTb := tw_4 208 rfl rfl
set_option maxRecDepth 100000 in
theorem ml_M_117 : Cond.methodLink "GateRoadsModel" 117 ⟨"GateRoadsModel", "isRoomOpen", "(II)Z"⟩ ∈ zTb := tw_4 212 rfl rfl
set_option maxRecDepth 100000 in
theorem ml_M_120 : Cond.methodLink "GateRoadsModel" 120 ⟨"GateRoadsModel", "limitOf", "(I)I"⟩ ∈ zTb := tw_4 216 rfl rfl
set_option maxRecDepth 100000 in
theorem ml_M_126 : Cond.methodLink "GateRoadsModel" 126 ⟨"GateRoadsModel", "stays", "(II)I"⟩ ∈ zTb := tw_4 220 rfl rfl
set_option maxRecDepth 100000 in
theorem ml_L_56 : Cond.methodLink "GateRoadsLaw" 56 ⟨"GateRoadsModel", "ofPlace", "(II)I"⟩ ∈ zTb := tw_4 224 rfl rfl
set_option maxRecDepth 100000 in
theorem ml_M_129 : Cond.methodLink "GateRoadsModel" 129 ⟨"GateRoadsModel", "roadsBy", "(II)I"⟩ ∈ zTb := tw_4 228 rfl rfl
set_option maxRecDepth 100000 in
theorem ml_L_60 : Cond.methodLink "GateRoadsLaw" 60 ⟨"GateRoadsModel", "ofRoad", "(II)I"⟩ ∈ zTb := tw_4 232 rfl rfl
set_option maxRecDepth 100000 in
theorem ml_L_64 : Cond.methodLink "GateRoadsLaw" 64 ⟨"GateRoadsModel", "ofClosure", "(II)I"⟩ ∈ zTb := tw_4 236 rfl rfl
set_option maxRecDepth 100000 in
theorem ml_L_68 : Cond.methodLink "GateRoadsLaw" 68 ⟨"GateRoadsModel", "ofTraveller", "(II)I"⟩ ∈ zTb := tw_5 0 rfl rfl
set_option maxRecDepth 100000 in
theorem ml_L_72 : Cond.methodLink "GateRoadsLaw" 72 ⟨"GateRoadsModel", "count", "(I)I"⟩ ∈ zTb := tw_5 4 rfl rfl
set_option maxRecDepth 100000 in
theorem ml_L_80 : Cond.methodLink "GateRoadsLaw" 80 ⟨"GateRoadsModel", "earliest", "(III)I"⟩ ∈ zTb := tw_5 8 rfl rfl
set_option maxRecDepth 100000 in
theorem ml_M_145 : Cond.methodLink "GateRoadsModel" 145 ⟨"GateRoadsModel", "earliestOf", "(III)I"⟩ ∈ zTb := tw_5 12 rfl rfl
set_option maxRecDepth 100000 in
theorem ml_M_138 : Cond.methodLink "GateRoadsModel" 138 ⟨"GateRoadsModel", "spreads", "(IIII)V"⟩ ∈ zTb := tw_5 16 rfl rfl
set_option maxRecDepth 100000 in
theorem ml_M_135 : Cond.methodLink "GateRoadsModel" 135 ⟨"GateRoadsModel", "has", "(II)Z"⟩ ∈ zTb := tw_5 20 rfl rfl
set_option maxRecDepth 100000 in
theorem ml_M_142 : Cond.methodLink "GateRoadsModel" 142 ⟨"GateRoadsModel", "firstAt", "(I)I"⟩ ∈ zTb := tw_5 23 rfl rfl
set_option maxRecDepth 100000 in
theorem ml_L_84 : Cond.methodLink "GateRoadsLaw" 84 ⟨"GateRoadsModel", "latest", "(III)I"⟩ ∈ zTb := tw_5 27 rfl rfl
set_option maxRecDepth 100000 in
theorem ml_M_151 : Cond.methodLink "GateRoadsModel" 151 ⟨"GateRoadsModel", "goesBack", "(II)V"⟩ ∈ zTb := tw_5 31 rfl rfl
set_option maxRecDepth 100000 in
theorem ml_M_148 : Cond.methodLink "GateRoadsModel" 148 ⟨"GateRoadsModel", "leadsOn", "(III)Z"⟩ ∈ zTb := tw_5 35 rfl rfl
set_option maxRecDepth 100000 in
theorem ml_L_88 : Cond.methodLink "GateRoadsLaw" 88 ⟨"GateRoadsModel", "way", "(IIII)I"⟩ ∈ zTb := tw_5 39 rfl rfl
set_option maxRecDepth 100000 in
theorem ml_M_159 : Cond.methodLink "GateRoadsModel" 159 ⟨"GateRoadsModel", "fewestRoads", "(IIII)I"⟩ ∈ zTb := tw_5 43 rfl rfl
set_option maxRecDepth 100000 in
theorem ck_M_155 : Cond.constant "GateRoadsModel" 155 (69120 : Int32) ∈ zTb := tw_5 47 rfl rfl
set_option maxRecDepth 100000 in
theorem ml_M_156 : Cond.methodLink "GateRoadsModel" 156 ⟨"GateRoadsModel", "fewestAt", "(III)I"⟩ ∈ zTb := tw_5 48 rfl rfl
set_option maxRecDepth 100000 in
theorem ml_M_163 : Cond.methodLink "GateRoadsModel" 163 ⟨"GateRoadsModel", "beginsAt", "(IIIZ)I"⟩ ∈ zTb := tw_5 52 rfl rfl
set_option maxRecDepth 100000 in
theorem ml_L_92 : Cond.methodLink "GateRoadsLaw" 92 ⟨"GateRoadsModel", "reach", "(III)I"⟩ ∈ zTb := tw_5 56 rfl rfl
set_option maxRecDepth 100000 in
theorem ml_L_96 : Cond.methodLink "GateRoadsLaw" 96 ⟨"GateRoadsModel", "needed", "(III)I"⟩ ∈ zTb := tw_5 60 rfl rfl
set_option maxRecDepth 100000 in
theorem ml_L_100 : Cond.methodLink "GateRoadsLaw" 100 ⟨"GateRoadsModel", "meet", "(III)I"⟩ ∈ zTb := tw_5 64 rfl rfl
set_option maxRecDepth 100000 in
theorem ml_M_167 : Cond.methodLink "GateRoadsModel" 167 ⟨"GateRoadsModel", "spreadsFrom", "(I)V"⟩ ∈ zTb := tw_5 68 rfl rfl
set_option maxRecDepth 100000 in
theorem ml_L_104 : Cond.methodLink "GateRoadsLaw" 104 ⟨"GateRoadsModel", "arrives", "(II)I"⟩ ∈ zTb := tw_5 72 rfl rfl
set_option maxRecDepth 100000 in
theorem ml_L_108 : Cond.methodLink "GateRoadsLaw" 108 ⟨"GateRoadsModel", "canStay", "(I)I"⟩ ∈ zTb := tw_5 76 rfl rfl
set_option maxRecDepth 100000 in
theorem ml_L_115 : Cond.methodLink "GateRoadsLaw" 115 ⟨"GateRoadsModel", "put", "(J)I"⟩ ∈ zTb := tw_5 80 rfl rfl
set_option maxRecDepth 100000 in
theorem cl_M_171 : Cond.constantLong "GateRoadsModel" 171 (255 : Int64) ∈ zTb := tw_5 84 rfl rfl
set_option maxRecDepth 100000 in
theorem ml_L_120 : Cond.methodLink "GateRoadsLaw" 120 ⟨"GateRoadsModel", "wipe", "()I"⟩ ∈ zTb := tw_5 85 rfl rfl
set_option maxRecDepth 100000 in
theorem ml_L_124 : Cond.methodLink "GateRoadsLaw" 124 ⟨"GateRoadsModel", "fault", "()I"⟩ ∈ zTb := tw_5 89 rfl rfl
set_option maxRecDepth 100000 in
theorem ml_M_222 : Cond.methodLink "GateRoadsModel" 222 ⟨"GateRoadsModel", "passesOrder", "()Z"⟩ ∈ zTb := tw_5 93 rfl rfl
set_option maxRecDepth 100000 in
theorem ml_M_213 : Cond.methodLink "GateRoadsModel" 213 ⟨"GateRoadsModel", "passesSpans", "()Z"⟩ ∈ zTb := tw_5 97 rfl rfl
set_option maxRecDepth 100000 in
theorem ml_M_195 : Cond.methodLink "GateRoadsModel" 195 ⟨"GateRoadsModel", "passesNumber", "()Z"⟩ ∈ zTb := tw_5 101 rfl rfl
set_option maxRecDepth 100000 in
theorem ml_M_179 : Cond.methodLink "GateRoadsModel" 179 ⟨"GateRoadsModel", "passes", "(II)Z"⟩ ∈ zTb := tw_5 105 rfl rfl
set_option maxRecDepth 100000 in
theorem ml_M_182 : Cond.methodLink "GateRoadsModel" 182 ⟨"GateRoadsModel", "isDigitHere", "()Z"⟩ ∈ zTb := tw_5 109 rfl rfl
set_option maxRecDepth 100000 in
theorem ml_M_201 : Cond.methodLink "GateRoadsModel" 201 ⟨"GateRoadsModel", "passesHours", "()Z"⟩ ∈ zTb := tw_5 113 rfl rfl
set_option maxRecDepth 100000 in
theorem ml_M_186 : Cond.methodLink "GateRoadsModel" 186 ⟨"GateRoadsModel", "passesClock", "()Z"⟩ ∈ zTb := tw_5 117 rfl rfl
set_option maxRecDepth 100000 in
theorem ml_M_216 : Cond.methodLink "GateRoadsModel" 216 ⟨"GateRoadsModel", "passesClosing", "()Z"⟩ ∈ zTb := tw_5 121 rfl rfl
set_option maxRecDepth 100000 in
theorem ml_M_219 : Cond.methodLink "GateRoadsModel" 219 ⟨"GateRoadsModel", "passesTravel", "(I)Z"⟩ ∈ zTb := tw_5 125 rfl rfl
set_option maxRecDepth 100000 in
theorem ml_L_128 : Cond.methodLink "GateRoadsLaw" 128 ⟨"GateRoadsModel", "carryOut", "()I"⟩ ∈ zTb := tw_5 129 rfl rfl
set_option maxRecDepth 100000 in
theorem ml_M_229 : Cond.methodLink "GateRoadsModel" 229 ⟨"GateRoadsModel", "fault", "()I"⟩ ∈ zTb := tw_5 133 rfl rfl
set_option maxRecDepth 100000 in
theorem ml_M_232 : Cond.methodLink "GateRoadsModel" 232 ⟨"GateRoadsModel", "does", "()I"⟩ ∈ zTb := tw_5 134 rfl rfl
set_option maxRecDepth 100000 in
theorem ml_M_225 : Cond.methodLink "GateRoadsModel" 225 ⟨"GateRoadsModel", "doesSpans", "()I"⟩ ∈ zTb := tw_5 138 rfl rfl
set_option maxRecDepth 100000 in
theorem cl_L_109 : Cond.constantLong "GateRoadsLaw" 109 (4294967295 : Int64) ∈ zTb := tw_5 142 rfl rfl
def zMI (y : MethodName) (bytes : ByteArray) (maxL : Nat) (ret : Option FieldType) (n : Nat) : Prop := Cond.instanceMethod y ∈ zTb ∧ Cond.selects y.cls y y ∈ zTb ∧ Cond.initialized y.cls ∈ zTb ∧ Cond.code y bytes maxL ret ∈ zTb ∧ y.cls ≠ "java/lang/invoke/MethodHandle" ∧ y.cls ≠ "java/lang/invoke/VarHandle" ∧ (parseMethodDescriptor y.desc).map (fun d => d.parameters.length) = some n
def zMS (y : MethodName) (bytes : ByteArray) (maxL : Nat) (ret : Option FieldType) (n : Nat) : Prop := Cond.static y ∈ zTb ∧ Cond.initialized y.cls ∈ zTb ∧ Cond.code y bytes maxL ret ∈ zTb ∧ y.cls ≠ "java/lang/invoke/MethodHandle" ∧ y.cls ≠ "java/lang/invoke/VarHandle" ∧ (parseMethodDescriptor y.desc).map (fun d => d.parameters.length) = some n
set_option maxRecDepth 100000 in
theorem mi_X_room : zMI y_X_room b_X_room 7 (some .int) 4 := ⟨tw_1 214 rfl rfl, tw_1 215 rfl rfl, tw_1 1 rfl rfl, tw_1 216 rfl rfl, by decide, by decide, by decide +kernel⟩
set_option maxRecDepth 100000 in
theorem ms_X_isPlace : zMS y_X_isPlace b_X_isPlace 1 (some .boolean) 1 := ⟨tw_1 218 rfl rfl, tw_1 1 rfl rfl, tw_1 219 rfl rfl, by decide, by decide, by decide +kernel⟩
set_option maxRecDepth 100000 in
theorem ms_X_within : zMS y_X_within b_X_within 3 (some .boolean) 3 := ⟨tw_1 221 rfl rfl, tw_1 1 rfl rfl, tw_1 222 rfl rfl, by decide, by decide, by decide +kernel⟩
set_option maxRecDepth 100000 in
theorem mi_X_remember : zMI y_X_remember b_X_remember 3 (none) 0 := ⟨tw_1 225 rfl rfl, tw_l 0 rfl rfl, tw_1 1 rfl rfl, tw_1 226 rfl rfl, by decide, by decide, by decide +kernel⟩
set_option maxRecDepth 100000 in
theorem mi_S_copyFrom : zMI y_S_copyFrom b_S_copyFrom 2 (none) 1 := ⟨tw_1 228 rfl rfl, tw_1 229 rfl rfl, tw_1 2 rfl rfl, tw_1 230 rfl rfl, by decide, by decide, by decide +kernel⟩
set_option maxRecDepth 100000 in
theorem mi_X_road : zMI y_X_road b_X_road 4 (some .int) 3 := ⟨tw_1 235 rfl rfl, tw_1 236 rfl rfl, tw_1 1 rfl rfl, tw_1 237 rfl rfl, by decide, by decide, by decide +kernel⟩
set_option maxRecDepth 100000 in
theorem mi_S_addRoad : zMI y_S_addRoad b_S_addRoad 6 (some .int) 3 := ⟨tw_1 239 rfl rfl, tw_2 0 rfl rfl, tw_1 2 rfl rfl, tw_2 1 rfl rfl, by decide, by decide, by decide +kernel⟩
set_option maxRecDepth 100000 in
theorem mi_S_dropSpans : zMI y_S_dropSpans b_S_dropSpans 4 (none) 2 := ⟨tw_2 3 rfl rfl, tw_2 4 rfl rfl, tw_1 2 rfl rfl, tw_2 5 rfl rfl, by decide, by decide, by decide +kernel⟩
set_option maxRecDepth 100000 in
theorem ms_Ar_fill_1 : zMS y_Ar_fill_1 b_Ar_fill_1 5 (none) 4 := ⟨tw_2 7 rfl rfl, tw_1 10 rfl rfl, tw_2 8 rfl rfl, by decide, by decide, by decide +kernel⟩
set_option maxRecDepth 100000 in
theorem ms_Ar_rangeCheck : zMS y_Ar_rangeCheck b_Ar_rangeCheck 3 (none) 3 := ⟨tw_2 10 rfl rfl, tw_1 10 rfl rfl, tw_2 11 rfl rfl, by decide, by decide, by decide +kernel⟩
set_option maxRecDepth 100000 in
theorem mi_S_addSpan : zMI y_S_addSpan b_S_addSpan 7 (none) 3 := ⟨tw_2 13 rfl rfl, tw_2 14 rfl rfl, tw_1 2 rfl rfl, tw_2 15 rfl rfl, by decide, by decide, by decide +kernel⟩
set_option maxRecDepth 100000 in
theorem mi_S_ofRoads : zMI y_S_ofRoads b_S_ofRoads 3 (some .int) 2 := ⟨tw_2 17 rfl rfl, tw_2 18 rfl rfl, tw_1 2 rfl rfl, tw_2 19 rfl rfl, by decide, by decide, by decide +kernel⟩
set_option maxRecDepth 100000 in
theorem mi_S_spanFrom : zMI y_S_spanFrom b_S_spanFrom 3 (some .int) 2 := ⟨tw_2 21 rfl rfl, tw_2 22 rfl rfl, tw_1 2 rfl rfl, tw_2 23 rfl rfl, by decide, by decide, by decide +kernel⟩
set_option maxRecDepth 100000 in
theorem mi_S_spanTo : zMI y_S_spanTo b_S_spanTo 3 (some .int) 2 := ⟨tw_2 25 rfl rfl, tw_2 26 rfl rfl, tw_1 2 rfl rfl, tw_2 27 rfl rfl, by decide, by decide, by decide +kernel⟩
set_option maxRecDepth 100000 in
theorem mi_X_open : zMI y_X_open b_X_open 6 (some .int) 4 := ⟨tw_2 29 rfl rfl, tw_2 30 rfl rfl, tw_1 1 rfl rfl, tw_2 31 rfl rfl, by decide, by decide, by decide +kernel⟩
set_option maxRecDepth 100000 in
theorem mi_S_hasRoad : zMI y_S_hasRoad b_S_hasRoad 2 (some .boolean) 1 := ⟨tw_2 33 rfl rfl, tw_2 34 rfl rfl, tw_1 2 rfl rfl, tw_2 35 rfl rfl, by decide, by decide, by decide +kernel⟩
set_option maxRecDepth 100000 in
theorem ms_X_isSpan : zMS y_X_isSpan b_X_isSpan 3 (some .boolean) 3 := ⟨tw_2 37 rfl rfl, tw_1 1 rfl rfl, tw_2 38 rfl rfl, by decide, by decide, by decide +kernel⟩
set_option maxRecDepth 100000 in
theorem mi_X_more : zMI y_X_more b_X_more 4 (some .int) 3 := ⟨tw_2 43 rfl rfl, tw_2 44 rfl rfl, tw_1 1 rfl rfl, tw_2 45 rfl rfl, by decide, by decide, by decide +kernel⟩
set_option maxRecDepth 100000 in
theorem mi_S_meetsSpan : zMI y_S_meetsSpan b_S_meetsSpan 6 (some .boolean) 3 := ⟨tw_2 47 rfl rfl, tw_2 48 rfl rfl, tw_1 2 rfl rfl, tw_2 49 rfl rfl, by decide, by decide, by decide +kernel⟩
set_option maxRecDepth 100000 in
theorem mi_X_close : zMI y_X_close b_X_close 4 (some .int) 3 := ⟨tw_2 51 rfl rfl, tw_2 52 rfl rfl, tw_1 1 rfl rfl, tw_2 53 rfl rfl, by decide, by decide, by decide +kernel⟩
set_option maxRecDepth 100000 in
theorem mi_S_addClosure : zMI y_S_addClosure b_S_addClosure 5 (some .int) 3 := ⟨tw_2 55 rfl rfl, tw_2 56 rfl rfl, tw_1 2 rfl rfl, tw_2 57 rfl rfl, by decide, by decide, by decide +kernel⟩
set_option maxRecDepth 100000 in
theorem mi_X_lift : zMI y_X_lift b_X_lift 2 (some .int) 1 := ⟨tw_2 59 rfl rfl, tw_2 60 rfl rfl, tw_1 1 rfl rfl, tw_2 61 rfl rfl, by decide, by decide, by decide +kernel⟩
set_option maxRecDepth 100000 in
theorem mi_S_hasClosure : zMI y_S_hasClosure b_S_hasClosure 2 (some .boolean) 1 := ⟨tw_2 63 rfl rfl, tw_2 64 rfl rfl, tw_1 2 rfl rfl, tw_2 65 rfl rfl, by decide, by decide, by decide +kernel⟩
set_option maxRecDepth 100000 in
theorem mi_S_dropClosure : zMI y_S_dropClosure b_S_dropClosure 3 (none) 1 := ⟨tw_2 67 rfl rfl, tw_2 68 rfl rfl, tw_1 2 rfl rfl, tw_2 69 rfl rfl, by decide, by decide, by decide +kernel⟩
set_option maxRecDepth 100000 in
theorem mi_X_traveller : zMI y_X_traveller b_X_traveller 3 (some .int) 2 := ⟨tw_2 71 rfl rfl, tw_2 72 rfl rfl, tw_1 1 rfl rfl, tw_2 73 rfl rfl, by decide, by decide, by decide +kernel⟩
set_option maxRecDepth 100000 in
theorem mi_S_addTraveller : zMI y_S_addTraveller b_S_addTraveller 4 (some .int) 2 := ⟨tw_2 75 rfl rfl, tw_2 76 rfl rfl, tw_1 2 rfl rfl, tw_2 77 rfl rfl, by decide, by decide, by decide +kernel⟩
set_option maxRecDepth 100000 in
theorem mi_X_go : zMI y_X_go b_X_go 4 (some .int) 2 := ⟨tw_2 79 rfl rfl, tw_2 80 rfl rfl, tw_1 1 rfl rfl, tw_2 81 rfl rfl, by decide, by decide, by decide +kernel⟩
set_option maxRecDepth 100000 in
theorem mi_S_hasTraveller : zMI y_S_hasTraveller b_S_hasTraveller 2 (some .boolean) 1 := ⟨tw_2 83 rfl rfl, tw_2 84 rfl rfl, tw_1 2 rfl rfl, tw_2 85 rfl rfl, by decide, by decide, by decide +kernel⟩
set_option maxRecDepth 100000 in
theorem mi_S_whyNoGoing : zMI y_S_whyNoGoing b_S_whyNoGoing 3 (some .int) 2 := ⟨tw_2 87 rfl rfl, tw_2 88 rfl rfl, tw_1 2 rfl rfl, tw_2 89 rfl rfl, by decide, by decide, by decide +kernel⟩
set_option maxRecDepth 100000 in
theorem mi_S_ofTravellers : zMI y_S_ofTravellers b_S_ofTravellers 3 (some .int) 2 := ⟨tw_2 91 rfl rfl, tw_2 92 rfl rfl, tw_1 2 rfl rfl, tw_2 93 rfl rfl, by decide, by decide, by decide +kernel⟩
set_option maxRecDepth 100000 in
theorem mi_S_whyNoEntry : zMI y_S_whyNoEntry b_S_whyNoEntry 6 (some .int) 2 := ⟨tw_2 95 rfl rfl, tw_2 96 rfl rfl, tw_1 2 rfl rfl, tw_2 97 rfl rfl, by decide, by decide, by decide +kernel⟩
set_option maxRecDepth 100000 in
theorem mi_S_spanEnd : zMI y_S_spanEnd b_S_spanEnd 5 (some .int) 2 := ⟨tw_2 99 rfl rfl, tw_2 100 rfl rfl, tw_1 2 rfl rfl, tw_2 101 rfl rfl, by decide, by decide, by decide +kernel⟩
set_option maxRecDepth 100000 in
theorem mi_S_closedAt : zMI y_S_closedAt b_S_closedAt 4 (some .boolean) 2 := ⟨tw_2 103 rfl rfl, tw_2 104 rfl rfl, tw_1 2 rfl rfl, tw_2 105 rfl rfl, by decide, by decide, by decide +kernel⟩
set_option maxRecDepth 100000 in
theorem mi_S_ofClosures : zMI y_S_ofClosures b_S_ofClosures 3 (some .int) 2 := ⟨tw_2 107 rfl rfl, tw_2 108 rfl rfl, tw_1 2 rfl rfl, tw_2 109 rfl rfl, by decide, by decide, by decide +kernel⟩
set_option maxRecDepth 100000 in
theorem mi_X_refuse : zMI y_X_refuse b_X_refuse 2 (some .int) 1 := ⟨tw_2 112 rfl rfl, tw_l 1 rfl rfl, tw_1 1 rfl rfl, tw_2 113 rfl rfl, by decide, by decide, by decide +kernel⟩
set_option maxRecDepth 100000 in
theorem mi_S_enter : zMI y_S_enter b_S_enter 6 (some .int) 2 := ⟨tw_2 115 rfl rfl, tw_2 116 rfl rfl, tw_1 2 rfl rfl, tw_2 117 rfl rfl, by decide, by decide, by decide +kernel⟩
set_option maxRecDepth 100000 in
theorem mi_X_stay : zMI y_X_stay b_X_stay 4 (some .int) 2 := ⟨tw_2 119 rfl rfl, tw_2 120 rfl rfl, tw_1 1 rfl rfl, tw_2 121 rfl rfl, by decide, by decide, by decide +kernel⟩
set_option maxRecDepth 100000 in
theorem mi_S_whyNoStaying : zMI y_S_whyNoStaying b_S_whyNoStaying 5 (some .int) 2 := ⟨tw_2 123 rfl rfl, tw_2 124 rfl rfl, tw_1 2 rfl rfl, tw_2 125 rfl rfl, by decide, by decide, by decide +kernel⟩
set_option maxRecDepth 100000 in
theorem mi_S_openUntil : zMI y_S_openUntil b_S_openUntil 6 (some .int) 2 := ⟨tw_2 127 rfl rfl, tw_2 128 rfl rfl, tw_1 2 rfl rfl, tw_2 129 rfl rfl, by decide, by decide, by decide +kernel⟩
set_option maxRecDepth 100000 in
theorem mi_S_ofRooms : zMI y_S_ofRooms b_S_ofRooms 3 (some .int) 2 := ⟨tw_2 131 rfl rfl, tw_2 132 rfl rfl, tw_1 2 rfl rfl, tw_2 133 rfl rfl, by decide, by decide, by decide +kernel⟩
set_option maxRecDepth 100000 in
theorem mi_S_waitThere : zMI y_S_waitThere b_S_waitThere 4 (some .int) 2 := ⟨tw_2 135 rfl rfl, tw_2 136 rfl rfl, tw_1 2 rfl rfl, tw_2 137 rfl rfl, by decide, by decide, by decide +kernel⟩
set_option maxRecDepth 100000 in
theorem mi_X_ofPlace : zMI y_X_ofPlace b_X_ofPlace 3 (some .int) 2 := ⟨tw_2 139 rfl rfl, tw_2 140 rfl rfl, tw_1 1 rfl rfl, tw_2 141 rfl rfl, by decide, by decide, by decide +kernel⟩
set_option maxRecDepth 100000 in
theorem mi_S_roadsWith : zMI y_S_roadsWith b_S_roadsWith 5 (some .int) 2 := ⟨tw_2 143 rfl rfl, tw_2 144 rfl rfl, tw_1 2 rfl rfl, tw_2 145 rfl rfl, by decide, by decide, by decide +kernel⟩
set_option maxRecDepth 100000 in
theorem mi_S_travellersAt : zMI y_S_travellersAt b_S_travellersAt 4 (some .int) 1 := ⟨tw_2 147 rfl rfl, tw_2 148 rfl rfl, tw_1 2 rfl rfl, tw_2 149 rfl rfl, by decide, by decide, by decide +kernel⟩
set_option maxRecDepth 100000 in
theorem mi_X_ofRoad : zMI y_X_ofRoad b_X_ofRoad 3 (some .int) 2 := ⟨tw_2 152 rfl rfl, tw_2 153 rfl rfl, tw_1 1 rfl rfl, tw_2 154 rfl rfl, by decide, by decide, by decide +kernel⟩
set_option maxRecDepth 100000 in
theorem mi_S_closuresOf : zMI y_S_closuresOf b_S_closuresOf 4 (some .int) 1 := ⟨tw_2 156 rfl rfl, tw_2 157 rfl rfl, tw_1 2 rfl rfl, tw_2 158 rfl rfl, by decide, by decide, by decide +kernel⟩
set_option maxRecDepth 100000 in
theorem mi_X_ofClosure : zMI y_X_ofClosure b_X_ofClosure 3 (some .int) 2 := ⟨tw_2 160 rfl rfl, tw_2 161 rfl rfl, tw_1 1 rfl rfl, tw_2 162 rfl rfl, by decide, by decide, by decide +kernel⟩
set_option maxRecDepth 100000 in
theorem mi_X_ofTraveller : zMI y_X_ofTraveller b_X_ofTraveller 3 (some .int) 2 := ⟨tw_2 165 rfl rfl, tw_2 166 rfl rfl, tw_1 1 rfl rfl, tw_2 167 rfl rfl, by decide, by decide, by decide +kernel⟩
set_option maxRecDepth 100000 in
theorem mi_X_count : zMI y_X_count b_X_count 2 (some .int) 1 := ⟨tw_2 170 rfl rfl, tw_2 171 rfl rfl, tw_1 1 rfl rfl, tw_2 172 rfl rfl, by decide, by decide, by decide +kernel⟩
set_option maxRecDepth 100000 in
theorem mi_X_whyShut : zMI y_X_whyShut b_X_whyShut 3 (some .int) 2 := ⟨tw_2 174 rfl rfl, tw_2 175 rfl rfl, tw_1 1 rfl rfl, tw_2 176 rfl rfl, by decide, by decide, by decide +kernel⟩
set_option maxRecDepth 100000 in
theorem mi_X_earliest : zMI y_X_earliest b_X_earliest 4 (some .int) 3 := ⟨tw_2 179 rfl rfl, tw_2 180 rfl rfl, tw_1 1 rfl rfl, tw_2 181 rfl rfl, by decide, by decide, by decide +kernel⟩
set_option maxRecDepth 100000 in
theorem mi_X_earliestTime : zMI y_X_earliestTime b_X_earliestTime 4 (some .int) 3 := ⟨tw_2 184 rfl rfl, tw_l 2 rfl rfl, tw_1 1 rfl rfl, tw_2 185 rfl rfl, by decide, by decide, by decide +kernel⟩
set_option maxRecDepth 100000 in
theorem mi_S_waitEnd : zMI y_S_waitEnd b_S_waitEnd 4 (some .int) 2 := ⟨tw_2 187 rfl rfl, tw_2 188 rfl rfl, tw_1 2 rfl rfl, tw_2 189 rfl rfl, by decide, by decide, by decide +kernel⟩
set_option maxRecDepth 100000 in
theorem ms_Ma_min : zMS y_Ma_min b_Ma_min 2 (some .int) 2 := ⟨tw_2 191 rfl rfl, tw_1 11 rfl rfl, tw_2 192 rfl rfl, by decide, by decide, by decide +kernel⟩
set_option maxRecDepth 100000 in
theorem mi_X_firstComing : zMI y_X_firstComing b_X_firstComing 8 (some .int) 6 := ⟨tw_2 195 rfl rfl, tw_l 3 rfl rfl, tw_1 1 rfl rfl, tw_2 196 rfl rfl, by decide, by decide, by decide +kernel⟩
set_option maxRecDepth 100000 in
theorem mi_G_prepare : zMI y_G_prepare b_G_prepare 5 (none) 1 := ⟨tw_2 198 rfl rfl, tw_2 199 rfl rfl, tw_1 4 rfl rfl, tw_2 200 rfl rfl, by decide, by decide, by decide +kernel⟩
set_option maxRecDepth 100000 in
theorem ms_Ar_fill_0 : zMS y_Ar_fill_0 b_Ar_fill_0 4 (none) 2 := ⟨tw_2 202 rfl rfl, tw_1 10 rfl rfl, tw_2 203 rfl rfl, by decide, by decide, by decide +kernel⟩
set_option maxRecDepth 100000 in
theorem mi_G_letIn : zMI y_G_letIn b_G_letIn 10 (none) 3 := ⟨tw_2 207 rfl rfl, tw_l 4 rfl rfl, tw_1 4 rfl rfl, tw_2 208 rfl rfl, by decide, by decide, by decide +kernel⟩
set_option maxRecDepth 100000 in
theorem mi_G_shut : zMI y_G_shut b_G_shut 6 (none) 2 := ⟨tw_2 214 rfl rfl, tw_l 5 rfl rfl, tw_1 4 rfl rfl, tw_2 215 rfl rfl, by decide, by decide, by decide +kernel⟩
set_option maxRecDepth 100000 in
theorem mi_O_start : zMI y_O_start b_O_start 3 (none) 2 := ⟨tw_2 218 rfl rfl, tw_2 219 rfl rfl, tw_1 5 rfl rfl, tw_2 220 rfl rfl, by decide, by decide, by decide +kernel⟩
set_option maxRecDepth 100000 in
theorem mi_O_comersAt : zMI y_O_comersAt b_O_comersAt 2 (some .int) 1 := ⟨tw_2 223 rfl rfl, tw_2 224 rfl rfl, tw_1 5 rfl rfl, tw_2 225 rfl rfl, by decide, by decide, by decide +kernel⟩
set_option maxRecDepth 100000 in
theorem ms_X_has : zMS y_X_has b_X_has 2 (some .boolean) 2 := ⟨tw_2 227 rfl rfl, tw_1 1 rfl rfl, tw_2 228 rfl rfl, by decide, by decide, by decide +kernel⟩
set_option maxRecDepth 100000 in
theorem mi_G_at : zMI y_G_at b_G_at 2 (some .int) 1 := ⟨tw_2 230 rfl rfl, tw_2 231 rfl rfl, tw_1 4 rfl rfl, tw_2 232 rfl rfl, by decide, by decide, by decide +kernel⟩
set_option maxRecDepth 100000 in
theorem mi_O_minute : zMI y_O_minute b_O_minute 7 (some .int) 3 := ⟨tw_2 234 rfl rfl, tw_2 235 rfl rfl, tw_1 5 rfl rfl, tw_2 236 rfl rfl, by decide, by decide, by decide +kernel⟩
set_option maxRecDepth 100000 in
theorem ms_Ma_max : zMS y_Ma_max b_Ma_max 2 (some .int) 2 := ⟨tw_3 0 rfl rfl, tw_1 11 rfl rfl, tw_3 1 rfl rfl, by decide, by decide, by decide +kernel⟩
set_option maxRecDepth 100000 in
theorem mi_O_leave : zMI y_O_leave b_O_leave 7 (none) 4 := ⟨tw_3 4 rfl rfl, tw_l 6 rfl rfl, tw_1 5 rfl rfl, tw_3 5 rfl rfl, by decide, by decide, by decide +kernel⟩
set_option maxRecDepth 100000 in
theorem mi_X_latest : zMI y_X_latest b_X_latest 5 (some .int) 3 := ⟨tw_3 8 rfl rfl, tw_3 9 rfl rfl, tw_1 1 rfl rfl, tw_3 10 rfl rfl, by decide, by decide, by decide +kernel⟩
set_option maxRecDepth 100000 in
theorem mi_B_start : zMI y_B_start b_B_start 3 (none) 2 := ⟨tw_3 12 rfl rfl, tw_3 13 rfl rfl, tw_1 6 rfl rfl, tw_3 14 rfl rfl, by decide, by decide, by decide +kernel⟩
set_option maxRecDepth 100000 in
theorem mi_B_minute : zMI y_B_minute b_B_minute 6 (none) 3 := ⟨tw_3 17 rfl rfl, tw_3 18 rfl rfl, tw_1 6 rfl rfl, tw_3 19 rfl rfl, by decide, by decide, by decide +kernel⟩
set_option maxRecDepth 100000 in
theorem mi_B_leads : zMI y_B_leads b_B_leads 3 (some .boolean) 2 := ⟨tw_3 23 rfl rfl, tw_3 24 rfl rfl, tw_1 6 rfl rfl, tw_3 25 rfl rfl, by decide, by decide, by decide +kernel⟩
set_option maxRecDepth 100000 in
theorem mi_X_way : zMI y_X_way b_X_way 7 (some .int) 4 := ⟨tw_3 29 rfl rfl, tw_3 30 rfl rfl, tw_1 1 rfl rfl, tw_3 31 rfl rfl, by decide, by decide, by decide +kernel⟩
set_option maxRecDepth 100000 in
theorem mi_X_fewestRoads : zMI y_X_fewestRoads b_X_fewestRoads 6 (some .int) 4 := ⟨tw_3 34 rfl rfl, tw_l 7 rfl rfl, tw_1 1 rfl rfl, tw_3 35 rfl rfl, by decide, by decide, by decide +kernel⟩
set_option maxRecDepth 100000 in
theorem mi_F_start : zMI y_F_start b_F_start 3 (none) 2 := ⟨tw_3 37 rfl rfl, tw_3 38 rfl rfl, tw_1 7 rfl rfl, tw_3 39 rfl rfl, by decide, by decide, by decide +kernel⟩
set_option maxRecDepth 100000 in
theorem mi_F_push : zMI y_F_push b_F_push 5 (none) 3 := ⟨tw_3 43 rfl rfl, tw_l 8 rfl rfl, tw_1 7 rfl rfl, tw_3 44 rfl rfl, by decide, by decide, by decide +kernel⟩
set_option maxRecDepth 100000 in
theorem ms_F_cell : zMS y_F_cell b_F_cell 2 (some .int) 2 := ⟨tw_3 46 rfl rfl, tw_1 7 rfl rfl, tw_3 47 rfl rfl, by decide, by decide, by decide +kernel⟩
set_option maxRecDepth 100000 in
theorem mi_F_minute : zMI y_F_minute b_F_minute 6 (none) 3 := ⟨tw_3 49 rfl rfl, tw_3 50 rfl rfl, tw_1 7 rfl rfl, tw_3 51 rfl rfl, by decide, by decide, by decide +kernel⟩
set_option maxRecDepth 100000 in
theorem mi_F_bestAt : zMI y_F_bestAt b_F_bestAt 4 (some .int) 2 := ⟨tw_3 55 rfl rfl, tw_l 9 rfl rfl, tw_1 7 rfl rfl, tw_3 56 rfl rfl, by decide, by decide, by decide +kernel⟩
set_option maxRecDepth 100000 in
theorem mi_F_leave : zMI y_F_leave b_F_leave 6 (none) 3 := ⟨tw_3 60 rfl rfl, tw_l 10 rfl rfl, tw_1 7 rfl rfl, tw_3 61 rfl rfl, by decide, by decide, by decide +kernel⟩
set_option maxRecDepth 100000 in
theorem mi_F_comingTo : zMI y_F_comingTo b_F_comingTo 3 (some .int) 2 := ⟨tw_3 64 rfl rfl, tw_3 65 rfl rfl, tw_1 7 rfl rfl, tw_3 66 rfl rfl, by decide, by decide, by decide +kernel⟩
set_option maxRecDepth 100000 in
theorem mi_X_lookBack : zMI y_X_lookBack b_X_lookBack 5 (none) 3 := ⟨tw_3 69 rfl rfl, tw_l 11 rfl rfl, tw_1 1 rfl rfl, tw_3 70 rfl rfl, by decide, by decide, by decide +kernel⟩
set_option maxRecDepth 100000 in
theorem mi_X_firstRoad : zMI y_X_firstRoad b_X_firstRoad 4 (some .int) 2 := ⟨tw_3 73 rfl rfl, tw_l 12 rfl rfl, tw_1 1 rfl rfl, tw_3 74 rfl rfl, by decide, by decide, by decide +kernel⟩
set_option maxRecDepth 100000 in
theorem mi_X_firstEntry : zMI y_X_firstEntry b_X_firstEntry 5 (some .int) 2 := ⟨tw_3 77 rfl rfl, tw_l 13 rfl rfl, tw_1 1 rfl rfl, tw_3 78 rfl rfl, by decide, by decide, by decide +kernel⟩
set_option maxRecDepth 100000 in
theorem mi_X_leadsOn : zMI y_X_leadsOn b_X_leadsOn 3 (some .boolean) 2 := ⟨tw_3 81 rfl rfl, tw_l 14 rfl rfl, tw_1 1 rfl rfl, tw_3 82 rfl rfl, by decide, by decide, by decide +kernel⟩
set_option maxRecDepth 100000 in
theorem mi_X_lastEntry : zMI y_X_lastEntry b_X_lastEntry 5 (some .int) 2 := ⟨tw_3 85 rfl rfl, tw_l 15 rfl rfl, tw_1 1 rfl rfl, tw_3 86 rfl rfl, by decide, by decide, by decide +kernel⟩
set_option maxRecDepth 100000 in
theorem mi_X_reach : zMI y_X_reach b_X_reach 6 (some .int) 3 := ⟨tw_3 88 rfl rfl, tw_3 89 rfl rfl, tw_1 1 rfl rfl, tw_3 90 rfl rfl, by decide, by decide, by decide +kernel⟩
set_option maxRecDepth 100000 in
theorem mi_X_needed : zMI y_X_needed b_X_needed 9 (some .int) 3 := ⟨tw_3 92 rfl rfl, tw_3 93 rfl rfl, tw_1 1 rfl rfl, tw_3 94 rfl rfl, by decide, by decide, by decide +kernel⟩
set_option maxRecDepth 100000 in
theorem mi_X_roadsOfOneWay : zMI y_X_roadsOfOneWay b_X_roadsOfOneWay 8 (some .int) 3 := ⟨tw_3 97 rfl rfl, tw_l 16 rfl rfl, tw_1 1 rfl rfl, tw_3 98 rfl rfl, by decide, by decide, by decide +kernel⟩
set_option maxRecDepth 100000 in
theorem mi_X_roadLeadingOn : zMI y_X_roadLeadingOn b_X_roadLeadingOn 4 (some .int) 2 := ⟨tw_3 101 rfl rfl, tw_l 17 rfl rfl, tw_1 1 rfl rfl, tw_3 102 rfl rfl, by decide, by decide, by decide +kernel⟩
set_option maxRecDepth 100000 in
theorem mi_X_meet : zMI y_X_meet b_X_meet 10 (some .int) 3 := ⟨tw_3 104 rfl rfl, tw_3 105 rfl rfl, tw_1 1 rfl rfl, tw_3 106 rfl rfl, by decide, by decide, by decide +kernel⟩
set_option maxRecDepth 100000 in
theorem mi_S_stayLeft : zMI y_S_stayLeft b_S_stayLeft 6 (some .int) 1 := ⟨tw_3 108 rfl rfl, tw_3 109 rfl rfl, tw_1 2 rfl rfl, tw_3 110 rfl rfl, by decide, by decide, by decide +kernel⟩
set_option maxRecDepth 100000 in
theorem ms_X_lowest : zMS y_X_lowest b_X_lowest 1 (some .int) 1 := ⟨tw_3 114 rfl rfl, tw_1 1 rfl rfl, tw_3 115 rfl rfl, by decide, by decide, by decide +kernel⟩
set_option maxRecDepth 100000 in
theorem ms_In_bitCount : zMS y_In_bitCount b_In_bitCount 1 (some .int) 1 := ⟨tw_3 117 rfl rfl, tw_1 12 rfl rfl, tw_3 118 rfl rfl, by decide, by decide, by decide +kernel⟩
set_option maxRecDepth 100000 in
theorem mi_X_arrives : zMI y_X_arrives b_X_arrives 5 (some .int) 2 := ⟨tw_3 123 rfl rfl, tw_3 124 rfl rfl, tw_1 1 rfl rfl, tw_3 125 rfl rfl, by decide, by decide, by decide +kernel⟩
set_option maxRecDepth 100000 in
theorem mi_X_canStay : zMI y_X_canStay b_X_canStay 2 (some .int) 1 := ⟨tw_3 127 rfl rfl, tw_3 128 rfl rfl, tw_1 1 rfl rfl, tw_3 129 rfl rfl, by decide, by decide, by decide +kernel⟩
set_option maxRecDepth 100000 in
theorem mi_X_put : zMI y_X_put b_X_put 5 (some .int) 1 := ⟨tw_3 131 rfl rfl, tw_3 132 rfl rfl, tw_1 1 rfl rfl, tw_3 133 rfl rfl, by decide, by decide, by decide +kernel⟩
set_option maxRecDepth 100000 in
theorem ms_X_charactersIn : zMS y_X_charactersIn b_X_charactersIn 7 (some .int) 1 := ⟨tw_3 135 rfl rfl, tw_1 1 rfl rfl, tw_3 136 rfl rfl, by decide, by decide, by decide +kernel⟩
set_option maxRecDepth 100000 in
theorem mi_P_append : zMI y_P_append b_P_append 2 (none) 1 := ⟨tw_3 141 rfl rfl, tw_3 142 rfl rfl, tw_1 3 rfl rfl, tw_3 143 rfl rfl, by decide, by decide, by decide +kernel⟩
set_option maxRecDepth 100000 in
theorem mi_X_wipe : zMI y_X_wipe b_X_wipe 2 (some .int) 0 := ⟨tw_3 145 rfl rfl, tw_3 146 rfl rfl, tw_1 1 rfl rfl, tw_3 147 rfl rfl, by decide, by decide, by decide +kernel⟩
set_option maxRecDepth 100000 in
theorem mi_X_fault : zMI y_X_fault b_X_fault 1 (some .int) 0 := ⟨tw_3 149 rfl rfl, tw_3 150 rfl rfl, tw_1 1 rfl rfl, tw_3 151 rfl rfl, by decide, by decide, by decide +kernel⟩
set_option maxRecDepth 100000 in
theorem mi_P_firstWrong : zMI y_P_firstWrong b_P_firstWrong 3 (some .int) 0 := ⟨tw_3 153 rfl rfl, tw_3 154 rfl rfl, tw_1 3 rfl rfl, tw_3 155 rfl rfl, by decide, by decide, by decide +kernel⟩
set_option maxRecDepth 100000 in
theorem mi_P_rewind : zMI y_P_rewind b_P_rewind 1 (none) 0 := ⟨tw_3 157 rfl rfl, tw_3 158 rfl rfl, tw_1 3 rfl rfl, tw_3 159 rfl rfl, by decide, by decide, by decide +kernel⟩
set_option maxRecDepth 100000 in
theorem mi_P_readOrder : zMI y_P_readOrder b_P_readOrder 1 (none) 0 := ⟨tw_3 161 rfl rfl, tw_3 162 rfl rfl, tw_1 3 rfl rfl, tw_3 163 rfl rfl, by decide, by decide, by decide +kernel⟩
set_option maxRecDepth 100000 in
theorem mi_P_readSpans : zMI y_P_readSpans b_P_readSpans 2 (none) 0 := ⟨tw_3 166 rfl rfl, tw_l 18 rfl rfl, tw_1 3 rfl rfl, tw_3 167 rfl rfl, by decide, by decide, by decide +kernel⟩
set_option maxRecDepth 100000 in
theorem mi_P_readNumber : zMI y_P_readNumber b_P_readNumber 4 (some .int) 0 := ⟨tw_3 170 rfl rfl, tw_l 19 rfl rfl, tw_1 3 rfl rfl, tw_3 171 rfl rfl, by decide, by decide, by decide +kernel⟩
set_option maxRecDepth 100000 in
theorem mi_P_readDigit : zMI y_P_readDigit b_P_readDigit 2 (some .int) 1 := ⟨tw_3 174 rfl rfl, tw_l 20 rfl rfl, tw_1 3 rfl rfl, tw_3 175 rfl rfl, by decide, by decide, by decide +kernel⟩
set_option maxRecDepth 100000 in
theorem mi_P_digitStands : zMI y_P_digitStands b_P_digitStands 2 (some .boolean) 1 := ⟨tw_3 178 rfl rfl, tw_l 21 rfl rfl, tw_1 3 rfl rfl, tw_3 179 rfl rfl, by decide, by decide, by decide +kernel⟩
set_option maxRecDepth 100000 in
theorem mi_P_expect : zMI y_P_expect b_P_expect 2 (none) 1 := ⟨tw_3 182 rfl rfl, tw_l 22 rfl rfl, tw_1 3 rfl rfl, tw_3 183 rfl rfl, by decide, by decide, by decide +kernel⟩
set_option maxRecDepth 100000 in
theorem mi_P_take : zMI y_P_take b_P_take 2 (some .boolean) 1 := ⟨tw_3 185 rfl rfl, tw_3 186 rfl rfl, tw_1 3 rfl rfl, tw_3 187 rfl rfl, by decide, by decide, by decide +kernel⟩
set_option maxRecDepth 100000 in
theorem mi_P_stands : zMI y_P_stands b_P_stands 2 (some .boolean) 1 := ⟨tw_3 190 rfl rfl, tw_l 23 rfl rfl, tw_1 3 rfl rfl, tw_3 191 rfl rfl, by decide, by decide, by decide +kernel⟩
set_option maxRecDepth 100000 in
theorem mi_P_readClock : zMI y_P_readClock b_P_readClock 5 (some .int) 0 := ⟨tw_3 194 rfl rfl, tw_l 24 rfl rfl, tw_1 3 rfl rfl, tw_3 195 rfl rfl, by decide, by decide, by decide +kernel⟩
set_option maxRecDepth 100000 in
theorem mi_P_readClosure : zMI y_P_readClosure b_P_readClosure 1 (none) 0 := ⟨tw_3 198 rfl rfl, tw_l 25 rfl rfl, tw_1 3 rfl rfl, tw_3 199 rfl rfl, by decide, by decide, by decide +kernel⟩
set_option maxRecDepth 100000 in
theorem mi_P_readDigitAndNumber : zMI y_P_readDigitAndNumber b_P_readDigitAndNumber 2 (none) 1 := ⟨tw_3 202 rfl rfl, tw_l 26 rfl rfl, tw_1 3 rfl rfl, tw_3 203 rfl rfl, by decide, by decide, by decide +kernel⟩
set_option maxRecDepth 100000 in
theorem mi_X_carryOut : zMI y_X_carryOut b_X_carryOut 4 (some .int) 0 := ⟨tw_3 205 rfl rfl, tw_3 206 rfl rfl, tw_1 1 rfl rfl, tw_3 207 rfl rfl, by decide, by decide, by decide +kernel⟩
set_option maxRecDepth 100000 in
theorem mi_X_carryOrder : zMI y_X_carryOrder b_X_carryOrder 2 (some .int) 0 := ⟨tw_3 212 rfl rfl, tw_l 27 rfl rfl, tw_1 1 rfl rfl, tw_3 213 rfl rfl, by decide, by decide, by decide +kernel⟩
set_option maxRecDepth 100000 in
theorem mi_X_tellSpans : zMI y_X_tellSpans b_X_tellSpans 3 (some .int) 1 := ⟨tw_3 216 rfl rfl, tw_l 28 rfl rfl, tw_1 1 rfl rfl, tw_3 217 rfl rfl, by decide, by decide, by decide +kernel⟩
set_option maxRecDepth 100000 in
theorem mi_P_spansStandApart : zMI y_P_spansStandApart b_P_spansStandApart 3 (some .boolean) 0 := ⟨tw_3 219 rfl rfl, tw_3 220 rfl rfl, tw_1 3 rfl rfl, tw_3 221 rfl rfl, by decide, by decide, by decide +kernel⟩
set_option maxRecDepth 100000 in
theorem mi_P_spanFrom : zMI y_P_spanFrom b_P_spanFrom 2 (some .int) 1 := ⟨tw_3 223 rfl rfl, tw_3 224 rfl rfl, tw_1 3 rfl rfl, tw_3 225 rfl rfl, by decide, by decide, by decide +kernel⟩
set_option maxRecDepth 100000 in
theorem mi_P_spanTo : zMI y_P_spanTo b_P_spanTo 2 (some .int) 1 := ⟨tw_3 227 rfl rfl, tw_3 228 rfl rfl, tw_1 3 rfl rfl, tw_3 229 rfl rfl, by decide, by decide, by decide +kernel⟩
set_option maxRecDepth 100000 in
theorem mi_X_undo : zMI y_X_undo b_X_undo 1 (some .int) 0 := ⟨tw_3 237 rfl rfl, tw_3 238 rfl rfl, tw_1 1 rfl rfl, tw_3 239 rfl rfl, by decide, by decide, by decide +kernel⟩
set_option maxRecDepth 100000 in
theorem mi_X_save : zMI y_X_save b_X_save 2 (some .int) 1 := ⟨tw_4 1 rfl rfl, tw_4 2 rfl rfl, tw_1 1 rfl rfl, tw_4 3 rfl rfl, by decide, by decide, by decide +kernel⟩
set_option maxRecDepth 100000 in
theorem mi_X_restore : zMI y_X_restore b_X_restore 2 (some .int) 1 := ⟨tw_4 5 rfl rfl, tw_4 6 rfl rfl, tw_1 1 rfl rfl, tw_4 7 rfl rfl, by decide, by decide, by decide +kernel⟩
set_option maxRecDepth 100000 in
theorem mi_M_undo : zMI y_M_undo b_M_undo 2 (some .int) 0 := ⟨tw_4 85 rfl rfl, tw_4 86 rfl rfl, tw_1 8 rfl rfl, tw_4 87 rfl rfl, by decide, by decide, by decide +kernel⟩
set_option maxRecDepth 100000 in
theorem mi_M_save : zMI y_M_save b_M_save 3 (some .int) 1 := ⟨tw_4 89 rfl rfl, tw_4 90 rfl rfl, tw_1 8 rfl rfl, tw_4 91 rfl rfl, by decide, by decide, by decide +kernel⟩
set_option maxRecDepth 100000 in
theorem ms_M_isIn : zMS y_M_isIn b_M_isIn 3 (some .boolean) 3 := ⟨tw_4 93 rfl rfl, tw_1 8 rfl rfl, tw_4 94 rfl rfl, by decide, by decide, by decide +kernel⟩
set_option maxRecDepth 100000 in
theorem mi_M_restore : zMI y_M_restore b_M_restore 3 (some .int) 1 := ⟨tw_4 96 rfl rfl, tw_4 97 rfl rfl, tw_1 8 rfl rfl, tw_4 98 rfl rfl, by decide, by decide, by decide +kernel⟩
set_option maxRecDepth 100000 in
theorem mi_M_records : zMI y_M_records b_M_records 2 (none) 0 := ⟨tw_4 101 rfl rfl, tw_l 29 rfl rfl, tw_1 8 rfl rfl, tw_4 102 rfl rfl, by decide, by decide, by decide +kernel⟩
set_option maxRecDepth 100000 in
theorem mi_M_room : zMI y_M_room b_M_room 6 (some .int) 4 := ⟨tw_4 104 rfl rfl, tw_4 105 rfl rfl, tw_1 8 rfl rfl, tw_4 106 rfl rfl, by decide, by decide, by decide +kernel⟩
set_option maxRecDepth 100000 in
theorem ms_M_isPlace : zMS y_M_isPlace b_M_isPlace 1 (some .boolean) 1 := ⟨tw_4 108 rfl rfl, tw_1 8 rfl rfl, tw_4 109 rfl rfl, by decide, by decide, by decide +kernel⟩
set_option maxRecDepth 100000 in
theorem mi_M_road : zMI y_M_road b_M_road 5 (some .int) 3 := ⟨tw_4 111 rfl rfl, tw_4 112 rfl rfl, tw_1 8 rfl rfl, tw_4 113 rfl rfl, by decide, by decide, by decide +kernel⟩
set_option maxRecDepth 100000 in
theorem mi_M_open : zMI y_M_open b_M_open 7 (some .int) 4 := ⟨tw_4 115 rfl rfl, tw_4 116 rfl rfl, tw_1 8 rfl rfl, tw_4 117 rfl rfl, by decide, by decide, by decide +kernel⟩
set_option maxRecDepth 100000 in
theorem mi_M_isRoad : zMI y_M_isRoad b_M_isRoad 2 (some .boolean) 1 := ⟨tw_4 120 rfl rfl, tw_l 30 rfl rfl, tw_1 8 rfl rfl, tw_4 121 rfl rfl, by decide, by decide, by decide +kernel⟩
set_option maxRecDepth 100000 in
theorem ms_M_isSpan : zMS y_M_isSpan b_M_isSpan 3 (some .boolean) 3 := ⟨tw_4 123 rfl rfl, tw_1 8 rfl rfl, tw_4 124 rfl rfl, by decide, by decide, by decide +kernel⟩
set_option maxRecDepth 100000 in
theorem mi_M_more : zMI y_M_more b_M_more 4 (some .int) 3 := ⟨tw_4 126 rfl rfl, tw_4 127 rfl rfl, tw_1 8 rfl rfl, tw_4 128 rfl rfl, by decide, by decide, by decide +kernel⟩
set_option maxRecDepth 100000 in
theorem mi_M_isTaken : zMI y_M_isTaken b_M_isTaken 6 (some .boolean) 3 := ⟨tw_4 131 rfl rfl, tw_l 31 rfl rfl, tw_1 8 rfl rfl, tw_4 132 rfl rfl, by decide, by decide, by decide +kernel⟩
set_option maxRecDepth 100000 in
theorem mi_M_ofR : zMI y_M_ofR b_M_ofR 3 (some .int) 2 := ⟨tw_4 135 rfl rfl, tw_l 32 rfl rfl, tw_1 8 rfl rfl, tw_4 136 rfl rfl, by decide, by decide, by decide +kernel⟩
set_option maxRecDepth 100000 in
theorem mi_M_adds : zMI y_M_adds b_M_adds 6 (none) 3 := ⟨tw_4 139 rfl rfl, tw_l 33 rfl rfl, tw_1 8 rfl rfl, tw_4 140 rfl rfl, by decide, by decide, by decide +kernel⟩
set_option maxRecDepth 100000 in
theorem mi_M_close : zMI y_M_close b_M_close 5 (some .int) 3 := ⟨tw_4 142 rfl rfl, tw_4 143 rfl rfl, tw_1 8 rfl rfl, tw_4 144 rfl rfl, by decide, by decide, by decide +kernel⟩
set_option maxRecDepth 100000 in
theorem mi_M_checksClosing : zMI y_M_checksClosing b_M_checksClosing 4 (some .int) 3 := ⟨tw_4 147 rfl rfl, tw_l 34 rfl rfl, tw_1 8 rfl rfl, tw_4 148 rfl rfl, by decide, by decide, by decide +kernel⟩
set_option maxRecDepth 100000 in
theorem mi_M_closes : zMI y_M_closes b_M_closes 5 (some .int) 3 := ⟨tw_4 151 rfl rfl, tw_l 35 rfl rfl, tw_1 8 rfl rfl, tw_4 152 rfl rfl, by decide, by decide, by decide +kernel⟩
set_option maxRecDepth 100000 in
theorem mi_M_lift : zMI y_M_lift b_M_lift 3 (some .int) 1 := ⟨tw_4 154 rfl rfl, tw_4 155 rfl rfl, tw_1 8 rfl rfl, tw_4 156 rfl rfl, by decide, by decide, by decide +kernel⟩
set_option maxRecDepth 100000 in
theorem mi_M_whyShut : zMI y_M_whyShut b_M_whyShut 3 (some .int) 2 := ⟨tw_4 158 rfl rfl, tw_4 159 rfl rfl, tw_1 8 rfl rfl, tw_4 160 rfl rfl, by decide, by decide, by decide +kernel⟩
set_option maxRecDepth 100000 in
theorem ms_M_isTime : zMS y_M_isTime b_M_isTime 1 (some .boolean) 1 := ⟨tw_4 162 rfl rfl, tw_1 8 rfl rfl, tw_4 163 rfl rfl, by decide, by decide, by decide +kernel⟩
set_option maxRecDepth 100000 in
theorem mi_M_whyNot : zMI y_M_whyNot b_M_whyNot 5 (some .int) 2 := ⟨tw_4 166 rfl rfl, tw_l 36 rfl rfl, tw_1 8 rfl rfl, tw_4 167 rfl rfl, by decide, by decide, by decide +kernel⟩
set_option maxRecDepth 100000 in
theorem mi_M_spanEnd : zMI y_M_spanEnd b_M_spanEnd 6 (some .int) 2 := ⟨tw_4 170 rfl rfl, tw_l 37 rfl rfl, tw_1 8 rfl rfl, tw_4 171 rfl rfl, by decide, by decide, by decide +kernel⟩
set_option maxRecDepth 100000 in
theorem mi_M_isClosed : zMI y_M_isClosed b_M_isClosed 6 (some .boolean) 2 := ⟨tw_4 174 rfl rfl, tw_l 38 rfl rfl, tw_1 8 rfl rfl, tw_4 175 rfl rfl, by decide, by decide, by decide +kernel⟩
set_option maxRecDepth 100000 in
theorem mi_M_traveller : zMI y_M_traveller b_M_traveller 4 (some .int) 2 := ⟨tw_4 177 rfl rfl, tw_4 178 rfl rfl, tw_1 8 rfl rfl, tw_4 179 rfl rfl, by decide, by decide, by decide +kernel⟩
set_option maxRecDepth 100000 in
theorem mi_M_go : zMI y_M_go b_M_go 4 (some .int) 2 := ⟨tw_4 181 rfl rfl, tw_4 182 rfl rfl, tw_1 8 rfl rfl, tw_4 183 rfl rfl, by decide, by decide, by decide +kernel⟩
set_option maxRecDepth 100000 in
theorem mi_M_checksGoing : zMI y_M_checksGoing b_M_checksGoing 4 (some .int) 2 := ⟨tw_4 186 rfl rfl, tw_l 39 rfl rfl, tw_1 8 rfl rfl, tw_4 187 rfl rfl, by decide, by decide, by decide +kernel⟩
set_option maxRecDepth 100000 in
theorem mi_M_isTraveller : zMI y_M_isTraveller b_M_isTraveller 2 (some .boolean) 1 := ⟨tw_4 190 rfl rfl, tw_l 40 rfl rfl, tw_1 8 rfl rfl, tw_4 191 rfl rfl, by decide, by decide, by decide +kernel⟩
set_option maxRecDepth 100000 in
theorem mi_M_ofT : zMI y_M_ofT b_M_ofT 3 (some .int) 2 := ⟨tw_4 194 rfl rfl, tw_l 41 rfl rfl, tw_1 8 rfl rfl, tw_4 195 rfl rfl, by decide, by decide, by decide +kernel⟩
set_option maxRecDepth 100000 in
theorem mi_M_refuses : zMI y_M_refuses b_M_refuses 2 (some .int) 1 := ⟨tw_4 198 rfl rfl, tw_l 42 rfl rfl, tw_1 8 rfl rfl, tw_4 199 rfl rfl, by decide, by decide, by decide +kernel⟩
set_option maxRecDepth 100000 in
theorem mi_M_goes : zMI y_M_goes b_M_goes 5 (some .int) 2 := ⟨tw_4 202 rfl rfl, tw_l 43 rfl rfl, tw_1 8 rfl rfl, tw_4 203 rfl rfl, by decide, by decide, by decide +kernel⟩
set_option maxRecDepth 100000 in
theorem mi_M_stay : zMI y_M_stay b_M_stay 4 (some .int) 2 := ⟨tw_4 205 rfl rfl, tw_4 206 rfl rfl, tw_1 8 rfl rfl, tw_4 207 rfl rfl, by decide, by decide, by decide +kernel⟩
set_option maxRecDepth 100000 in
theorem mi_M_checksStaying : zMI y_M_checksStaying b_M_checksStaying 6 (some .int) 2 := ⟨tw_4 210 rfl rfl, tw_l 44 rfl rfl, tw_1 8 rfl rfl, tw_4 211 rfl rfl, by decide, by decide, by decide +kernel⟩
set_option maxRecDepth 100000 in
theorem mi_M_isRoomOpen : zMI y_M_isRoomOpen b_M_isRoomOpen 4 (some .boolean) 2 := ⟨tw_4 214 rfl rfl, tw_l 45 rfl rfl, tw_1 8 rfl rfl, tw_4 215 rfl rfl, by decide, by decide, by decide +kernel⟩
set_option maxRecDepth 100000 in
theorem mi_M_limitOf : zMI y_M_limitOf b_M_limitOf 2 (some .int) 1 := ⟨tw_4 218 rfl rfl, tw_l 46 rfl rfl, tw_1 8 rfl rfl, tw_4 219 rfl rfl, by decide, by decide, by decide +kernel⟩
set_option maxRecDepth 100000 in
theorem mi_M_stays : zMI y_M_stays b_M_stays 4 (some .int) 2 := ⟨tw_4 222 rfl rfl, tw_l 47 rfl rfl, tw_1 8 rfl rfl, tw_4 223 rfl rfl, by decide, by decide, by decide +kernel⟩
set_option maxRecDepth 100000 in
theorem mi_M_ofPlace : zMI y_M_ofPlace b_M_ofPlace 5 (some .int) 2 := ⟨tw_4 225 rfl rfl, tw_4 226 rfl rfl, tw_1 8 rfl rfl, tw_4 227 rfl rfl, by decide, by decide, by decide +kernel⟩
set_option maxRecDepth 100000 in
theorem mi_M_roadsBy : zMI y_M_roadsBy b_M_roadsBy 5 (some .int) 2 := ⟨tw_4 230 rfl rfl, tw_l 48 rfl rfl, tw_1 8 rfl rfl, tw_4 231 rfl rfl, by decide, by decide, by decide +kernel⟩
set_option maxRecDepth 100000 in
theorem mi_M_ofRoad : zMI y_M_ofRoad b_M_ofRoad 5 (some .int) 2 := ⟨tw_4 233 rfl rfl, tw_4 234 rfl rfl, tw_1 8 rfl rfl, tw_4 235 rfl rfl, by decide, by decide, by decide +kernel⟩
set_option maxRecDepth 100000 in
theorem mi_M_ofClosure : zMI y_M_ofClosure b_M_ofClosure 3 (some .int) 2 := ⟨tw_4 237 rfl rfl, tw_4 238 rfl rfl, tw_1 8 rfl rfl, tw_4 239 rfl rfl, by decide, by decide, by decide +kernel⟩
set_option maxRecDepth 100000 in
theorem mi_M_ofTraveller : zMI y_M_ofTraveller b_M_ofTraveller 3 (some .int) 2 := ⟨tw_5 1 rfl rfl, tw_5 2 rfl rfl, tw_1 8 rfl rfl, tw_5 3 rfl rfl, by decide, by decide, by decide +kernel⟩
set_option maxRecDepth 100000 in
theorem mi_M_count : zMI y_M_count b_M_count 2 (some .int) 1 := ⟨tw_5 5 rfl rfl, tw_5 6 rfl rfl, tw_1 8 rfl rfl, tw_5 7 rfl rfl, by decide, by decide, by decide +kernel⟩
set_option maxRecDepth 100000 in
theorem mi_M_earliest : zMI y_M_earliest b_M_earliest 4 (some .int) 3 := ⟨tw_5 9 rfl rfl, tw_5 10 rfl rfl, tw_1 8 rfl rfl, tw_5 11 rfl rfl, by decide, by decide, by decide +kernel⟩
set_option maxRecDepth 100000 in
theorem mi_M_earliestOf : zMI y_M_earliestOf b_M_earliestOf 4 (some .int) 3 := ⟨tw_5 14 rfl rfl, tw_l 49 rfl rfl, tw_1 8 rfl rfl, tw_5 15 rfl rfl, by decide, by decide, by decide +kernel⟩
set_option maxRecDepth 100000 in
theorem mi_M_spreads : zMI y_M_spreads b_M_spreads 7 (none) 4 := ⟨tw_5 18 rfl rfl, tw_l 50 rfl rfl, tw_1 8 rfl rfl, tw_5 19 rfl rfl, by decide, by decide, by decide +kernel⟩
set_option maxRecDepth 100000 in
theorem ms_M_has : zMS y_M_has b_M_has 2 (some .boolean) 2 := ⟨tw_5 21 rfl rfl, tw_1 8 rfl rfl, tw_5 22 rfl rfl, by decide, by decide, by decide +kernel⟩
set_option maxRecDepth 100000 in
theorem mi_M_firstAt : zMI y_M_firstAt b_M_firstAt 3 (some .int) 1 := ⟨tw_5 25 rfl rfl, tw_l 51 rfl rfl, tw_1 8 rfl rfl, tw_5 26 rfl rfl, by decide, by decide, by decide +kernel⟩
set_option maxRecDepth 100000 in
theorem mi_M_latest : zMI y_M_latest b_M_latest 5 (some .int) 3 := ⟨tw_5 28 rfl rfl, tw_5 29 rfl rfl, tw_1 8 rfl rfl, tw_5 30 rfl rfl, by decide, by decide, by decide +kernel⟩
set_option maxRecDepth 100000 in
theorem mi_M_goesBack : zMI y_M_goesBack b_M_goesBack 6 (none) 2 := ⟨tw_5 33 rfl rfl, tw_l 52 rfl rfl, tw_1 8 rfl rfl, tw_5 34 rfl rfl, by decide, by decide, by decide +kernel⟩
set_option maxRecDepth 100000 in
theorem mi_M_leadsOn : zMI y_M_leadsOn b_M_leadsOn 7 (some .boolean) 3 := ⟨tw_5 37 rfl rfl, tw_l 53 rfl rfl, tw_1 8 rfl rfl, tw_5 38 rfl rfl, by decide, by decide, by decide +kernel⟩
set_option maxRecDepth 100000 in
theorem mi_M_way : zMI y_M_way b_M_way 8 (some .int) 4 := ⟨tw_5 40 rfl rfl, tw_5 41 rfl rfl, tw_1 8 rfl rfl, tw_5 42 rfl rfl, by decide, by decide, by decide +kernel⟩
set_option maxRecDepth 100000 in
theorem mi_M_fewestRoads : zMI y_M_fewestRoads b_M_fewestRoads 11 (some .int) 4 := ⟨tw_5 45 rfl rfl, tw_l 54 rfl rfl, tw_1 8 rfl rfl, tw_5 46 rfl rfl, by decide, by decide, by decide +kernel⟩
set_option maxRecDepth 100000 in
theorem mi_M_fewestAt : zMI y_M_fewestAt b_M_fewestAt 7 (some .int) 3 := ⟨tw_5 50 rfl rfl, tw_l 55 rfl rfl, tw_1 8 rfl rfl, tw_5 51 rfl rfl, by decide, by decide, by decide +kernel⟩
set_option maxRecDepth 100000 in
theorem mi_M_beginsAt : zMI y_M_beginsAt b_M_beginsAt 10 (some .int) 4 := ⟨tw_5 54 rfl rfl, tw_l 56 rfl rfl, tw_1 8 rfl rfl, tw_5 55 rfl rfl, by decide, by decide, by decide +kernel⟩
set_option maxRecDepth 100000 in
theorem mi_M_reach : zMI y_M_reach b_M_reach 6 (some .int) 3 := ⟨tw_5 57 rfl rfl, tw_5 58 rfl rfl, tw_1 8 rfl rfl, tw_5 59 rfl rfl, by decide, by decide, by decide +kernel⟩
set_option maxRecDepth 100000 in
theorem mi_M_needed : zMI y_M_needed b_M_needed 7 (some .int) 3 := ⟨tw_5 61 rfl rfl, tw_5 62 rfl rfl, tw_1 8 rfl rfl, tw_5 63 rfl rfl, by decide, by decide, by decide +kernel⟩
set_option maxRecDepth 100000 in
theorem mi_M_meet : zMI y_M_meet b_M_meet 6 (some .int) 3 := ⟨tw_5 65 rfl rfl, tw_5 66 rfl rfl, tw_1 8 rfl rfl, tw_5 67 rfl rfl, by decide, by decide, by decide +kernel⟩
set_option maxRecDepth 100000 in
theorem mi_M_spreadsFrom : zMI y_M_spreadsFrom b_M_spreadsFrom 2 (none) 1 := ⟨tw_5 70 rfl rfl, tw_l 57 rfl rfl, tw_1 8 rfl rfl, tw_5 71 rfl rfl, by decide, by decide, by decide +kernel⟩
set_option maxRecDepth 100000 in
theorem mi_M_arrives : zMI y_M_arrives b_M_arrives 3 (some .int) 2 := ⟨tw_5 73 rfl rfl, tw_5 74 rfl rfl, tw_1 8 rfl rfl, tw_5 75 rfl rfl, by decide, by decide, by decide +kernel⟩
set_option maxRecDepth 100000 in
theorem mi_M_canStay : zMI y_M_canStay b_M_canStay 5 (some .int) 1 := ⟨tw_5 77 rfl rfl, tw_5 78 rfl rfl, tw_1 8 rfl rfl, tw_5 79 rfl rfl, by decide, by decide, by decide +kernel⟩
set_option maxRecDepth 100000 in
theorem mi_M_put : zMI y_M_put b_M_put 5 (some .int) 1 := ⟨tw_5 81 rfl rfl, tw_5 82 rfl rfl, tw_1 8 rfl rfl, tw_5 83 rfl rfl, by decide, by decide, by decide +kernel⟩
set_option maxRecDepth 100000 in
theorem mi_M_wipe : zMI y_M_wipe b_M_wipe 2 (some .int) 0 := ⟨tw_5 86 rfl rfl, tw_5 87 rfl rfl, tw_1 8 rfl rfl, tw_5 88 rfl rfl, by decide, by decide, by decide +kernel⟩
set_option maxRecDepth 100000 in
theorem mi_M_fault : zMI y_M_fault b_M_fault 1 (some .int) 0 := ⟨tw_5 90 rfl rfl, tw_5 91 rfl rfl, tw_1 8 rfl rfl, tw_5 92 rfl rfl, by decide, by decide, by decide +kernel⟩
set_option maxRecDepth 100000 in
theorem mi_M_passesOrder : zMI y_M_passesOrder b_M_passesOrder 1 (some .boolean) 0 := ⟨tw_5 95 rfl rfl, tw_l 58 rfl rfl, tw_1 8 rfl rfl, tw_5 96 rfl rfl, by decide, by decide, by decide +kernel⟩
set_option maxRecDepth 100000 in
theorem mi_M_passesSpans : zMI y_M_passesSpans b_M_passesSpans 1 (some .boolean) 0 := ⟨tw_5 99 rfl rfl, tw_l 59 rfl rfl, tw_1 8 rfl rfl, tw_5 100 rfl rfl, by decide, by decide, by decide +kernel⟩
set_option maxRecDepth 100000 in
theorem mi_M_passesNumber : zMI y_M_passesNumber b_M_passesNumber 3 (some .boolean) 0 := ⟨tw_5 103 rfl rfl, tw_l 60 rfl rfl, tw_1 8 rfl rfl, tw_5 104 rfl rfl, by decide, by decide, by decide +kernel⟩
set_option maxRecDepth 100000 in
theorem mi_M_passes : zMI y_M_passes b_M_passes 3 (some .boolean) 2 := ⟨tw_5 107 rfl rfl, tw_l 61 rfl rfl, tw_1 8 rfl rfl, tw_5 108 rfl rfl, by decide, by decide, by decide +kernel⟩
set_option maxRecDepth 100000 in
theorem mi_M_isDigitHere : zMI y_M_isDigitHere b_M_isDigitHere 1 (some .boolean) 0 := ⟨tw_5 111 rfl rfl, tw_l 62 rfl rfl, tw_1 8 rfl rfl, tw_5 112 rfl rfl, by decide, by decide, by decide +kernel⟩
set_option maxRecDepth 100000 in
theorem mi_M_passesHours : zMI y_M_passesHours b_M_passesHours 1 (some .boolean) 0 := ⟨tw_5 115 rfl rfl, tw_l 63 rfl rfl, tw_1 8 rfl rfl, tw_5 116 rfl rfl, by decide, by decide, by decide +kernel⟩
set_option maxRecDepth 100000 in
theorem mi_M_passesClock : zMI y_M_passesClock b_M_passesClock 3 (some .boolean) 0 := ⟨tw_5 119 rfl rfl, tw_l 64 rfl rfl, tw_1 8 rfl rfl, tw_5 120 rfl rfl, by decide, by decide, by decide +kernel⟩
set_option maxRecDepth 100000 in
theorem mi_M_passesClosing : zMI y_M_passesClosing b_M_passesClosing 1 (some .boolean) 0 := ⟨tw_5 123 rfl rfl, tw_l 65 rfl rfl, tw_1 8 rfl rfl, tw_5 124 rfl rfl, by decide, by decide, by decide +kernel⟩
set_option maxRecDepth 100000 in
theorem mi_M_passesTravel : zMI y_M_passesTravel b_M_passesTravel 2 (some .boolean) 1 := ⟨tw_5 127 rfl rfl, tw_l 66 rfl rfl, tw_1 8 rfl rfl, tw_5 128 rfl rfl, by decide, by decide, by decide +kernel⟩
set_option maxRecDepth 100000 in
theorem mi_M_carryOut : zMI y_M_carryOut b_M_carryOut 3 (some .int) 0 := ⟨tw_5 130 rfl rfl, tw_5 131 rfl rfl, tw_1 8 rfl rfl, tw_5 132 rfl rfl, by decide, by decide, by decide +kernel⟩
set_option maxRecDepth 100000 in
theorem mi_M_does : zMI y_M_does b_M_does 2 (some .int) 0 := ⟨tw_5 136 rfl rfl, tw_l 67 rfl rfl, tw_1 8 rfl rfl, tw_5 137 rfl rfl, by decide, by decide, by decide +kernel⟩
set_option maxRecDepth 100000 in
theorem mi_M_doesSpans : zMI y_M_doesSpans b_M_doesSpans 3 (some .int) 0 := ⟨tw_5 140 rfl rfl, tw_l 68 rfl rfl, tw_1 8 rfl rfl, tw_5 141 rfl rfl, by decide, by decide, by decide +kernel⟩
