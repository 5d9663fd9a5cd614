def zd (cc : ByteArray) (pc pc' : Nat) (i : Instr) (n : Nat) : Prop := decode cc pc = .ok (i, n) ∧ pc + n = pc'
def zTb : List Cond := lw_tbl.filter goodWord
theorem zTb_lw {w : Cond} (h : w ∈ zTb) : w ∈ lw_tbl := (List.mem_filter.mp h).1
def R_S : String := "GateRoads$State"
def F_S : u_T := fun k => match k with
  | 0 => ("GateRoads$State", "rooms", "[I", true)
  | 1 => ("GateRoads$State", "roads", "[I", true)
  | 2 => ("GateRoads$State", "entered", "[I", true)
  | 3 => ("GateRoads$State", "closures", "[I", true)
  | 4 => ("GateRoads$State", "travellers", "[I", true)
  | 5 => ("GateRoads$State", "roadCount", "I", false)
  | 6 => ("GateRoads$State", "closureCount", "I", false)
  | _ => ("GateRoads$State", "travellerCount", "I", false)
def t_S : Nat → FieldType := fun k => match k with
  | 0 => .array .int
  | 1 => .array .int
  | 2 => .array .int
  | 3 => .array .int
  | 4 => .array .int
  | 5 => .int
  | 6 => .int
  | _ => .int
theorem n_S : ∀ a, a < 8 → ∀ b, b < 8 → a ≠ b → (F_S a).2.1 ≠ (F_S b).2.1 := by decide +kernel
theorem t_S_ok : ∀ k, k < 8 → parseFieldDescriptor (F_S k).2.2.1 = some (t_S k) := by decide +kernel
theorem i_S : ∀ w ∈ u_ws R_S F_S 8, w ∈ zTb := by decide +kernel
def R_X : String := "GateRoads"
def F_X : u_T := fun k => match k with
  | 0 => ("GateRoads", "now", "LGateRoads$State;", true)
  | 1 => ("GateRoads", "history", "[LGateRoads$State;", true)
  | 2 => ("GateRoads", "changes", "I", false)
  | 3 => ("GateRoads", "slots", "[LGateRoads$State;", true)
  | 4 => ("GateRoads", "saved", "[Z", true)
  | 5 => ("GateRoads", "reason", "I", false)
  | 6 => ("GateRoads", "pad", "LGateRoads$Pad;", true)
  | 7 => ("GateRoads", "carrying", "Z", false)
  | 8 => ("GateRoads", "gates", "LGateRoads$Gates;", true)
  | 9 => ("GateRoads", "onward", "LGateRoads$Onward;", true)
  | 10 => ("GateRoads", "otherOnward", "LGateRoads$Onward;", true)
  | 11 => ("GateRoads", "backward", "LGateRoads$Backward;", true)
  | _ => ("GateRoads", "fewest", "LGateRoads$Fewest;", true)
def t_X : Nat → FieldType := fun k => match k with
  | 0 => .object "GateRoads$State"
  | 1 => .array (.object "GateRoads$State")
  | 2 => .int
  | 3 => .array (.object "GateRoads$State")
  | 4 => .array .boolean
  | 5 => .int
  | 6 => .object "GateRoads$Pad"
  | 7 => .boolean
  | 8 => .object "GateRoads$Gates"
  | 9 => .object "GateRoads$Onward"
  | 10 => .object "GateRoads$Onward"
  | 11 => .object "GateRoads$Backward"
  | _ => .object "GateRoads$Fewest"
theorem n_X : ∀ a, a < 13 → ∀ b, b < 13 → a ≠ b → (F_X a).2.1 ≠ (F_X b).2.1 := by decide +kernel
theorem t_X_ok : ∀ k, k < 13 → parseFieldDescriptor (F_X k).2.2.1 = some (t_X k) := by decide +kernel
theorem i_X : ∀ w ∈ u_ws R_X F_X 13, w ∈ zTb := by decide +kernel
def R_P : String := "GateRoads$Pad"
def F_P : u_T := fun k => match k with
  | 0 => ("GateRoads$Pad", "text", "[C", true)
  | 1 => ("GateRoads$Pad", "length", "I", false)
  | 2 => ("GateRoads$Pad", "at", "I", false)
  | 3 => ("GateRoads$Pad", "wrong", "Z", false)
  | 4 => ("GateRoads$Pad", "kind", "I", false)
  | 5 => ("GateRoads$Pad", "numbers", "[I", true)
  | 6 => ("GateRoads$Pad", "clocks", "[I", true)
  | 7 => ("GateRoads$Pad", "spans", "I", false)
  | _ => ("GateRoads$Pad", "strict", "I", false)
def t_P : Nat → FieldType := fun k => match k with
  | 0 => .array .char
  | 1 => .int
  | 2 => .int
  | 3 => .boolean
  | 4 => .int
  | 5 => .array .int
  | 6 => .array .int
  | 7 => .int
  | _ => .int
theorem n_P : ∀ a, a < 9 → ∀ b, b < 9 → a ≠ b → (F_P a).2.1 ≠ (F_P b).2.1 := by decide +kernel
theorem t_P_ok : ∀ k, k < 9 → parseFieldDescriptor (F_P k).2.2.1 = some (t_P k) := by decide +kernel
theorem i_P : ∀ w ∈ u_ws R_P F_P 9, w ∈ zTb := by decide +kernel
def R_G : String := "GateRoads$Gates"
def F_G : u_T := fun k => match k with
  | 0 => ("GateRoads$Gates", "roadsAt", "[I", true)
  | _ => ("GateRoads$Gates", "ready", "Z", false)
def t_G : Nat → FieldType := fun k => match k with
  | 0 => .array .int
  | _ => .boolean
theorem n_G : ∀ a, a < 2 → ∀ b, b < 2 → a ≠ b → (F_G a).2.1 ≠ (F_G b).2.1 := by decide +kernel
theorem t_G_ok : ∀ k, k < 2 → parseFieldDescriptor (F_G k).2.2.1 = some (t_G k) := by decide +kernel
theorem i_G : ∀ w ∈ u_ws R_G F_G 2, w ∈ zTb := by decide +kernel
def R_O : String := "GateRoads$Onward"
def F_O : u_T := fun k => match k with
  | 0 => ("GateRoads$Onward", "comers", "[I", true)
  | _ => ("GateRoads$Onward", "until", "[I", true)
def t_O : Nat → FieldType := fun k => match k with
  | 0 => .array .int
  | _ => .array .int
theorem n_O : ∀ a, a < 2 → ∀ b, b < 2 → a ≠ b → (F_O a).2.1 ≠ (F_O b).2.1 := by decide +kernel
theorem t_O_ok : ∀ k, k < 2 → parseFieldDescriptor (F_O k).2.2.1 = some (t_O k) := by decide +kernel
theorem i_O : ∀ w ∈ u_ws R_O F_O 2, w ∈ zTb := by decide +kernel
def R_B : String := "GateRoads$Backward"
def F_B : u_T := fun k => match k with
  | 0 => ("GateRoads$Backward", "leading", "[I", true)
  | 1 => ("GateRoads$Backward", "nextEntry", "[I", true)
  | 2 => ("GateRoads$Backward", "goal", "I", false)
  | _ => ("GateRoads$Backward", "by", "I", false)
def t_B : Nat → FieldType := fun k => match k with
  | 0 => .array .int
  | 1 => .array .int
  | 2 => .int
  | _ => .int
theorem n_B : ∀ a, a < 4 → ∀ b, b < 4 → a ≠ b → (F_B a).2.1 ≠ (F_B b).2.1 := by decide +kernel
theorem t_B_ok : ∀ k, k < 4 → parseFieldDescriptor (F_B k).2.2.1 = some (t_B k) := by decide +kernel
theorem i_B : ∀ w ∈ u_ws R_B F_B 4, w ∈ zTb := by decide +kernel
def R_F : String := "GateRoads$Fewest"
def F_F : u_T := fun k => match k with
  | 0 => ("GateRoads$Fewest", "coming", "[I", true)
  | 1 => ("GateRoads$Fewest", "queue", "[I", true)
  | 2 => ("GateRoads$Fewest", "head", "[I", true)
  | 3 => ("GateRoads$Fewest", "tail", "[I", true)
  | _ => ("GateRoads$Fewest", "best", "[I", true)
def t_F : Nat → FieldType := fun k => match k with
  | 0 => .array .int
  | 1 => .array .int
  | 2 => .array .int
  | 3 => .array .int
  | _ => .array .int
theorem n_F : ∀ a, a < 5 → ∀ b, b < 5 → a ≠ b → (F_F a).2.1 ≠ (F_F b).2.1 := by decide +kernel
theorem t_F_ok : ∀ k, k < 5 → parseFieldDescriptor (F_F k).2.2.1 = some (t_F k) := by decide +kernel
theorem i_F : ∀ w ∈ u_ws R_F F_F 5, w ∈ zTb := by decide +kernel
abbrev zCl : List vw_C := [(R_S, F_S, 8), (R_X, F_X, 13), (R_P, F_P, 9), (R_G, F_G, 2), (R_O, F_O, 2), (R_B, F_B, 4), (R_F, F_F, 5)]
abbrev zSh : Type := (Nat × Nat) ⊕ (Nat × List Int)
def zShp : List zSh := [.inr (0, [1, 2, 3, 4, 5, -1, -1, -1]), .inl (0, 24), .inl (0, 264), .inl (0, 24), .inl (0, 60), .inl (0, 80), .inr (0, [7, 8, 9, 10, 11, -1, -1, -1]), .inl (0, 24), .inl (0, 264), .inl (0, 24), .inl (0, 60), .inl (0, 80), .inr (0, [13, 14, 15, 16, 17, -1, -1, -1]), .inl (0, 24), .inl (0, 264), .inl (0, 24), .inl (0, 60), .inl (0, 80), .inr (0, [19, 20, 21, 22, 23, -1, -1, -1]), .inl (0, 24), .inl (0, 264), .inl (0, 24), .inl (0, 60), .inl (0, 80), .inr (0, [25, 26, 27, 28, 29, -1, -1, -1]), .inl (0, 24), .inl (0, 264), .inl (0, 24), .inl (0, 60), .inl (0, 80), .inr (0, [31, 32, 33, 34, 35, -1, -1, -1]), .inl (0, 24), .inl (0, 264), .inl (0, 24), .inl (0, 60), .inl (0, 80), .inr (0, [37, 38, 39, 40, 41, -1, -1, -1]), .inl (0, 24), .inl (0, 264), .inl (0, 24), .inl (0, 60), .inl (0, 80), .inr (0, [43, 44, 45, 46, 47, -1, -1, -1]), .inl (0, 24), .inl (0, 264), .inl (0, 24), .inl (0, 60), .inl (0, 80), .inr (0, [49, 50, 51, 52, 53, -1, -1, -1]), .inl (0, 24), .inl (0, 264), .inl (0, 24), .inl (0, 60), .inl (0, 80), .inr (1, [0, 55, -1, 56, 57, -1, 58, -1, 62, 64, 67, 70, 73]), .inl (3, 6), .inl (3, 2), .inl (1, 2), .inr (2, [59, -1, -1, -1, -1, 60, 61, -1, -1]), .inl (2, 80), .inl (0, 3), .inl (0, 6), .inr (3, [63, -1]), .inl (0, 2881), .inr (4, [65, 66]), .inl (0, 1024), .inl (0, 8), .inr (4, [68, 69]), .inl (0, 1024), .inl (0, 8), .inr (5, [71, 72, -1, -1]), .inl (0, 2881), .inl (0, 8), .inr (6, [74, 75, 76, 77, 78]), .inl (0, 8192), .inl (0, 8192), .inl (0, 8), .inl (0, 8), .inl (0, 8)]
def zNw : List (String × Nat × MethodName × String) := [("GateRoads$Onward", 24, ⟨"GateRoads", "has", "(II)Z"⟩, "GateRoads")]
theorem tw_r (i : Nat) {w : Cond} (h : tables_1[i]? = some w) (hg : goodWord w = true) : w ∈ zTb := List.mem_filter.mpr ⟨List.mem_append_right _ (List.mem_of_getElem? h), hg⟩
theorem tw_1 (i : Nat) {w : Cond} (h : tables_1_1[i]? = some w) (hg : goodWord w = true) : w ∈ zTb := List.mem_filter.mpr ⟨List.mem_append_right _ (show w ∈ tables_1 from (List.mem_append_left _ (List.mem_of_getElem? h))), hg⟩
theorem tw_2 (i : Nat) {w : Cond} (h : tables_1_2[i]? = some w) (hg : goodWord w = true) : w ∈ zTb := List.mem_filter.mpr ⟨List.mem_append_right _ (show w ∈ tables_1 from (List.mem_append_right _ (List.mem_append_left _ (List.mem_of_getElem? h)))), hg⟩
theorem tw_3 (i : Nat) {w : Cond} (h : tables_1_3[i]? = some w) (hg : goodWord w = true) : w ∈ zTb := List.mem_filter.mpr ⟨List.mem_append_right _ (show w ∈ tables_1 from (List.mem_append_right _ (List.mem_append_right _ (List.mem_of_getElem? h)))), hg⟩
theorem tw_l (i : Nat) {w : Cond} (h : (k2_sels lw_privs)[i]? = some w) (hg : goodWord w = true) : w ∈ zTb := List.mem_filter.mpr ⟨List.mem_append_left _ (List.mem_of_getElem? h), hg⟩
abbrev b_X_init : ByteArray := prog_1_method_1_code
def y_X_init : MethodName := ⟨"GateRoads", "<init>", "()V"⟩
abbrev b_S_init : ByteArray := prog_7_method_1_code
def y_S_init : MethodName := ⟨"GateRoads$State", "<init>", "()V"⟩
abbrev b_P_init : ByteArray := prog_6_method_1_code
def y_P_init : MethodName := ⟨"GateRoads$Pad", "<init>", "()V"⟩
abbrev b_G_init : ByteArray := prog_4_method_1_code
def y_G_init : MethodName := ⟨"GateRoads$Gates", "<init>", "()V"⟩
abbrev b_O_init : ByteArray := prog_5_method_1_code
def y_O_init : MethodName := ⟨"GateRoads$Onward", "<init>", "()V"⟩
abbrev b_B_init : ByteArray := prog_2_method_1_code
def y_B_init : MethodName := ⟨"GateRoads$Backward", "<init>", "()V"⟩
abbrev b_F_init : ByteArray := prog_3_method_1_code
def y_F_init : MethodName := ⟨"GateRoads$Fewest", "<init>", "()V"⟩
abbrev b_X_count : ByteArray := prog_1_method_15_code
def y_X_count : MethodName := ⟨"GateRoads", "count", "(I)I"⟩
abbrev b_L_cell : ByteArray := method_2_code
def y_L_cell : MethodName := ⟨"GateRoadsLaw", "cell", "([II)I"⟩
abbrev b_L_up : ByteArray := method_3_code
def y_L_up : MethodName := ⟨"GateRoadsLaw", "up", "(II)I"⟩
abbrev b_L_view : ByteArray := method_4_code
def y_L_view : MethodName := ⟨"GateRoadsLaw", "view", "(LGateRoads;)J"⟩
abbrev b_X_ofPlace : ByteArray := prog_1_method_11_code
def y_X_ofPlace : MethodName := ⟨"GateRoads", "ofPlace", "(II)I"⟩
abbrev b_X_isPlace : ByteArray := prog_1_method_33_code
def y_X_isPlace : MethodName := ⟨"GateRoads", "isPlace", "(I)Z"⟩
abbrev b_X_within : ByteArray := prog_1_method_32_code
def y_X_within : MethodName := ⟨"GateRoads", "within", "(III)Z"⟩
abbrev b_S_roadsWith : ByteArray := prog_7_method_21_code
def y_S_roadsWith : MethodName := ⟨"GateRoads$State", "roadsWith", "(II)I"⟩
abbrev b_S_ofRoads : ByteArray := prog_7_method_7_code
def y_S_ofRoads : MethodName := ⟨"GateRoads$State", "ofRoads", "(II)I"⟩
abbrev b_S_travellersAt : ByteArray := prog_7_method_22_code
def y_S_travellersAt : MethodName := ⟨"GateRoads$State", "travellersAt", "(I)I"⟩
abbrev b_S_ofTravellers : ByteArray := prog_7_method_9_code
def y_S_ofTravellers : MethodName := ⟨"GateRoads$State", "ofTravellers", "(II)I"⟩
abbrev b_S_ofRooms : ByteArray := prog_7_method_6_code
def y_S_ofRooms : MethodName := ⟨"GateRoads$State", "ofRooms", "(II)I"⟩
abbrev b_X_ofRoad : ByteArray := prog_1_method_12_code
def y_X_ofRoad : MethodName := ⟨"GateRoads", "ofRoad", "(II)I"⟩
abbrev b_S_hasRoad : ByteArray := prog_7_method_3_code
def y_S_hasRoad : MethodName := ⟨"GateRoads$State", "hasRoad", "(I)Z"⟩
abbrev b_S_closuresOf : ByteArray := prog_7_method_23_code
def y_S_closuresOf : MethodName := ⟨"GateRoads$State", "closuresOf", "(I)I"⟩
abbrev b_S_ofClosures : ByteArray := prog_7_method_8_code
def y_S_ofClosures : MethodName := ⟨"GateRoads$State", "ofClosures", "(II)I"⟩
abbrev b_X_ofClosure : ByteArray := prog_1_method_13_code
def y_X_ofClosure : MethodName := ⟨"GateRoads", "ofClosure", "(II)I"⟩
abbrev b_S_hasClosure : ByteArray := prog_7_method_4_code
def y_S_hasClosure : MethodName := ⟨"GateRoads$State", "hasClosure", "(I)Z"⟩
abbrev b_X_ofTraveller : ByteArray := prog_1_method_14_code
def y_X_ofTraveller : MethodName := ⟨"GateRoads", "ofTraveller", "(II)I"⟩
abbrev b_S_hasTraveller : ByteArray := prog_7_method_5_code
def y_S_hasTraveller : MethodName := ⟨"GateRoads$State", "hasTraveller", "(I)Z"⟩
abbrev b_L_turn : ByteArray := method_6_code
def y_L_turn : MethodName := ⟨"GateRoadsLaw", "turn", "(LGateRoads;III)I"⟩
abbrev b_X_room : ByteArray := prog_1_method_2_code
def y_X_room : MethodName := ⟨"GateRoads", "room", "(IIII)I"⟩
abbrev b_X_remember : ByteArray := prog_1_method_37_code
def y_X_remember : MethodName := ⟨"GateRoads", "remember", "()V"⟩
abbrev b_S_copyFrom : ByteArray := prog_7_method_2_code
def y_S_copyFrom : MethodName := ⟨"GateRoads$State", "copyFrom", "(LGateRoads$State;)V"⟩
abbrev b_X_road : ByteArray := prog_1_method_3_code
def y_X_road : MethodName := ⟨"GateRoads", "road", "(III)I"⟩
abbrev b_S_addRoad : ByteArray := prog_7_method_10_code
def y_S_addRoad : MethodName := ⟨"GateRoads$State", "addRoad", "(III)I"⟩
abbrev b_S_dropSpans : ByteArray := prog_7_method_11_code
def y_S_dropSpans : MethodName := ⟨"GateRoads$State", "dropSpans", "(II)V"⟩
abbrev b_Ar_fill_1 : ByteArray := prog_12_method_104_code
def y_Ar_fill_1 : MethodName := ⟨"java/util/Arrays", "fill", "([IIII)V"⟩
abbrev b_Ar_rangeCheck : ByteArray := prog_12_method_30_code
def y_Ar_rangeCheck : MethodName := ⟨"java/util/Arrays", "rangeCheck", "(III)V"⟩
abbrev b_S_addSpan : ByteArray := prog_7_method_15_code
def y_S_addSpan : MethodName := ⟨"GateRoads$State", "addSpan", "(III)V"⟩
abbrev b_S_spanFrom : ByteArray := prog_7_method_12_code
def y_S_spanFrom : MethodName := ⟨"GateRoads$State", "spanFrom", "(II)I"⟩
abbrev b_S_spanTo : ByteArray := prog_7_method_13_code
def y_S_spanTo : MethodName := ⟨"GateRoads$State", "spanTo", "(II)I"⟩
abbrev b_X_open : ByteArray := prog_1_method_4_code
def y_X_open : MethodName := ⟨"GateRoads", "open", "(IIII)I"⟩
abbrev b_X_isSpan : ByteArray := prog_1_method_34_code
def y_X_isSpan : MethodName := ⟨"GateRoads", "isSpan", "(III)Z"⟩
abbrev b_X_more : ByteArray := prog_1_method_5_code
def y_X_more : MethodName := ⟨"GateRoads", "more", "(III)I"⟩
abbrev b_S_meetsSpan : ByteArray := prog_7_method_14_code
def y_S_meetsSpan : MethodName := ⟨"GateRoads$State", "meetsSpan", "(III)Z"⟩
abbrev b_X_close : ByteArray := prog_1_method_6_code
def y_X_close : MethodName := ⟨"GateRoads", "close", "(III)I"⟩
abbrev b_S_addClosure : ByteArray := prog_7_method_16_code
def y_S_addClosure : MethodName := ⟨"GateRoads$State", "addClosure", "(III)I"⟩
abbrev b_X_lift : ByteArray := prog_1_method_7_code
def y_X_lift : MethodName := ⟨"GateRoads", "lift", "(I)I"⟩
abbrev b_S_dropClosure : ByteArray := prog_7_method_17_code
def y_S_dropClosure : MethodName := ⟨"GateRoads$State", "dropClosure", "(I)V"⟩
abbrev b_X_traveller : ByteArray := prog_1_method_8_code
def y_X_traveller : MethodName := ⟨"GateRoads", "traveller", "(II)I"⟩
abbrev b_S_addTraveller : ByteArray := prog_7_method_18_code
def y_S_addTraveller : MethodName := ⟨"GateRoads$State", "addTraveller", "(II)I"⟩
abbrev b_X_go : ByteArray := prog_1_method_9_code
def y_X_go : MethodName := ⟨"GateRoads", "go", "(II)I"⟩
abbrev b_S_whyNoGoing : ByteArray := prog_7_method_27_code
def y_S_whyNoGoing : MethodName := ⟨"GateRoads$State", "whyNoGoing", "(II)I"⟩
abbrev b_S_whyNoEntry : ByteArray := prog_7_method_29_code
def y_S_whyNoEntry : MethodName := ⟨"GateRoads$State", "whyNoEntry", "(II)I"⟩
abbrev b_S_spanEnd : ByteArray := prog_7_method_30_code
def y_S_spanEnd : MethodName := ⟨"GateRoads$State", "spanEnd", "(II)I"⟩
abbrev b_S_closedAt : ByteArray := prog_7_method_31_code
def y_S_closedAt : MethodName := ⟨"GateRoads$State", "closedAt", "(II)Z"⟩
abbrev b_X_refuse : ByteArray := prog_1_method_38_code
def y_X_refuse : MethodName := ⟨"GateRoads", "refuse", "(I)I"⟩
abbrev b_S_enter : ByteArray := prog_7_method_19_code
def y_S_enter : MethodName := ⟨"GateRoads$State", "enter", "(II)I"⟩
abbrev b_X_stay : ByteArray := prog_1_method_10_code
def y_X_stay : MethodName := ⟨"GateRoads", "stay", "(II)I"⟩
abbrev b_S_whyNoStaying : ByteArray := prog_7_method_28_code
def y_S_whyNoStaying : MethodName := ⟨"GateRoads$State", "whyNoStaying", "(II)I"⟩
abbrev b_S_openUntil : ByteArray := prog_7_method_24_code
def y_S_openUntil : MethodName := ⟨"GateRoads$State", "openUntil", "(II)I"⟩
abbrev b_S_waitThere : ByteArray := prog_7_method_20_code
def y_S_waitThere : MethodName := ⟨"GateRoads$State", "waitThere", "(II)I"⟩
abbrev b_X_canStay : ByteArray := prog_1_method_24_code
def y_X_canStay : MethodName := ⟨"GateRoads", "canStay", "(I)I"⟩
abbrev b_S_stayLeft : ByteArray := prog_7_method_26_code
def y_S_stayLeft : MethodName := ⟨"GateRoads$State", "stayLeft", "(I)I"⟩
abbrev b_Ma_min : ByteArray := prog_10_method_69_code
def y_Ma_min : MethodName := ⟨"java/lang/Math", "min", "(II)I"⟩
abbrev b_Ma_max : ByteArray := prog_10_method_65_code
def y_Ma_max : MethodName := ⟨"java/lang/Math", "max", "(II)I"⟩
abbrev b_L_any : ByteArray := method_5_code
def y_L_any : MethodName := ⟨"GateRoadsLaw", "any", "(LGateRoads;II)I"⟩
abbrev b_L_areRight : ByteArray := method_7_code
def y_L_areRight : MethodName := ⟨"GateRoadsLaw", "areRight", "(LGateRoads;)Z"⟩
abbrev b_X_arrives : ByteArray := prog_1_method_23_code
def y_X_arrives : MethodName := ⟨"GateRoads", "arrives", "(II)I"⟩
abbrev b_X_firstComing : ByteArray := prog_1_method_40_code
def y_X_firstComing : MethodName := ⟨"GateRoads", "firstComing", "(IIIIII)I"⟩
abbrev b_G_prepare : ByteArray := prog_4_method_3_code
def y_G_prepare : MethodName := ⟨"GateRoads$Gates", "prepare", "(LGateRoads$State;)V"⟩
abbrev b_Ar_fill_0 : ByteArray := prog_12_method_103_code
def y_Ar_fill_0 : MethodName := ⟨"java/util/Arrays", "fill", "([II)V"⟩
abbrev b_G_letIn : ByteArray := prog_4_method_4_code
def y_G_letIn : MethodName := ⟨"GateRoads$Gates", "letIn", "(LGateRoads$State;II)V"⟩
abbrev b_G_shut : ByteArray := prog_4_method_5_code
def y_G_shut : MethodName := ⟨"GateRoads$Gates", "shut", "(LGateRoads$State;I)V"⟩
abbrev b_O_start : ByteArray := prog_5_method_2_code
def y_O_start : MethodName := ⟨"GateRoads$Onward", "start", "(II)V"⟩
abbrev b_O_comersAt : ByteArray := prog_5_method_3_code
def y_O_comersAt : MethodName := ⟨"GateRoads$Onward", "comersAt", "(I)I"⟩
abbrev b_X_has : ByteArray := prog_1_method_35_code
def y_X_has : MethodName := ⟨"GateRoads", "has", "(II)Z"⟩
abbrev b_G_at : ByteArray := prog_4_method_2_code
def y_G_at : MethodName := ⟨"GateRoads$Gates", "at", "(I)I"⟩
abbrev b_O_minute : ByteArray := prog_5_method_4_code
def y_O_minute : MethodName := ⟨"GateRoads$Onward", "minute", "(LGateRoads$State;II)I"⟩
abbrev b_S_waitEnd : ByteArray := prog_7_method_25_code
def y_S_waitEnd : MethodName := ⟨"GateRoads$State", "waitEnd", "(II)I"⟩
abbrev b_O_leave : ByteArray := prog_5_method_5_code
def y_O_leave : MethodName := ⟨"GateRoads$Onward", "leave", "(LGateRoads$State;III)V"⟩
abbrev b_L_isDue : ByteArray := method_8_code
def y_L_isDue : MethodName := ⟨"GateRoadsLaw", "isDue", "(LGateRoads;III)Z"⟩
abbrev b_X_whyShut : ByteArray := prog_1_method_16_code
def y_X_whyShut : MethodName := ⟨"GateRoads", "whyShut", "(II)I"⟩
abbrev b_L_isUndone : ByteArray := method_9_code
def y_L_isUndone : MethodName := ⟨"GateRoadsLaw", "isUndone", "(LGateRoads;IIIIJ)Z"⟩
abbrev b_X_undo : ByteArray := prog_1_method_29_code
def y_X_undo : MethodName := ⟨"GateRoads", "undo", "()I"⟩
abbrev b_L_isSaved : ByteArray := method_10_code
def y_L_isSaved : MethodName := ⟨"GateRoadsLaw", "isSaved", "(LGateRoads;II)Z"⟩
abbrev b_X_save : ByteArray := prog_1_method_30_code
def y_X_save : MethodName := ⟨"GateRoads", "save", "(I)I"⟩
abbrev b_X_restore : ByteArray := prog_1_method_31_code
def y_X_restore : MethodName := ⟨"GateRoads", "restore", "(I)I"⟩
theorem sh_0 : zShp[0]? = some (.inr (0, [1, 2, 3, 4, 5, -1, -1, -1])) := rfl
theorem sh_1 : zShp[1]? = some (.inl (0, 24)) := rfl
theorem sh_2 : zShp[2]? = some (.inl (0, 264)) := rfl
theorem sh_3 : zShp[3]? = some (.inl (0, 24)) := rfl
theorem sh_4 : zShp[4]? = some (.inl (0, 60)) := rfl
theorem sh_5 : zShp[5]? = some (.inl (0, 80)) := rfl
theorem sh_6 : zShp[6]? = some (.inr (0, [7, 8, 9, 10, 11, -1, -1, -1])) := rfl
theorem sh_7 : zShp[7]? = some (.inl (0, 24)) := rfl
theorem sh_8 : zShp[8]? = some (.inl (0, 264)) := rfl
theorem sh_9 : zShp[9]? = some (.inl (0, 24)) := rfl
theorem sh_10 : zShp[10]? = some (.inl (0, 60)) := rfl
theorem sh_11 : zShp[11]? = some (.inl (0, 80)) := rfl
theorem sh_12 : zShp[12]? = some (.inr (0, [13, 14, 15, 16, 17, -1, -1, -1])) := rfl
theorem sh_13 : zShp[13]? = some (.inl (0, 24)) := rfl
theorem sh_14 : zShp[14]? = some (.inl (0, 264)) := rfl
theorem sh_15 : zShp[15]? = some (.inl (0, 24)) := rfl
theorem sh_16 : zShp[16]? = some (.inl (0, 60)) := rfl
theorem sh_17 : zShp[17]? = some (.inl (0, 80)) := rfl
theorem sh_18 : zShp[18]? = some (.inr (0, [19, 20, 21, 22, 23, -1, -1, -1])) := rfl
theorem sh_19 : zShp[19]? = some (.inl (0, 24)) := rfl
theorem sh_20 : zShp[20]? = some (.inl (0, 264)) := rfl
theorem sh_21 : zShp[21]? = some (.inl (0, 24)) := rfl
theorem sh_22 : zShp[22]? = some (.inl (0, 60)) := rfl
theorem sh_23 : zShp[23]? = some (.inl (0, 80)) := rfl
theorem sh_24 : zShp[24]? = some (.inr (0, [25, 26, 27, 28, 29, -1, -1, -1])) := rfl
theorem sh_25 : zShp[25]? = some (.inl (0, 24)) := rfl
theorem sh_26 : zShp[26]? = some (.inl (0, 264)) := rfl
theorem sh_27 : zShp[27]? = some (.inl (0, 24)) := rfl
theorem sh_28 : zShp[28]? = some (.inl (0, 60)) := rfl
theorem sh_29 : zShp[29]? = some (.inl (0, 80)) := rfl
theorem sh_30 : zShp[30]? = some (.inr (0, [31, 32, 33, 34, 35, -1, -1, -1])) := rfl
theorem sh_31 : zShp[31]? = some (.inl (0, 24)) := rfl
theorem sh_32 : zShp[32]? = some (.inl (0, 264)) := rfl
theorem sh_33 : zShp[33]? = some (.inl (0, 24)) := rfl
theorem sh_34 : zShp[34]? = some (.inl (0, 60)) := rfl
theorem sh_35 : zShp[35]? = some (.inl (0, 80)) := rfl
theorem sh_36 : zShp[36]? = some (.inr (0, [37, 38, 39, 40, 41, -1, -1, -1])) := rfl
theorem sh_37 : zShp[37]? = some (.inl (0, 24)) := rfl
theorem sh_38 : zShp[38]? = some (.inl (0, 264)) := rfl
theorem sh_39 : zShp[39]? = some (.inl (0, 24)) := rfl
theorem sh_40 : zShp[40]? = some (.inl (0, 60)) := rfl
theorem sh_41 : zShp[41]? = some (.inl (0, 80)) := rfl
theorem sh_42 : zShp[42]? = some (.inr (0, [43, 44, 45, 46, 47, -1, -1, -1])) := rfl
theorem sh_43 : zShp[43]? = some (.inl (0, 24)) := rfl
theorem sh_44 : zShp[44]? = some (.inl (0, 264)) := rfl
theorem sh_45 : zShp[45]? = some (.inl (0, 24)) := rfl
theorem sh_46 : zShp[46]? = some (.inl (0, 60)) := rfl
theorem sh_47 : zShp[47]? = some (.inl (0, 80)) := rfl
theorem sh_48 : zShp[48]? = some (.inr (0, [49, 50, 51, 52, 53, -1, -1, -1])) := rfl
theorem sh_49 : zShp[49]? = some (.inl (0, 24)) := rfl
theorem sh_50 : zShp[50]? = some (.inl (0, 264)) := rfl
theorem sh_51 : zShp[51]? = some (.inl (0, 24)) := rfl
theorem sh_52 : zShp[52]? = some (.inl (0, 60)) := rfl
theorem sh_53 : zShp[53]? = some (.inl (0, 80)) := rfl
theorem sh_54 : zShp[54]? = some (.inr (1, [0, 55, -1, 56, 57, -1, 58, -1, 62, 64, 67, 70, 73])) := rfl
theorem sh_55 : zShp[55]? = some (.inl (3, 6)) := rfl
theorem sh_56 : zShp[56]? = some (.inl (3, 2)) := rfl
theorem sh_57 : zShp[57]? = some (.inl (1, 2)) := rfl
theorem sh_58 : zShp[58]? = some (.inr (2, [59, -1, -1, -1, -1, 60, 61, -1, -1])) := rfl
theorem sh_59 : zShp[59]? = some (.inl (2, 80)) := rfl
theorem sh_60 : zShp[60]? = some (.inl (0, 3)) := rfl
theorem sh_61 : zShp[61]? = some (.inl (0, 6)) := rfl
theorem sh_62 : zShp[62]? = some (.inr (3, [63, -1])) := rfl
theorem sh_63 : zShp[63]? = some (.inl (0, 2881)) := rfl
theorem sh_64 : zShp[64]? = some (.inr (4, [65, 66])) := rfl
theorem sh_65 : zShp[65]? = some (.inl (0, 1024)) := rfl
theorem sh_66 : zShp[66]? = some (.inl (0, 8)) := rfl
theorem sh_67 : zShp[67]? = some (.inr (4, [68, 69])) := rfl
theorem sh_68 : zShp[68]? = some (.inl (0, 1024)) := rfl
theorem sh_69 : zShp[69]? = some (.inl (0, 8)) := rfl
theorem sh_70 : zShp[70]? = some (.inr (5, [71, 72, -1, -1])) := rfl
theorem sh_71 : zShp[71]? = some (.inl (0, 2881)) := rfl
theorem sh_72 : zShp[72]? = some (.inl (0, 8)) := rfl
theorem sh_73 : zShp[73]? = some (.inr (6, [74, 75, 76, 77, 78])) := rfl
theorem sh_74 : zShp[74]? = some (.inl (0, 8192)) := rfl
theorem sh_75 : zShp[75]? = some (.inl (0, 8192)) := rfl
theorem sh_76 : zShp[76]? = some (.inl (0, 8)) := rfl
theorem sh_77 : zShp[77]? = some (.inl (0, 8)) := rfl
theorem sh_78 : zShp[78]? = some (.inl (0, 8)) := rfl
set_option maxRecDepth 100000 in
theorem zs_max : Cond.static Lib.Math.max.name ∈ zTb := tw_2 185 rfl rfl
set_option maxRecDepth 100000 in
theorem zc_max : Cond.code Lib.Math.max.name Lib.Math.max.code 2 (some .int) ∈ zTb := tw_2 186 rfl rfl
set_option maxRecDepth 100000 in
theorem zs_min : Cond.static Lib.Math.min.name ∈ zTb := tw_2 182 rfl rfl
set_option maxRecDepth 100000 in
theorem zc_min : Cond.code Lib.Math.min.name Lib.Math.min.code 2 (some .int) ∈ zTb := tw_2 183 rfl rfl
set_option maxRecDepth 100000 in
theorem zi_Math : Cond.initialized "java/lang/Math" ∈ zTb := tw_1 10 rfl rfl
set_option maxRecDepth 100000 in
theorem zi_Sys : Cond.initialized "java/lang/System" ∈ zTb := tw_1 8 rfl rfl
set_option maxRecDepth 100000 in
theorem zn_copy : Cond.native arraycopyName ∈ zTb := tw_2 56 rfl rfl
set_option maxRecDepth 100000 in
theorem zs_copy : Cond.static arraycopyName ∈ zTb := tw_2 55 rfl rfl
set_option maxRecDepth 100000 in
theorem ml_L_97 : Cond.methodLink "GateRoadsLaw" 97 ⟨"GateRoads", "<init>", "()V"⟩ ∈ zTb := tw_1 13 rfl rfl
set_option maxRecDepth 100000 in
theorem ml_X_11 : Cond.methodLink "GateRoads" 11 ⟨"GateRoads$State", "<init>", "()V"⟩ ∈ zTb := tw_1 21 rfl rfl
set_option maxRecDepth 100000 in
theorem fl_S_9 : Cond.fieldLink "GateRoads$State" 9 "GateRoads$State" "rooms" "[I" ∈ zTb := tw_1 25 rfl rfl
set_option maxRecDepth 100000 in
theorem fl_X_76 : Cond.fieldLink "GateRoads" 76 "GateRoads$State" "rooms" "[I" ∈ zTb := tw_1 26 rfl rfl
set_option maxRecDepth 100000 in
theorem fl_S_15 : Cond.fieldLink "GateRoads$State" 15 "GateRoads$State" "roads" "[I" ∈ zTb := tw_1 27 rfl rfl
set_option maxRecDepth 100000 in
theorem fl_S_18 : Cond.fieldLink "GateRoads$State" 18 "GateRoads$State" "entered" "[I" ∈ zTb := tw_1 28 rfl rfl
set_option maxRecDepth 100000 in
theorem fl_X_159 : Cond.fieldLink "GateRoads" 159 "GateRoads$State" "entered" "[I" ∈ zTb := tw_1 29 rfl rfl
set_option maxRecDepth 100000 in
theorem fl_S_21 : Cond.fieldLink "GateRoads$State" 21 "GateRoads$State" "closures" "[I" ∈ zTb := tw_1 30 rfl rfl
set_option maxRecDepth 100000 in
theorem fl_S_24 : Cond.fieldLink "GateRoads$State" 24 "GateRoads$State" "travellers" "[I" ∈ zTb := tw_1 31 rfl rfl
set_option maxRecDepth 100000 in
theorem fl_S_33 : Cond.fieldLink "GateRoads$State" 33 "GateRoads$State" "roadCount" "I" ∈ zTb := tw_1 32 rfl rfl
set_option maxRecDepth 100000 in
theorem fl_G_25 : Cond.fieldLink "GateRoads$Gates" 25 "GateRoads$State" "roadCount" "I" ∈ zTb := tw_1 33 rfl rfl
set_option maxRecDepth 100000 in
theorem fl_X_80 : Cond.fieldLink "GateRoads" 80 "GateRoads$State" "roadCount" "I" ∈ zTb := tw_1 34 rfl rfl
set_option maxRecDepth 100000 in
theorem fl_O_43 : Cond.fieldLink "GateRoads$Onward" 43 "GateRoads$State" "roadCount" "I" ∈ zTb := tw_1 35 rfl rfl
set_option maxRecDepth 100000 in
theorem fl_S_37 : Cond.fieldLink "GateRoads$State" 37 "GateRoads$State" "closureCount" "I" ∈ zTb := tw_1 36 rfl rfl
set_option maxRecDepth 100000 in
theorem fl_G_39 : Cond.fieldLink "GateRoads$Gates" 39 "GateRoads$State" "closureCount" "I" ∈ zTb := tw_1 37 rfl rfl
set_option maxRecDepth 100000 in
theorem fl_X_109 : Cond.fieldLink "GateRoads" 109 "GateRoads$State" "closureCount" "I" ∈ zTb := tw_1 38 rfl rfl
set_option maxRecDepth 100000 in
theorem fl_S_40 : Cond.fieldLink "GateRoads$State" 40 "GateRoads$State" "travellerCount" "I" ∈ zTb := tw_1 39 rfl rfl
set_option maxRecDepth 100000 in
theorem fl_X_122 : Cond.fieldLink "GateRoads" 122 "GateRoads$State" "travellerCount" "I" ∈ zTb := tw_1 40 rfl rfl
set_option maxRecDepth 100000 in
theorem fl_P_9 : Cond.fieldLink "GateRoads$Pad" 9 "GateRoads$Pad" "text" "[C" ∈ zTb := tw_1 66 rfl rfl
set_option maxRecDepth 100000 in
theorem fl_X_171 : Cond.fieldLink "GateRoads" 171 "GateRoads$Pad" "length" "I" ∈ zTb := tw_1 67 rfl rfl
set_option maxRecDepth 100000 in
theorem fl_P_15 : Cond.fieldLink "GateRoads$Pad" 15 "GateRoads$Pad" "numbers" "[I" ∈ zTb := tw_1 68 rfl rfl
set_option maxRecDepth 100000 in
theorem fl_P_19 : Cond.fieldLink "GateRoads$Pad" 19 "GateRoads$Pad" "clocks" "[I" ∈ zTb := tw_1 69 rfl rfl
set_option maxRecDepth 100000 in
theorem fl_G_9 : Cond.fieldLink "GateRoads$Gates" 9 "GateRoads$Gates" "roadsAt" "[I" ∈ zTb := tw_1 97 rfl rfl
set_option maxRecDepth 100000 in
theorem fl_G_15 : Cond.fieldLink "GateRoads$Gates" 15 "GateRoads$Gates" "ready" "Z" ∈ zTb := tw_1 98 rfl rfl
set_option maxRecDepth 100000 in
theorem fl_X_282 : Cond.fieldLink "GateRoads" 282 "GateRoads$Gates" "ready" "Z" ∈ zTb := tw_1 99 rfl rfl
set_option maxRecDepth 100000 in
theorem fl_O_9 : Cond.fieldLink "GateRoads$Onward" 9 "GateRoads$Onward" "comers" "[I" ∈ zTb := tw_1 111 rfl rfl
set_option maxRecDepth 100000 in
theorem fl_O_15 : Cond.fieldLink "GateRoads$Onward" 15 "GateRoads$Onward" "until" "[I" ∈ zTb := tw_1 112 rfl rfl
set_option maxRecDepth 100000 in
theorem fl_B_9 : Cond.fieldLink "GateRoads$Backward" 9 "GateRoads$Backward" "leading" "[I" ∈ zTb := tw_1 124 rfl rfl
set_option maxRecDepth 100000 in
theorem fl_B_15 : Cond.fieldLink "GateRoads$Backward" 15 "GateRoads$Backward" "nextEntry" "[I" ∈ zTb := tw_1 125 rfl rfl
set_option maxRecDepth 100000 in
theorem fl_F_9 : Cond.fieldLink "GateRoads$Fewest" 9 "GateRoads$Fewest" "coming" "[I" ∈ zTb := tw_1 141 rfl rfl
set_option maxRecDepth 100000 in
theorem fl_F_15 : Cond.fieldLink "GateRoads$Fewest" 15 "GateRoads$Fewest" "queue" "[I" ∈ zTb := tw_1 142 rfl rfl
set_option maxRecDepth 100000 in
theorem fl_F_18 : Cond.fieldLink "GateRoads$Fewest" 18 "GateRoads$Fewest" "head" "[I" ∈ zTb := tw_1 143 rfl rfl
set_option maxRecDepth 100000 in
theorem fl_F_21 : Cond.fieldLink "GateRoads$Fewest" 21 "GateRoads$Fewest" "tail" "[I" ∈ zTb := tw_1 144 rfl rfl
set_option maxRecDepth 100000 in
theorem fl_F_24 : Cond.fieldLink "GateRoads$Fewest" 24 "GateRoads$Fewest" "best" "[I" ∈ zTb := tw_1 145 rfl rfl
set_option maxRecDepth 100000 in
theorem fl_X_12 : Cond.fieldLink "GateRoads" 12 "GateRoads" "now" "LGateRoads$State;" ∈ zTb := tw_1 157 rfl rfl
set_option maxRecDepth 100000 in
theorem fl_X_16 : Cond.fieldLink "GateRoads" 16 "GateRoads" "history" "[LGateRoads$State;" ∈ zTb := tw_1 158 rfl rfl
set_option maxRecDepth 100000 in
theorem fl_X_174 : Cond.fieldLink "GateRoads" 174 "GateRoads" "changes" "I" ∈ zTb := tw_1 159 rfl rfl
set_option maxRecDepth 100000 in
theorem fl_X_20 : Cond.fieldLink "GateRoads" 20 "GateRoads" "slots" "[LGateRoads$State;" ∈ zTb := tw_1 160 rfl rfl
set_option maxRecDepth 100000 in
theorem fl_X_23 : Cond.fieldLink "GateRoads" 23 "GateRoads" "saved" "[Z" ∈ zTb := tw_1 161 rfl rfl
set_option maxRecDepth 100000 in
theorem fl_X_168 : Cond.fieldLink "GateRoads" 168 "GateRoads" "reason" "I" ∈ zTb := tw_1 162 rfl rfl
set_option maxRecDepth 100000 in
theorem fl_X_30 : Cond.fieldLink "GateRoads" 30 "GateRoads" "pad" "LGateRoads$Pad;" ∈ zTb := tw_1 163 rfl rfl
set_option maxRecDepth 100000 in
theorem fl_X_262 : Cond.fieldLink "GateRoads" 262 "GateRoads" "carrying" "Z" ∈ zTb := tw_1 164 rfl rfl
set_option maxRecDepth 100000 in
theorem fl_X_37 : Cond.fieldLink "GateRoads" 37 "GateRoads" "gates" "LGateRoads$Gates;" ∈ zTb := tw_1 165 rfl rfl
set_option maxRecDepth 100000 in
theorem fl_X_44 : Cond.fieldLink "GateRoads" 44 "GateRoads" "onward" "LGateRoads$Onward;" ∈ zTb := tw_1 166 rfl rfl
set_option maxRecDepth 100000 in
theorem fl_X_48 : Cond.fieldLink "GateRoads" 48 "GateRoads" "otherOnward" "LGateRoads$Onward;" ∈ zTb := tw_1 167 rfl rfl
set_option maxRecDepth 100000 in
theorem fl_X_54 : Cond.fieldLink "GateRoads" 54 "GateRoads" "backward" "LGateRoads$Backward;" ∈ zTb := tw_1 168 rfl rfl
set_option maxRecDepth 100000 in
theorem fl_X_61 : Cond.fieldLink "GateRoads" 61 "GateRoads" "fewest" "LGateRoads$Fewest;" ∈ zTb := tw_1 169 rfl rfl
set_option maxRecDepth 100000 in
theorem ml_L_13 : Cond.methodLink "GateRoadsLaw" 13 ⟨"GateRoads", "count", "(I)I"⟩ ∈ zTb := tw_1 197 rfl rfl
set_option maxRecDepth 100000 in
theorem ml_L_98 : Cond.methodLink "GateRoadsLaw" 98 ⟨"GateRoadsLaw", "cell", "([II)I"⟩ ∈ zTb := tw_1 201 rfl rfl
set_option maxRecDepth 100000 in
theorem ck_L_7 : Cond.constant "GateRoadsLaw" 7 (763049417 : Int32) ∈ zTb := tw_1 204 rfl rfl
set_option maxRecDepth 100000 in
theorem ml_L_58 : Cond.methodLink "GateRoadsLaw" 58 ⟨"GateRoadsLaw", "up", "(II)I"⟩ ∈ zTb := tw_1 205 rfl rfl
set_option maxRecDepth 100000 in
theorem ck_L_8 : Cond.constant "GateRoadsLaw" 8 (2147483647 : Int32) ∈ zTb := tw_1 208 rfl rfl
set_option maxRecDepth 100000 in
theorem ml_L_83 : Cond.methodLink "GateRoadsLaw" 83 ⟨"GateRoadsLaw", "view", "(LGateRoads;)J"⟩ ∈ zTb := tw_1 209 rfl rfl
set_option maxRecDepth 100000 in
theorem cl_L_9 : Cond.constantLong "GateRoadsLaw" 9 (7 : Int64) ∈ zTb := tw_1 212 rfl rfl
set_option maxRecDepth 100000 in
theorem cl_L_11 : Cond.constantLong "GateRoadsLaw" 11 (31 : Int64) ∈ zTb := tw_1 213 rfl rfl
set_option maxRecDepth 100000 in
theorem ml_L_19 : Cond.methodLink "GateRoadsLaw" 19 ⟨"GateRoads", "ofPlace", "(II)I"⟩ ∈ zTb := tw_1 214 rfl rfl
set_option maxRecDepth 100000 in
theorem ml_X_65 : Cond.methodLink "GateRoads" 65 ⟨"GateRoads", "isPlace", "(I)Z"⟩ ∈ zTb := tw_1 218 rfl rfl
set_option maxRecDepth 100000 in
theorem ml_X_69 : Cond.methodLink "GateRoads" 69 ⟨"GateRoads", "within", "(III)Z"⟩ ∈ zTb := tw_1 221 rfl rfl
set_option maxRecDepth 100000 in
theorem ml_X_147 : Cond.methodLink "GateRoads" 147 ⟨"GateRoads$State", "roadsWith", "(II)I"⟩ ∈ zTb := tw_1 224 rfl rfl
set_option maxRecDepth 100000 in
theorem ml_S_57 : Cond.methodLink "GateRoads$State" 57 ⟨"GateRoads$State", "ofRoads", "(II)I"⟩ ∈ zTb := tw_1 228 rfl rfl
set_option maxRecDepth 100000 in
theorem ml_X_150 : Cond.methodLink "GateRoads" 150 ⟨"GateRoads$State", "travellersAt", "(I)I"⟩ ∈ zTb := tw_1 232 rfl rfl
set_option maxRecDepth 100000 in
theorem ml_S_67 : Cond.methodLink "GateRoads$State" 67 ⟨"GateRoads$State", "ofTravellers", "(II)I"⟩ ∈ zTb := tw_1 236 rfl rfl
set_option maxRecDepth 100000 in
theorem ml_X_153 : Cond.methodLink "GateRoads" 153 ⟨"GateRoads$State", "ofRooms", "(II)I"⟩ ∈ zTb := tw_2 0 rfl rfl
set_option maxRecDepth 100000 in
theorem ml_L_23 : Cond.methodLink "GateRoadsLaw" 23 ⟨"GateRoads", "ofRoad", "(II)I"⟩ ∈ zTb := tw_2 4 rfl rfl
set_option maxRecDepth 100000 in
theorem ml_X_88 : Cond.methodLink "GateRoads" 88 ⟨"GateRoads$State", "hasRoad", "(I)Z"⟩ ∈ zTb := tw_2 8 rfl rfl
set_option maxRecDepth 100000 in
theorem ml_X_156 : Cond.methodLink "GateRoads" 156 ⟨"GateRoads$State", "closuresOf", "(I)I"⟩ ∈ zTb := tw_2 12 rfl rfl
set_option maxRecDepth 100000 in
theorem ml_S_70 : Cond.methodLink "GateRoads$State" 70 ⟨"GateRoads$State", "ofClosures", "(II)I"⟩ ∈ zTb := tw_2 16 rfl rfl
set_option maxRecDepth 100000 in
theorem ml_X_94 : Cond.methodLink "GateRoads" 94 ⟨"GateRoads$State", "ofRoads", "(II)I"⟩ ∈ zTb := tw_2 20 rfl rfl
set_option maxRecDepth 100000 in
theorem ml_L_26 : Cond.methodLink "GateRoadsLaw" 26 ⟨"GateRoads", "ofClosure", "(II)I"⟩ ∈ zTb := tw_2 21 rfl rfl
set_option maxRecDepth 100000 in
theorem ml_X_115 : Cond.methodLink "GateRoads" 115 ⟨"GateRoads$State", "hasClosure", "(I)Z"⟩ ∈ zTb := tw_2 25 rfl rfl
set_option maxRecDepth 100000 in
theorem ml_X_162 : Cond.methodLink "GateRoads" 162 ⟨"GateRoads$State", "ofClosures", "(II)I"⟩ ∈ zTb := tw_2 29 rfl rfl
set_option maxRecDepth 100000 in
theorem ml_L_29 : Cond.methodLink "GateRoadsLaw" 29 ⟨"GateRoads", "ofTraveller", "(II)I"⟩ ∈ zTb := tw_2 30 rfl rfl
set_option maxRecDepth 100000 in
theorem ml_X_128 : Cond.methodLink "GateRoads" 128 ⟨"GateRoads$State", "hasTraveller", "(I)Z"⟩ ∈ zTb := tw_2 34 rfl rfl
set_option maxRecDepth 100000 in
theorem ml_X_165 : Cond.methodLink "GateRoads" 165 ⟨"GateRoads$State", "ofTravellers", "(II)I"⟩ ∈ zTb := tw_2 38 rfl rfl
set_option maxRecDepth 100000 in
theorem ml_L_87 : Cond.methodLink "GateRoadsLaw" 87 ⟨"GateRoadsLaw", "turn", "(LGateRoads;III)I"⟩ ∈ zTb := tw_2 39 rfl rfl
set_option maxRecDepth 100000 in
theorem ml_L_32 : Cond.methodLink "GateRoadsLaw" 32 ⟨"GateRoads", "room", "(IIII)I"⟩ ∈ zTb := tw_2 42 rfl rfl
set_option maxRecDepth 100000 in
theorem ml_X_73 : Cond.methodLink "GateRoads" 73 ⟨"GateRoads", "remember", "()V"⟩ ∈ zTb := tw_2 46 rfl rfl
set_option maxRecDepth 100000 in
theorem ml_X_279 : Cond.methodLink "GateRoads" 279 ⟨"GateRoads$State", "copyFrom", "(LGateRoads$State;)V"⟩ ∈ zTb := tw_2 50 rfl rfl
set_option maxRecDepth 100000 in
theorem ml_S_27 : Cond.methodLink "GateRoads$State" 27 ⟨"java/lang/System", "arraycopy", "(Ljava/lang/Object;ILjava/lang/Object;II)V"⟩ ∈ zTb := tw_2 54 rfl rfl
set_option maxRecDepth 100000 in
theorem ml_L_36 : Cond.methodLink "GateRoadsLaw" 36 ⟨"GateRoads", "road", "(III)I"⟩ ∈ zTb := tw_2 57 rfl rfl
set_option maxRecDepth 100000 in
theorem ml_X_84 : Cond.methodLink "GateRoads" 84 ⟨"GateRoads$State", "addRoad", "(III)I"⟩ ∈ zTb := tw_2 61 rfl rfl
set_option maxRecDepth 100000 in
theorem ml_S_43 : Cond.methodLink "GateRoads$State" 43 ⟨"GateRoads$State", "dropSpans", "(II)V"⟩ ∈ zTb := tw_2 65 rfl rfl
set_option maxRecDepth 100000 in
theorem ml_S_51 : Cond.methodLink "GateRoads$State" 51 ⟨"java/util/Arrays", "fill", "([IIII)V"⟩ ∈ zTb := tw_2 69 rfl rfl
set_option maxRecDepth 100000 in
theorem ml_Ar_13 : Cond.methodLink "java/util/Arrays" 13 ⟨"java/util/Arrays", "rangeCheck", "(III)V"⟩ ∈ zTb := tw_2 72 rfl rfl
set_option maxRecDepth 100000 in
theorem ml_S_47 : Cond.methodLink "GateRoads$State" 47 ⟨"GateRoads$State", "addSpan", "(III)V"⟩ ∈ zTb := tw_2 75 rfl rfl
set_option maxRecDepth 100000 in
theorem ml_S_64 : Cond.methodLink "GateRoads$State" 64 ⟨"GateRoads$State", "spanFrom", "(II)I"⟩ ∈ zTb := tw_2 79 rfl rfl
set_option maxRecDepth 100000 in
theorem ml_S_61 : Cond.methodLink "GateRoads$State" 61 ⟨"GateRoads$State", "spanTo", "(II)I"⟩ ∈ zTb := tw_2 83 rfl rfl
set_option maxRecDepth 100000 in
theorem ml_L_40 : Cond.methodLink "GateRoadsLaw" 40 ⟨"GateRoads", "open", "(IIII)I"⟩ ∈ zTb := tw_2 87 rfl rfl
set_option maxRecDepth 100000 in
theorem ml_X_91 : Cond.methodLink "GateRoads" 91 ⟨"GateRoads", "isSpan", "(III)Z"⟩ ∈ zTb := tw_2 91 rfl rfl
set_option maxRecDepth 100000 in
theorem ml_X_98 : Cond.methodLink "GateRoads" 98 ⟨"GateRoads$State", "dropSpans", "(II)V"⟩ ∈ zTb := tw_2 94 rfl rfl
set_option maxRecDepth 100000 in
theorem ml_X_102 : Cond.methodLink "GateRoads" 102 ⟨"GateRoads$State", "addSpan", "(III)V"⟩ ∈ zTb := tw_2 95 rfl rfl
set_option maxRecDepth 100000 in
theorem ml_L_43 : Cond.methodLink "GateRoadsLaw" 43 ⟨"GateRoads", "more", "(III)I"⟩ ∈ zTb := tw_2 96 rfl rfl
set_option maxRecDepth 100000 in
theorem ml_X_106 : Cond.methodLink "GateRoads" 106 ⟨"GateRoads$State", "meetsSpan", "(III)Z"⟩ ∈ zTb := tw_2 100 rfl rfl
set_option maxRecDepth 100000 in
theorem ml_L_46 : Cond.methodLink "GateRoadsLaw" 46 ⟨"GateRoads", "close", "(III)I"⟩ ∈ zTb := tw_2 104 rfl rfl
set_option maxRecDepth 100000 in
theorem ml_X_112 : Cond.methodLink "GateRoads" 112 ⟨"GateRoads$State", "addClosure", "(III)I"⟩ ∈ zTb := tw_2 108 rfl rfl
set_option maxRecDepth 100000 in
theorem ml_L_49 : Cond.methodLink "GateRoadsLaw" 49 ⟨"GateRoads", "lift", "(I)I"⟩ ∈ zTb := tw_2 112 rfl rfl
set_option maxRecDepth 100000 in
theorem ml_X_118 : Cond.methodLink "GateRoads" 118 ⟨"GateRoads$State", "dropClosure", "(I)V"⟩ ∈ zTb := tw_2 116 rfl rfl
set_option maxRecDepth 100000 in
theorem ml_L_52 : Cond.methodLink "GateRoadsLaw" 52 ⟨"GateRoads", "traveller", "(II)I"⟩ ∈ zTb := tw_2 120 rfl rfl
set_option maxRecDepth 100000 in
theorem ml_X_125 : Cond.methodLink "GateRoads" 125 ⟨"GateRoads$State", "addTraveller", "(II)I"⟩ ∈ zTb := tw_2 124 rfl rfl
set_option maxRecDepth 100000 in
theorem ml_L_63 : Cond.methodLink "GateRoadsLaw" 63 ⟨"GateRoads", "go", "(II)I"⟩ ∈ zTb := tw_2 128 rfl rfl
set_option maxRecDepth 100000 in
theorem ml_X_131 : Cond.methodLink "GateRoads" 131 ⟨"GateRoads$State", "whyNoGoing", "(II)I"⟩ ∈ zTb := tw_2 132 rfl rfl
set_option maxRecDepth 100000 in
theorem ml_S_87 : Cond.methodLink "GateRoads$State" 87 ⟨"GateRoads$State", "whyNoEntry", "(II)I"⟩ ∈ zTb := tw_2 136 rfl rfl
set_option maxRecDepth 100000 in
theorem ml_S_90 : Cond.methodLink "GateRoads$State" 90 ⟨"GateRoads$State", "spanEnd", "(II)I"⟩ ∈ zTb := tw_2 140 rfl rfl
set_option maxRecDepth 100000 in
theorem ml_S_93 : Cond.methodLink "GateRoads$State" 93 ⟨"GateRoads$State", "closedAt", "(II)Z"⟩ ∈ zTb := tw_2 144 rfl rfl
set_option maxRecDepth 100000 in
theorem ml_X_134 : Cond.methodLink "GateRoads" 134 ⟨"GateRoads", "refuse", "(I)I"⟩ ∈ zTb := tw_2 148 rfl rfl
set_option maxRecDepth 100000 in
theorem ml_X_138 : Cond.methodLink "GateRoads" 138 ⟨"GateRoads$State", "enter", "(II)I"⟩ ∈ zTb := tw_2 152 rfl rfl
set_option maxRecDepth 100000 in
theorem ml_L_55 : Cond.methodLink "GateRoadsLaw" 55 ⟨"GateRoads", "stay", "(II)I"⟩ ∈ zTb := tw_2 156 rfl rfl
set_option maxRecDepth 100000 in
theorem ml_X_141 : Cond.methodLink "GateRoads" 141 ⟨"GateRoads$State", "whyNoStaying", "(II)I"⟩ ∈ zTb := tw_2 160 rfl rfl
set_option maxRecDepth 100000 in
theorem ml_S_76 : Cond.methodLink "GateRoads$State" 76 ⟨"GateRoads$State", "openUntil", "(II)I"⟩ ∈ zTb := tw_2 164 rfl rfl
set_option maxRecDepth 100000 in
theorem ml_S_73 : Cond.methodLink "GateRoads$State" 73 ⟨"GateRoads$State", "ofRooms", "(II)I"⟩ ∈ zTb := tw_2 168 rfl rfl
set_option maxRecDepth 100000 in
theorem ml_X_144 : Cond.methodLink "GateRoads" 144 ⟨"GateRoads$State", "waitThere", "(II)I"⟩ ∈ zTb := tw_2 169 rfl rfl
set_option maxRecDepth 100000 in
theorem ml_L_66 : Cond.methodLink "GateRoadsLaw" 66 ⟨"GateRoads", "canStay", "(I)I"⟩ ∈ zTb := tw_2 173 rfl rfl
set_option maxRecDepth 100000 in
theorem ml_X_237 : Cond.methodLink "GateRoads" 237 ⟨"GateRoads$State", "stayLeft", "(I)I"⟩ ∈ zTb := tw_2 177 rfl rfl
set_option maxRecDepth 100000 in
theorem ml_S_79 : Cond.methodLink "GateRoads$State" 79 ⟨"java/lang/Math", "min", "(II)I"⟩ ∈ zTb := tw_2 181 rfl rfl
set_option maxRecDepth 100000 in
theorem ml_S_84 : Cond.methodLink "GateRoads$State" 84 ⟨"java/lang/Math", "max", "(II)I"⟩ ∈ zTb := tw_2 184 rfl rfl
set_option maxRecDepth 100000 in
theorem ml_L_69 : Cond.methodLink "GateRoadsLaw" 69 ⟨"GateRoadsLaw", "any", "(LGateRoads;II)I"⟩ ∈ zTb := tw_2 187 rfl rfl
set_option maxRecDepth 100000 in
theorem ml_L_114 : Cond.methodLink "GateRoadsLaw" 114 ⟨"GateRoadsLaw", "areRight", "(LGateRoads;)Z"⟩ ∈ zTb := tw_2 190 rfl rfl
set_option maxRecDepth 100000 in
theorem ml_L_73 : Cond.methodLink "GateRoadsLaw" 73 ⟨"GateRoads", "arrives", "(II)I"⟩ ∈ zTb := tw_2 193 rfl rfl
set_option maxRecDepth 100000 in
theorem ml_X_233 : Cond.methodLink "GateRoads" 233 ⟨"GateRoads", "firstComing", "(IIIIII)I"⟩ ∈ zTb := tw_2 197 rfl rfl
set_option maxRecDepth 100000 in
theorem ml_X_183 : Cond.methodLink "GateRoads" 183 ⟨"GateRoads$Gates", "prepare", "(LGateRoads$State;)V"⟩ ∈ zTb := tw_2 201 rfl rfl
set_option maxRecDepth 100000 in
theorem ml_G_19 : Cond.methodLink "GateRoads$Gates" 19 ⟨"java/util/Arrays", "fill", "([II)V"⟩ ∈ zTb := tw_2 205 rfl rfl
set_option maxRecDepth 100000 in
theorem ml_G_31 : Cond.methodLink "GateRoads$Gates" 31 ⟨"GateRoads$State", "ofRoads", "(II)I"⟩ ∈ zTb := tw_2 208 rfl rfl
set_option maxRecDepth 100000 in
theorem ml_G_35 : Cond.methodLink "GateRoads$Gates" 35 ⟨"GateRoads$Gates", "letIn", "(LGateRoads$State;II)V"⟩ ∈ zTb := tw_2 209 rfl rfl
set_option maxRecDepth 100000 in
theorem ml_G_46 : Cond.methodLink "GateRoads$Gates" 46 ⟨"GateRoads$State", "spanTo", "(II)I"⟩ ∈ zTb := tw_2 213 rfl rfl
set_option maxRecDepth 100000 in
theorem ml_G_49 : Cond.methodLink "GateRoads$Gates" 49 ⟨"java/lang/Math", "min", "(II)I"⟩ ∈ zTb := tw_2 214 rfl rfl
set_option maxRecDepth 100000 in
theorem ml_G_54 : Cond.methodLink "GateRoads$Gates" 54 ⟨"GateRoads$State", "spanFrom", "(II)I"⟩ ∈ zTb := tw_2 215 rfl rfl
set_option maxRecDepth 100000 in
theorem ml_G_42 : Cond.methodLink "GateRoads$Gates" 42 ⟨"GateRoads$Gates", "shut", "(LGateRoads$State;I)V"⟩ ∈ zTb := tw_2 216 rfl rfl
set_option maxRecDepth 100000 in
theorem ml_G_57 : Cond.methodLink "GateRoads$Gates" 57 ⟨"GateRoads$State", "ofClosures", "(II)I"⟩ ∈ zTb := tw_2 220 rfl rfl
set_option maxRecDepth 100000 in
theorem ml_X_220 : Cond.methodLink "GateRoads" 220 ⟨"GateRoads$Onward", "start", "(II)V"⟩ ∈ zTb := tw_2 221 rfl rfl
set_option maxRecDepth 100000 in
theorem ml_O_18 : Cond.methodLink "GateRoads$Onward" 18 ⟨"java/util/Arrays", "fill", "([II)V"⟩ ∈ zTb := tw_2 225 rfl rfl
set_option maxRecDepth 100000 in
theorem ml_X_221 : Cond.methodLink "GateRoads" 221 ⟨"GateRoads$Onward", "comersAt", "(I)I"⟩ ∈ zTb := tw_2 226 rfl rfl
set_option maxRecDepth 100000 in
theorem ml_X_230 : Cond.methodLink "GateRoads" 230 ⟨"GateRoads", "has", "(II)Z"⟩ ∈ zTb := tw_2 230 rfl rfl
set_option maxRecDepth 100000 in
theorem ml_X_190 : Cond.methodLink "GateRoads" 190 ⟨"GateRoads$Gates", "at", "(I)I"⟩ ∈ zTb := tw_2 233 rfl rfl
set_option maxRecDepth 100000 in
theorem ml_X_224 : Cond.methodLink "GateRoads" 224 ⟨"GateRoads$Onward", "minute", "(LGateRoads$State;II)I"⟩ ∈ zTb := tw_2 237 rfl rfl
set_option maxRecDepth 100000 in
theorem ml_O_28 : Cond.methodLink "GateRoads$Onward" 28 ⟨"GateRoads$State", "waitEnd", "(II)I"⟩ ∈ zTb := tw_3 2 rfl rfl
set_option maxRecDepth 100000 in
theorem ml_O_34 : Cond.methodLink "GateRoads$Onward" 34 ⟨"java/lang/Math", "max", "(II)I"⟩ ∈ zTb := tw_3 6 rfl rfl
set_option maxRecDepth 100000 in
theorem ml_O_39 : Cond.methodLink "GateRoads$Onward" 39 ⟨"GateRoads$Onward", "leave", "(LGateRoads$State;III)V"⟩ ∈ zTb := tw_3 7 rfl rfl
set_option maxRecDepth 100000 in
theorem ml_O_47 : Cond.methodLink "GateRoads$Onward" 47 ⟨"GateRoads$State", "ofRoads", "(II)I"⟩ ∈ zTb := tw_3 11 rfl rfl
set_option maxRecDepth 100000 in
theorem ml_L_110 : Cond.methodLink "GateRoadsLaw" 110 ⟨"GateRoadsLaw", "isDue", "(LGateRoads;III)Z"⟩ ∈ zTb := tw_3 12 rfl rfl
set_option maxRecDepth 100000 in
theorem ml_L_76 : Cond.methodLink "GateRoadsLaw" 76 ⟨"GateRoads", "whyShut", "(II)I"⟩ ∈ zTb := tw_3 15 rfl rfl
set_option maxRecDepth 100000 in
theorem ml_X_177 : Cond.methodLink "GateRoads" 177 ⟨"GateRoads$State", "whyNoEntry", "(II)I"⟩ ∈ zTb := tw_3 19 rfl rfl
set_option maxRecDepth 100000 in
theorem ml_L_102 : Cond.methodLink "GateRoadsLaw" 102 ⟨"GateRoadsLaw", "isUndone", "(LGateRoads;IIIIJ)Z"⟩ ∈ zTb := tw_3 20 rfl rfl
set_option maxRecDepth 100000 in
theorem ml_L_79 : Cond.methodLink "GateRoadsLaw" 79 ⟨"GateRoads", "undo", "()I"⟩ ∈ zTb := tw_3 23 rfl rfl
set_option maxRecDepth 100000 in
theorem ml_L_106 : Cond.methodLink "GateRoadsLaw" 106 ⟨"GateRoadsLaw", "isSaved", "(LGateRoads;II)Z"⟩ ∈ zTb := tw_3 27 rfl rfl
set_option maxRecDepth 100000 in
theorem ml_L_91 : Cond.methodLink "GateRoadsLaw" 91 ⟨"GateRoads", "save", "(I)I"⟩ ∈ zTb := tw_3 30 rfl rfl
set_option maxRecDepth 100000 in
theorem ml_L_94 : Cond.methodLink "GateRoadsLaw" 94 ⟨"GateRoads", "restore", "(I)I"⟩ ∈ zTb := tw_3 34 rfl rfl
def zMI (y : MethodName) (bytes : ByteArray) (maxL : Nat) (ret : Option FieldType) (n : Nat) : Prop := Cond.instanceMethod y ∈ zTb ∧ Cond.selects y.cls y y ∈ zTb ∧ Cond.initialized y.cls ∈ zTb ∧ Cond.code y bytes maxL ret ∈ zTb ∧ y.cls ≠ "java/lang/invoke/MethodHandle" ∧ y.cls ≠ "java/lang/invoke/VarHandle" ∧ (parseMethodDescriptor y.desc).map (fun d => d.parameters.length) = some n
def zMS (y : MethodName) (bytes : ByteArray) (maxL : Nat) (ret : Option FieldType) (n : Nat) : Prop := Cond.static y ∈ zTb ∧ Cond.initialized y.cls ∈ zTb ∧ Cond.code y bytes maxL ret ∈ zTb ∧ y.cls ≠ "java/lang/invoke/MethodHandle" ∧ y.cls ≠ "java/lang/invoke/VarHandle" ∧ (parseMethodDescriptor y.desc).map (fun d => d.parameters.length) = some n
set_option maxRecDepth 100000 in
theorem mi_X_count : zMI y_X_count b_X_count 2 (some .int) 1 := ⟨tw_1 198 rfl rfl, tw_1 199 rfl rfl, tw_1 1 rfl rfl, tw_1 200 rfl rfl, by decide, by decide, by decide +kernel⟩
set_option maxRecDepth 100000 in
theorem ms_L_cell : zMS y_L_cell b_L_cell 2 (some .int) 2 := ⟨tw_1 202 rfl rfl, tw_1 0 rfl rfl, tw_1 203 rfl rfl, by decide, by decide, by decide +kernel⟩
set_option maxRecDepth 100000 in
theorem ms_L_up : zMS y_L_up b_L_up 2 (some .int) 2 := ⟨tw_1 206 rfl rfl, tw_1 0 rfl rfl, tw_1 207 rfl rfl, by decide, by decide, by decide +kernel⟩
set_option maxRecDepth 100000 in
theorem ms_L_view : zMS y_L_view b_L_view 5 (some .long) 1 := ⟨tw_1 210 rfl rfl, tw_1 0 rfl rfl, tw_1 211 rfl rfl, by decide, by decide, by decide +kernel⟩
set_option maxRecDepth 100000 in
theorem mi_X_ofPlace : zMI y_X_ofPlace b_X_ofPlace 3 (some .int) 2 := ⟨tw_1 215 rfl rfl, tw_1 216 rfl rfl, tw_1 1 rfl rfl, tw_1 217 rfl rfl, by decide, by decide, by decide +kernel⟩
set_option maxRecDepth 100000 in
theorem ms_X_isPlace : zMS y_X_isPlace b_X_isPlace 1 (some .boolean) 1 := ⟨tw_1 219 rfl rfl, tw_1 1 rfl rfl, tw_1 220 rfl rfl, by decide, by decide, by decide +kernel⟩
set_option maxRecDepth 100000 in
theorem ms_X_within : zMS y_X_within b_X_within 3 (some .boolean) 3 := ⟨tw_1 222 rfl rfl, tw_1 1 rfl rfl, tw_1 223 rfl rfl, by decide, by decide, by decide +kernel⟩
set_option maxRecDepth 100000 in
theorem mi_S_roadsWith : zMI y_S_roadsWith b_S_roadsWith 5 (some .int) 2 := ⟨tw_1 225 rfl rfl, tw_1 226 rfl rfl, tw_1 2 rfl rfl, tw_1 227 rfl rfl, by decide, by decide, by decide +kernel⟩
set_option maxRecDepth 100000 in
theorem mi_S_ofRoads : zMI y_S_ofRoads b_S_ofRoads 3 (some .int) 2 := ⟨tw_1 229 rfl rfl, tw_1 230 rfl rfl, tw_1 2 rfl rfl, tw_1 231 rfl rfl, by decide, by decide, by decide +kernel⟩
set_option maxRecDepth 100000 in
theorem mi_S_travellersAt : zMI y_S_travellersAt b_S_travellersAt 4 (some .int) 1 := ⟨tw_1 233 rfl rfl, tw_1 234 rfl rfl, tw_1 2 rfl rfl, tw_1 235 rfl rfl, by decide, by decide, by decide +kernel⟩
set_option maxRecDepth 100000 in
theorem mi_S_ofTravellers : zMI y_S_ofTravellers b_S_ofTravellers 3 (some .int) 2 := ⟨tw_1 237 rfl rfl, tw_1 238 rfl rfl, tw_1 2 rfl rfl, tw_1 239 rfl rfl, by decide, by decide, by decide +kernel⟩
set_option maxRecDepth 100000 in
theorem mi_S_ofRooms : zMI y_S_ofRooms b_S_ofRooms 3 (some .int) 2 := ⟨tw_2 1 rfl rfl, tw_2 2 rfl rfl, tw_1 2 rfl rfl, tw_2 3 rfl rfl, by decide, by decide, by decide +kernel⟩
set_option maxRecDepth 100000 in
theorem mi_X_ofRoad : zMI y_X_ofRoad b_X_ofRoad 3 (some .int) 2 := ⟨tw_2 5 rfl rfl, tw_2 6 rfl rfl, tw_1 1 rfl rfl, tw_2 7 rfl rfl, by decide, by decide, by decide +kernel⟩
set_option maxRecDepth 100000 in
theorem mi_S_hasRoad : zMI y_S_hasRoad b_S_hasRoad 2 (some .boolean) 1 := ⟨tw_2 9 rfl rfl, tw_2 10 rfl rfl, tw_1 2 rfl rfl, tw_2 11 rfl rfl, by decide, by decide, by decide +kernel⟩
set_option maxRecDepth 100000 in
theorem mi_S_closuresOf : zMI y_S_closuresOf b_S_closuresOf 4 (some .int) 1 := ⟨tw_2 13 rfl rfl, tw_2 14 rfl rfl, tw_1 2 rfl rfl, tw_2 15 rfl rfl, by decide, by decide, by decide +kernel⟩
set_option maxRecDepth 100000 in
theorem mi_S_ofClosures : zMI y_S_ofClosures b_S_ofClosures 3 (some .int) 2 := ⟨tw_2 17 rfl rfl, tw_2 18 rfl rfl, tw_1 2 rfl rfl, tw_2 19 rfl rfl, by decide, by decide, by decide +kernel⟩
set_option maxRecDepth 100000 in
theorem mi_X_ofClosure : zMI y_X_ofClosure b_X_ofClosure 3 (some .int) 2 := ⟨tw_2 22 rfl rfl, tw_2 23 rfl rfl, tw_1 1 rfl rfl, tw_2 24 rfl rfl, by decide, by decide, by decide +kernel⟩
set_option maxRecDepth 100000 in
theorem mi_S_hasClosure : zMI y_S_hasClosure b_S_hasClosure 2 (some .boolean) 1 := ⟨tw_2 26 rfl rfl, tw_2 27 rfl rfl, tw_1 2 rfl rfl, tw_2 28 rfl rfl, by decide, by decide, by decide +kernel⟩
set_option maxRecDepth 100000 in
theorem mi_X_ofTraveller : zMI y_X_ofTraveller b_X_ofTraveller 3 (some .int) 2 := ⟨tw_2 31 rfl rfl, tw_2 32 rfl rfl, tw_1 1 rfl rfl, tw_2 33 rfl rfl, by decide, by decide, by decide +kernel⟩
set_option maxRecDepth 100000 in
theorem mi_S_hasTraveller : zMI y_S_hasTraveller b_S_hasTraveller 2 (some .boolean) 1 := ⟨tw_2 35 rfl rfl, tw_2 36 rfl rfl, tw_1 2 rfl rfl, tw_2 37 rfl rfl, by decide, by decide, by decide +kernel⟩
set_option maxRecDepth 100000 in
theorem ms_L_turn : zMS y_L_turn b_L_turn 6 (some .int) 4 := ⟨tw_2 40 rfl rfl, tw_1 0 rfl rfl, tw_2 41 rfl rfl, by decide, by decide, by decide +kernel⟩
set_option maxRecDepth 100000 in
theorem mi_X_room : zMI y_X_room b_X_room 7 (some .int) 4 := ⟨tw_2 43 rfl rfl, tw_2 44 rfl rfl, tw_1 1 rfl rfl, tw_2 45 rfl rfl, by decide, by decide, by decide +kernel⟩
set_option maxRecDepth 100000 in
theorem mi_X_remember : zMI y_X_remember b_X_remember 3 (none) 0 := ⟨tw_2 48 rfl rfl, tw_l 0 rfl rfl, tw_1 1 rfl rfl, tw_2 49 rfl rfl, by decide, by decide, by decide +kernel⟩
set_option maxRecDepth 100000 in
theorem mi_S_copyFrom : zMI y_S_copyFrom b_S_copyFrom 2 (none) 1 := ⟨tw_2 51 rfl rfl, tw_2 52 rfl rfl, tw_1 2 rfl rfl, tw_2 53 rfl rfl, by decide, by decide, by decide +kernel⟩
set_option maxRecDepth 100000 in
theorem mi_X_road : zMI y_X_road b_X_road 4 (some .int) 3 := ⟨tw_2 58 rfl rfl, tw_2 59 rfl rfl, tw_1 1 rfl rfl, tw_2 60 rfl rfl, by decide, by decide, by decide +kernel⟩
set_option maxRecDepth 100000 in
theorem mi_S_addRoad : zMI y_S_addRoad b_S_addRoad 6 (some .int) 3 := ⟨tw_2 62 rfl rfl, tw_2 63 rfl rfl, tw_1 2 rfl rfl, tw_2 64 rfl rfl, by decide, by decide, by decide +kernel⟩
set_option maxRecDepth 100000 in
theorem mi_S_dropSpans : zMI y_S_dropSpans b_S_dropSpans 4 (none) 2 := ⟨tw_2 66 rfl rfl, tw_2 67 rfl rfl, tw_1 2 rfl rfl, tw_2 68 rfl rfl, by decide, by decide, by decide +kernel⟩
set_option maxRecDepth 100000 in
theorem ms_Ar_fill_1 : zMS y_Ar_fill_1 b_Ar_fill_1 5 (none) 4 := ⟨tw_2 70 rfl rfl, tw_1 9 rfl rfl, tw_2 71 rfl rfl, by decide, by decide, by decide +kernel⟩
set_option maxRecDepth 100000 in
theorem ms_Ar_rangeCheck : zMS y_Ar_rangeCheck b_Ar_rangeCheck 3 (none) 3 := ⟨tw_2 73 rfl rfl, tw_1 9 rfl rfl, tw_2 74 rfl rfl, by decide, by decide, by decide +kernel⟩
set_option maxRecDepth 100000 in
theorem mi_S_addSpan : zMI y_S_addSpan b_S_addSpan 7 (none) 3 := ⟨tw_2 76 rfl rfl, tw_2 77 rfl rfl, tw_1 2 rfl rfl, tw_2 78 rfl rfl, by decide, by decide, by decide +kernel⟩
set_option maxRecDepth 100000 in
theorem mi_S_spanFrom : zMI y_S_spanFrom b_S_spanFrom 3 (some .int) 2 := ⟨tw_2 80 rfl rfl, tw_2 81 rfl rfl, tw_1 2 rfl rfl, tw_2 82 rfl rfl, by decide, by decide, by decide +kernel⟩
set_option maxRecDepth 100000 in
theorem mi_S_spanTo : zMI y_S_spanTo b_S_spanTo 3 (some .int) 2 := ⟨tw_2 84 rfl rfl, tw_2 85 rfl rfl, tw_1 2 rfl rfl, tw_2 86 rfl rfl, by decide, by decide, by decide +kernel⟩
set_option maxRecDepth 100000 in
theorem mi_X_open : zMI y_X_open b_X_open 6 (some .int) 4 := ⟨tw_2 88 rfl rfl, tw_2 89 rfl rfl, tw_1 1 rfl rfl, tw_2 90 rfl rfl, by decide, by decide, by decide +kernel⟩
set_option maxRecDepth 100000 in
theorem ms_X_isSpan : zMS y_X_isSpan b_X_isSpan 3 (some .boolean) 3 := ⟨tw_2 92 rfl rfl, tw_1 1 rfl rfl, tw_2 93 rfl rfl, by decide, by decide, by decide +kernel⟩
set_option maxRecDepth 100000 in
theorem mi_X_more : zMI y_X_more b_X_more 4 (some .int) 3 := ⟨tw_2 97 rfl rfl, tw_2 98 rfl rfl, tw_1 1 rfl rfl, tw_2 99 rfl rfl, by decide, by decide, by decide +kernel⟩
set_option maxRecDepth 100000 in
theorem mi_S_meetsSpan : zMI y_S_meetsSpan b_S_meetsSpan 6 (some .boolean) 3 := ⟨tw_2 101 rfl rfl, tw_2 102 rfl rfl, tw_1 2 rfl rfl, tw_2 103 rfl rfl, by decide, by decide, by decide +kernel⟩
set_option maxRecDepth 100000 in
theorem mi_X_close : zMI y_X_close b_X_close 4 (some .int) 3 := ⟨tw_2 105 rfl rfl, tw_2 106 rfl rfl, tw_1 1 rfl rfl, tw_2 107 rfl rfl, by decide, by decide, by decide +kernel⟩
set_option maxRecDepth 100000 in
theorem mi_S_addClosure : zMI y_S_addClosure b_S_addClosure 5 (some .int) 3 := ⟨tw_2 109 rfl rfl, tw_2 110 rfl rfl, tw_1 2 rfl rfl, tw_2 111 rfl rfl, by decide, by decide, by decide +kernel⟩
set_option maxRecDepth 100000 in
theorem mi_X_lift : zMI y_X_lift b_X_lift 2 (some .int) 1 := ⟨tw_2 113 rfl rfl, tw_2 114 rfl rfl, tw_1 1 rfl rfl, tw_2 115 rfl rfl, by decide, by decide, by decide +kernel⟩
set_option maxRecDepth 100000 in
theorem mi_S_dropClosure : zMI y_S_dropClosure b_S_dropClosure 3 (none) 1 := ⟨tw_2 117 rfl rfl, tw_2 118 rfl rfl, tw_1 2 rfl rfl, tw_2 119 rfl rfl, by decide, by decide, by decide +kernel⟩
set_option maxRecDepth 100000 in
theorem mi_X_traveller : zMI y_X_traveller b_X_traveller 3 (some .int) 2 := ⟨tw_2 121 rfl rfl, tw_2 122 rfl rfl, tw_1 1 rfl rfl, tw_2 123 rfl rfl, by decide, by decide, by decide +kernel⟩
set_option maxRecDepth 100000 in
theorem mi_S_addTraveller : zMI y_S_addTraveller b_S_addTraveller 4 (some .int) 2 := ⟨tw_2 125 rfl rfl, tw_2 126 rfl rfl, tw_1 2 rfl rfl, tw_2 127 rfl rfl, by decide, by decide, by decide +kernel⟩
set_option maxRecDepth 100000 in
theorem mi_X_go : zMI y_X_go b_X_go 4 (some .int) 2 := ⟨tw_2 129 rfl rfl, tw_2 130 rfl rfl, tw_1 1 rfl rfl, tw_2 131 rfl rfl, by decide, by decide, by decide +kernel⟩
set_option maxRecDepth 100000 in
theorem mi_S_whyNoGoing : zMI y_S_whyNoGoing b_S_whyNoGoing 3 (some .int) 2 := ⟨tw_2 133 rfl rfl, tw_2 134 rfl rfl, tw_1 2 rfl rfl, tw_2 135 rfl rfl, by decide, by decide, by decide +kernel⟩
set_option maxRecDepth 100000 in
theorem mi_S_whyNoEntry : zMI y_S_whyNoEntry b_S_whyNoEntry 6 (some .int) 2 := ⟨tw_2 137 rfl rfl, tw_2 138 rfl rfl, tw_1 2 rfl rfl, tw_2 139 rfl rfl, by decide, by decide, by decide +kernel⟩
set_option maxRecDepth 100000 in
theorem mi_S_spanEnd : zMI y_S_spanEnd b_S_spanEnd 5 (some .int) 2 := ⟨tw_2 141 rfl rfl, tw_2 142 rfl rfl, tw_1 2 rfl rfl, tw_2 143 rfl rfl, by decide, by decide, by decide +kernel⟩
set_option maxRecDepth 100000 in
theorem mi_S_closedAt : zMI y_S_closedAt b_S_closedAt 4 (some .boolean) 2 := ⟨tw_2 145 rfl rfl, tw_2 146 rfl rfl, tw_1 2 rfl rfl, tw_2 147 rfl rfl, by decide, by decide, by decide +kernel⟩
set_option maxRecDepth 100000 in
theorem mi_X_refuse : zMI y_X_refuse b_X_refuse 2 (some .int) 1 := ⟨tw_2 150 rfl rfl, tw_l 1 rfl rfl, tw_1 1 rfl rfl, tw_2 151 rfl rfl, by decide, by decide, by decide +kernel⟩
set_option maxRecDepth 100000 in
theorem mi_S_enter : zMI y_S_enter b_S_enter 6 (some .int) 2 := ⟨tw_2 153 rfl rfl, tw_2 154 rfl rfl, tw_1 2 rfl rfl, tw_2 155 rfl rfl, by decide, by decide, by decide +kernel⟩
set_option maxRecDepth 100000 in
theorem mi_X_stay : zMI y_X_stay b_X_stay 4 (some .int) 2 := ⟨tw_2 157 rfl rfl, tw_2 158 rfl rfl, tw_1 1 rfl rfl, tw_2 159 rfl rfl, by decide, by decide, by decide +kernel⟩
set_option maxRecDepth 100000 in
theorem mi_S_whyNoStaying : zMI y_S_whyNoStaying b_S_whyNoStaying 5 (some .int) 2 := ⟨tw_2 161 rfl rfl, tw_2 162 rfl rfl, tw_1 2 rfl rfl, tw_2 163 rfl rfl, by decide, by decide, by decide +kernel⟩
set_option maxRecDepth 100000 in
theorem mi_S_openUntil : zMI y_S_openUntil b_S_openUntil 6 (some .int) 2 := ⟨tw_2 165 rfl rfl, tw_2 166 rfl rfl, tw_1 2 rfl rfl, tw_2 167 rfl rfl, by decide, by decide, by decide +kernel⟩
set_option maxRecDepth 100000 in
theorem mi_S_waitThere : zMI y_S_waitThere b_S_waitThere 4 (some .int) 2 := ⟨tw_2 170 rfl rfl, tw_2 171 rfl rfl, tw_1 2 rfl rfl, tw_2 172 rfl rfl, by decide, by decide, by decide +kernel⟩
set_option maxRecDepth 100000 in
theorem mi_X_canStay : zMI y_X_canStay b_X_canStay 2 (some .int) 1 := ⟨tw_2 174 rfl rfl, tw_2 175 rfl rfl, tw_1 1 rfl rfl, tw_2 176 rfl rfl, by decide, by decide, by decide +kernel⟩
set_option maxRecDepth 100000 in
theorem mi_S_stayLeft : zMI y_S_stayLeft b_S_stayLeft 6 (some .int) 1 := ⟨tw_2 178 rfl rfl, tw_2 179 rfl rfl, tw_1 2 rfl rfl, tw_2 180 rfl rfl, by decide, by decide, by decide +kernel⟩
set_option maxRecDepth 100000 in
theorem ms_Ma_min : zMS y_Ma_min b_Ma_min 2 (some .int) 2 := ⟨tw_2 182 rfl rfl, tw_1 10 rfl rfl, tw_2 183 rfl rfl, by decide, by decide, by decide +kernel⟩
set_option maxRecDepth 100000 in
theorem ms_Ma_max : zMS y_Ma_max b_Ma_max 2 (some .int) 2 := ⟨tw_2 185 rfl rfl, tw_1 10 rfl rfl, tw_2 186 rfl rfl, by decide, by decide, by decide +kernel⟩
set_option maxRecDepth 100000 in
theorem ms_L_any : zMS y_L_any b_L_any 3 (some .int) 3 := ⟨tw_2 188 rfl rfl, tw_1 0 rfl rfl, tw_2 189 rfl rfl, by decide, by decide, by decide +kernel⟩
set_option maxRecDepth 100000 in
theorem ms_L_areRight : zMS y_L_areRight b_L_areRight 6 (some .boolean) 1 := ⟨tw_2 191 rfl rfl, tw_1 0 rfl rfl, tw_2 192 rfl rfl, by decide, by decide, by decide +kernel⟩
set_option maxRecDepth 100000 in
theorem mi_X_arrives : zMI y_X_arrives b_X_arrives 5 (some .int) 2 := ⟨tw_2 194 rfl rfl, tw_2 195 rfl rfl, tw_1 1 rfl rfl, tw_2 196 rfl rfl, by decide, by decide, by decide +kernel⟩
set_option maxRecDepth 100000 in
theorem mi_X_firstComing : zMI y_X_firstComing b_X_firstComing 8 (some .int) 6 := ⟨tw_2 199 rfl rfl, tw_l 2 rfl rfl, tw_1 1 rfl rfl, tw_2 200 rfl rfl, by decide, by decide, by decide +kernel⟩
set_option maxRecDepth 100000 in
theorem mi_G_prepare : zMI y_G_prepare b_G_prepare 5 (none) 1 := ⟨tw_2 202 rfl rfl, tw_2 203 rfl rfl, tw_1 4 rfl rfl, tw_2 204 rfl rfl, by decide, by decide, by decide +kernel⟩
set_option maxRecDepth 100000 in
theorem ms_Ar_fill_0 : zMS y_Ar_fill_0 b_Ar_fill_0 4 (none) 2 := ⟨tw_2 206 rfl rfl, tw_1 9 rfl rfl, tw_2 207 rfl rfl, by decide, by decide, by decide +kernel⟩
set_option maxRecDepth 100000 in
theorem mi_G_letIn : zMI y_G_letIn b_G_letIn 10 (none) 3 := ⟨tw_2 211 rfl rfl, tw_l 3 rfl rfl, tw_1 4 rfl rfl, tw_2 212 rfl rfl, by decide, by decide, by decide +kernel⟩
set_option maxRecDepth 100000 in
theorem mi_G_shut : zMI y_G_shut b_G_shut 6 (none) 2 := ⟨tw_2 218 rfl rfl, tw_l 4 rfl rfl, tw_1 4 rfl rfl, tw_2 219 rfl rfl, by decide, by decide, by decide +kernel⟩
set_option maxRecDepth 100000 in
theorem mi_O_start : zMI y_O_start b_O_start 3 (none) 2 := ⟨tw_2 222 rfl rfl, tw_2 223 rfl rfl, tw_1 5 rfl rfl, tw_2 224 rfl rfl, by decide, by decide, by decide +kernel⟩
set_option maxRecDepth 100000 in
theorem mi_O_comersAt : zMI y_O_comersAt b_O_comersAt 2 (some .int) 1 := ⟨tw_2 227 rfl rfl, tw_2 228 rfl rfl, tw_1 5 rfl rfl, tw_2 229 rfl rfl, by decide, by decide, by decide +kernel⟩
set_option maxRecDepth 100000 in
theorem ms_X_has : zMS y_X_has b_X_has 2 (some .boolean) 2 := ⟨tw_2 231 rfl rfl, tw_1 1 rfl rfl, tw_2 232 rfl rfl, by decide, by decide, by decide +kernel⟩
set_option maxRecDepth 100000 in
theorem mi_G_at : zMI y_G_at b_G_at 2 (some .int) 1 := ⟨tw_2 234 rfl rfl, tw_2 235 rfl rfl, tw_1 4 rfl rfl, tw_2 236 rfl rfl, by decide, by decide, by decide +kernel⟩
set_option maxRecDepth 100000 in
theorem mi_O_minute : zMI y_O_minute b_O_minute 7 (some .int) 3 := ⟨tw_2 238 rfl rfl, tw_2 239 rfl rfl, tw_1 5 rfl rfl, tw_3 0 rfl rfl, by decide, by decide, by decide +kernel⟩
set_option maxRecDepth 100000 in
theorem mi_S_waitEnd : zMI y_S_waitEnd b_S_waitEnd 4 (some .int) 2 := ⟨tw_3 3 rfl rfl, tw_3 4 rfl rfl, tw_1 2 rfl rfl, tw_3 5 rfl rfl, by decide, by decide, by decide +kernel⟩
set_option maxRecDepth 100000 in
theorem mi_O_leave : zMI y_O_leave b_O_leave 7 (none) 4 := ⟨tw_3 9 rfl rfl, tw_l 5 rfl rfl, tw_1 5 rfl rfl, tw_3 10 rfl rfl, by decide, by decide, by decide +kernel⟩
set_option maxRecDepth 100000 in
theorem ms_L_isDue : zMS y_L_isDue b_L_isDue 8 (some .boolean) 4 := ⟨tw_3 13 rfl rfl, tw_1 0 rfl rfl, tw_3 14 rfl rfl, by decide, by decide, by decide +kernel⟩
set_option maxRecDepth 100000 in
theorem mi_X_whyShut : zMI y_X_whyShut b_X_whyShut 3 (some .int) 2 := ⟨tw_3 16 rfl rfl, tw_3 17 rfl rfl, tw_1 1 rfl rfl, tw_3 18 rfl rfl, by decide, by decide, by decide +kernel⟩
set_option maxRecDepth 100000 in
theorem ms_L_isUndone : zMS y_L_isUndone b_L_isUndone 8 (some .boolean) 6 := ⟨tw_3 21 rfl rfl, tw_1 0 rfl rfl, tw_3 22 rfl rfl, by decide, by decide, by decide +kernel⟩
set_option maxRecDepth 100000 in
theorem mi_X_undo : zMI y_X_undo b_X_undo 1 (some .int) 0 := ⟨tw_3 24 rfl rfl, tw_3 25 rfl rfl, tw_1 1 rfl rfl, tw_3 26 rfl rfl, by decide, by decide, by decide +kernel⟩
set_option maxRecDepth 100000 in
theorem ms_L_isSaved : zMS y_L_isSaved b_L_isSaved 7 (some .boolean) 3 := ⟨tw_3 28 rfl rfl, tw_1 0 rfl rfl, tw_3 29 rfl rfl, by decide, by decide, by decide +kernel⟩
set_option maxRecDepth 100000 in
theorem mi_X_save : zMI y_X_save b_X_save 2 (some .int) 1 := ⟨tw_3 31 rfl rfl, tw_3 32 rfl rfl, tw_1 1 rfl rfl, tw_3 33 rfl rfl, by decide, by decide, by decide +kernel⟩
set_option maxRecDepth 100000 in
theorem mi_X_restore : zMI y_X_restore b_X_restore 2 (some .int) 1 := ⟨tw_3 35 rfl rfl, tw_3 36 rfl rfl, tw_1 1 rfl rfl, tw_3 37 rfl rfl, by decide, by decide, by decide +kernel⟩
